/-! judge, and whether shifts can be done -/
theorem t_judge : qT_judge qR := by
  intro M1 M2 hR x1
  have hR0 := hR
  obtain ⟨⟨A, hc, hd, hw⟩, ⟨S, p, s1, s2, s3, s4⟩, -, -⟩ := hR
  unfold kX7_judge kX8_judge
  rcases rg x1 0 1 (by omega) (by omega) with ⟨a1, a2⟩ | ⟨a1, -, a2, a3⟩ | ⟨y, -, hy, e, a1, -, a2, a3⟩
  · rw [if_pos (show x1 < 0 from a1), show kX8_in x1 0 1 = some 0 from a2, qb1_some, if00, qOk2_some, qOk2_some]
    exact ⟨rfl, hR0⟩
  · rw [if_neg (show ¬ x1 < 0 from a1), if_neg (show ¬ x1 ≤ 1 from a2), show kX8_in x1 0 1 = some 0 from a3, qb1_some, if00, qOk2_some, qOk2_some]
    exact ⟨rfl, hR0⟩
  rw [if_neg (show ¬ x1 < 0 from a1), if_pos (show x1 ≤ 1 from a2), show kX8_in x1 0 1 = some 1 from a3, qb1_some, if10, qOk2_b2]
  clear a1 a2 a3
  have h2 : ∀ i, i < S → M2 9 i = nI (p i) ∧ 33 ≤ p i ∧ p i ≤ 126 := fun i hi => (s4 i hi).2
  refine qOk2.m (readActs_eq (S := S) (p := p) ⟨s1, s2, fun i hi => ⟨(s4 i hi).1, (s4 i hi).2.2⟩⟩) (fun r N ⟨n1, n2, n3⟩ => ?_)
  rcases n3 with ⟨er, h, K, k1, k2, k3, k4⟩ | ⟨f, er, hh⟩
  · have fo : kX8_faultOf M2 = some (-6) := by rw [fo_end s1 s3 h2 h, if_pos rfl]
    have hcN : qC 1 N A := hc.same (fun k _ _ => n1 k (by omega))
    have ref := goShifts_eq hd hw s1 s3 (fun i hi => (s4 i hi).2.1) k1 k3 (fun m hm => by
      obtain ⟨k, v, x, z, -⟩ := k4 m hm
      exact ⟨k, v, x, z⟩)
    rw [er, if_pos rfl, qOk2_b1]
    refine qOk.m (tryActs_eq hcN hw k1 k2 k4) (fun T ⟨t1, t2⟩ => ?_)
    have kk : qK1 M1 T := ⟨fun k hk => by rw [t1 k (by omega), n1 k (by omega)], by rw [t1 39 (by omega)]; exact n2, by rw [t1 40 (by omega), n1 40 (by omega)]⟩
    subst e
    rcases t2 with ⟨m, b1, b2, b3, b4, b5⟩ | ⟨b1, b2, b3, -, -, -⟩
    · have l2 : (if nI y = 0 then some (T 47 1) else some (T 47 2)) = some (if y = 0 then nI m else nI (yT p S A m)) := by
        rcases (show y = 0 ∨ y = 1 by omega) with z | z
        · rw [if_pos (show nI y = 0 by rw [z]; rfl), if_pos z, b4]
        · rw [if_neg (show ¬ nI y = 0 by rw [z]; decide), if_neg (by omega), b5]
      rw [l2, qb1_some, qOk2_some, fo, qb1_some, if_pos (by decide), qOk2_b2]
      refine qOk2.m ref (fun r2 Q ⟨u1, u2, u3⟩ => ?_)
      rcases u3 with ⟨m', c1, c2, c3, c4, c5⟩ | ⟨c1, -⟩
      · have em := fst_eq b2 b3 c2 c3
        subst em
        rw [c4, if_neg (nI_pos (by omega)), qOk2_b1]
        rcases (show y = 0 ∨ y = 1 by omega) with z | z
        · rw [if_pos (show nI y = 0 by rw [z]; rfl), qOk_some, qOk2_some, if_pos z]
          exact ⟨rfl, hR0.kept kk (go_K u1 u2)⟩
        · rw [if_neg (show ¬ nI y = 0 by rw [z]; decide), qOk_some, qOk2_some, if_neg (show ¬ y = 0 by omega)]
          exact ⟨c5, hR0.kept kk (go_K u1 u2)⟩
      · exact absurd (c1 m b1) b3
    · have l2 : (if nI y = 0 then some (T 47 1) else some (T 47 2)) = some (-6) := by
        rw [b2, b3, ite_self]
      rw [l2, qb1_some, qOk2_some, fo, qb1_some, if_pos (by decide), qOk2_b2]
      refine qOk2.m ref (fun r2 Q ⟨u1, u2, u3⟩ => ?_)
      rcases u3 with ⟨m', c1, c2, c3, c4, c5⟩ | ⟨c1, c2, -⟩
      · exact absurd (b1 m' c1) c3
      · rw [c2, if_pos (by decide), qOk2_b1, qOk_some, qOk2_some]
        exact ⟨rfl, hR0.kept kk (go_K u1 u2)⟩
  · have hf : f ≤ 60 := by
      rcases hh with ⟨z, -⟩ | ⟨z, -⟩ <;> omega
    have fo : kX8_faultOf M2 = some (nI f) := by
      rcases hh with ⟨z, st, u, w⟩ | ⟨z, t, u, w⟩
      · exact fo_at s1 s3 h2 z u w
      · rw [fo_end s1 s3 h2 w, if_neg u, z]
    rw [er, if_neg (nI_m6 (by omega)), qOk2_some, fo, qb1_some, if_neg (nI_pos (by omega)), qOk2_some]
    exact ⟨rfl, hR0.kept ⟨fun k hk => n1 k (by omega), n2, n1 40 (by omega)⟩ qK2.rf⟩
theorem canB {M1 M2 : qM} (hR : qR M1 M2) : qOk2 (kX7_canBeDone M1) (fun r1 N1 => qK1 M1 N1 ∧ qOk2 (kX8_barOfShifts M2) (fun r2 N2 => qK2 M2 N2 ∧ ((r1 = 0 ∧ r2 = -5) ∨ (r1 = 1 ∧ r2 = 0 ∧ ∃ B K, K ≤ 60 ∧ qC 48 N1 B ∧ qDn N2 B ∧ qW B ∧ B 11 0 < 256 ∧ N1 39 5 = nI K ∧ N2 0 17 = nI K ∧ N2 0 13 = N1 47 3 ∧ N2 0 14 = N1 47 4)))) := by
  obtain ⟨⟨A, hc, hd, hw⟩, ⟨S, p, s1, s2, s3, s4⟩, -, -⟩ := hR
  unfold kX7_canBeDone kX8_barOfShifts
  rw [qOk2_b2]
  have h2 : ∀ i, i < S → M2 9 i = nI (p i) ∧ 33 ≤ p i ∧ p i ≤ 126 := fun i hi => (s4 i hi).2
  refine qOk2.m (readActs_eq (S := S) (p := p) ⟨s1, s2, fun i hi => ⟨(s4 i hi).1, (s4 i hi).2.2⟩⟩) (fun r N ⟨n1, n2, n3⟩ => ?_)
  rcases n3 with ⟨er, h, K, k1, k2, k3, k4⟩ | ⟨f, er, hh⟩
  · have fo : kX8_faultOf M2 = some (-6) := by rw [fo_end s1 s3 h2 h, if_pos rfl]
    have hcN : qC 1 N A := hc.same (fun k _ _ => n1 k (by omega))
    have hp : qAp p S K := fun m hm => by
      obtain ⟨k, v, x, z, -⟩ := k4 m hm
      exact ⟨k, v, x, z⟩
    have ref := goShifts_eq hd hw s1 s3 (fun i hi => (s4 i hi).2.1) k1 k3 hp
    rw [er, if_pos rfl, qOk2_b1]
    refine qOk.m (tryActs_eq hcN hw k1 k2 k4) (fun T ⟨t1, t2⟩ => ?_)
    have kk : qK1 M1 T := ⟨fun k hk => by rw [t1 k (by omega), n1 k (by omega)], by rw [t1 39 (by omega)]; exact n2, by rw [t1 40 (by omega), n1 40 (by omega)]⟩
    rcases t2 with ⟨m, b1, b2, b3, b4, b5⟩ | ⟨b1, b2, b3, b4, b5, b6⟩
    · rw [b4, if_neg (nI_m6 (by omega)), qb1_some, qbl_0, qOk2_some]
      refine ⟨kk, ?_⟩
      rw [fo, qb1_some, if_neg (by decide), qOk2_b2, qOk2_b2]
      refine qOk2.m ref (fun r2 Q ⟨u1, u2, u3⟩ => ?_)
      rcases u3 with ⟨m', c1, c2, c3, c4, c5⟩ | ⟨c1, -⟩
      · rw [c4, if_neg (nI_pos (by omega)), qOk2_some, qOk2_some]
        exact ⟨go_K u1 u2, Or.inl ⟨rfl, rfl⟩⟩
      · exact absurd (c1 m b1) b3
    · rw [b2, if_pos rfl, qb1_some, qbl_1, qOk2_some]
      refine ⟨kk, ?_⟩
      rw [fo, qb1_some, if_neg (by decide), qOk2_b2, qOk2_b2]
      refine qOk2.m ref (fun r2 Q ⟨u1, u2, u3⟩ => ?_)
      rcases u3 with ⟨m', c1, c2, c3, c4, c5⟩ | ⟨c1, c2, c3, c4, c5, c6⟩
      · exact absurd (b1 m' c1) c3
      · have hW := aT_W hp hw K (Nat.le_refl K) b1
        rw [c2, if_pos (by decide), qOk2_some, qOk2_some]
        exact ⟨go_K u1 u2, Or.inr ⟨rfl, rfl, aT p S A K, K, k1, b4, c4, hW, hW.th, (show T 39 5 = nI K by rw [t1 39 (by omega)]; exact k2), c3, (show Q 0 13 = T 47 3 by rw [c5, b5]), (show Q 0 14 = T 47 4 by rw [c6, b6])⟩⟩
  · have hf : f ≤ 60 := by
      rcases hh with ⟨z, -⟩ | ⟨z, -⟩ <;> omega
    have fo : kX8_faultOf M2 = some (nI f) := by
      rcases hh with ⟨z, st, u, w⟩ | ⟨z, t, u, w⟩
      · exact fo_at s1 s3 h2 z u w
      · rw [fo_end s1 s3 h2 w, if_neg u, z]
    rw [er, if_neg (nI_m6 (by omega)), qOk2_some]
    refine ⟨⟨fun k hk => n1 k (by omega), n2, n1 40 (by omega)⟩, ?_⟩
    rw [fo, qb1_some, if_pos (nI_pos' (by omega)), qb2_some, qOk2_some]
    exact ⟨qK2.rf, Or.inl ⟨rfl, rfl⟩⟩
