/-! the reference goes through the shifts -/
theorem pA_lt {p : Nat → Nat} {S i k v x j : Nat} (h : pA p S i = some (k, v, x, j)) : i < S := by
  rcases pA_cases h with z | z | z | z | z <;> omega
theorem goShifts_eq {M : qM} {A : qN} {p : Nat → Nat} {S K : Nat} (h : qDm M A) (hw : qW A) (hS : S ≤ 60) (h11 : M 0 11 = nI S) (h9 : ∀ i, i < S → M 9 i = nI (p i)) (hK : K ≤ 60) (hq : pq p S K = S) (hc : qAp p S K) : qOk2 (kX8_goShifts M) (fun r N => (∀ c, c ≠ 0 → c ≠ 2 → c ≠ 10 → N c = M c) ∧ (∀ j, j ≠ 13 → j ≠ 14 → j ≠ 16 → j ≠ 17 → N 0 j = M 0 j) ∧ ((∃ m, m < K ∧ (∀ i, i < m → yT p S A i = 0) ∧ yT p S A m ≠ 0 ∧ r = nI m ∧ N 0 16 = nI (yT p S A m)) ∨ ((∀ i, i < K → yT p S A i = 0) ∧ r = -6 ∧ N 0 17 = nI K ∧ qDn N (aT p S A K) ∧ N 0 13 = (dT p S A K).1 ∧ N 0 14 = (dT p S A K).2))) := by
  unfold kX8_goShifts
  rw [qOk2_b1]
  refine qOk.m (X8_asNow_eq M) (fun M1 ⟨a1, a2, a3, a4, a5⟩ => ?_)
  have d1 : qDn M1 A := asNow_D h a1 a2 a3
  rw [qvl_eq]
  obtain ⟨M2, e2⟩ : ∃ M2, M2 = qst M1 0 17 0 := ⟨_, rfl⟩
  rw [← e2]
  have f2 : ∀ c, c ≠ 0 → M2 c = M1 c := fun c hc => by rw [e2, qst_n hc]
  have g2 : ∀ j, j ≠ 17 → M2 0 j = M1 0 j := fun j hj => by rw [e2, qst_at, if_neg hj]
  have g17 : M2 0 17 = nI 0 := by rw [e2, qst_at, if_pos rfl]; rfl
  have d2 : qDn M2 A := d1.sm (fun c _ _ => f2 c (by omega)) (g2 2 (by decide)) (g2 8 (by decide)) (g2 9 (by decide))
  rw [X8_lamps_eq d2 hw, qb1_some]
  show qOk _ _
  rw [qOk_e1]
  refine qlp_for (fun m s => ∃ N, s = (nI (pq p S m), nI (sB (aT p S A m)), N) ∧ (∀ c, c ≠ 0 → c ≠ 2 → c ≠ 10 → N c = M c) ∧ (∀ j, j ≠ 13 → j ≠ 14 → j ≠ 16 → j ≠ 17 → N 0 j = M 0 j) ∧ (∀ i, i < m → yT p S A i = 0) ∧ N 0 17 = nI m ∧ qDn N (aT p S A m) ∧ N 0 13 = (dT p S A m).1 ∧ N 0 14 = (dT p S A m).2) K (by omega) ⟨M2, rfl, fun c u v _ => by rw [f2 c u, a1 c u v], fun j u v _ w => by rw [g2 j w, a3 j u v], fun i hi => by omega, g17, d2, by rw [g2 13 (by decide)]; exact a4, by rw [g2 14 (by decide)]; exact a5⟩ ?_ ?_
  · rintro m s hm ⟨N, rfl, n1, n2, n3, n4, n5, n6, n7⟩
    show qOk (kX8_goShifts_L16 (nI (pq p S m)) (nI (sB (aT p S A m))) N) _
    unfold kX8_goShifts_L16
    obtain ⟨k, v, x, y1⟩ := hc m hm
    have hi := pA_lt y1
    have hWm : qW (aT p S A m) := aT_W hc hw m (by omega) n3
    have e11 : N 0 11 = nI S := by rw [n2 11 (by decide) (by decide) (by decide) (by decide)]; exact h11
    have e9 : ∀ i, i < S → N 9 i = nI (p i) := fun i hi => by rw [n1 9 (by decide) (by decide) (by decide)]; exact h9 i hi
    have lW := yW_lt (aT p S A m) k v x
    rw [e11, if_neg (nI_ge hi (by omega)), qrd_k (show pq p S m < 60 by omega) (by omega), e9 _ hi, qvl_eq]
    obtain ⟨M9, em⟩ : ∃ M9, M9 = qst N 0 16 0 := ⟨_, rfl⟩
    rw [← em]
    have f9 : ∀ c, c ≠ 0 → M9 c = N c := fun c hc => by rw [em, qst_n hc]
    have g9 : ∀ j, j ≠ 16 → M9 0 j = N 0 j := fun j hj => by rw [em, qst_at, if_neg hj]
    have d9 : qDn M9 (aT p S A m) := n5.sm (fun c _ _ => f9 c (by omega)) (g9 2 (by decide)) (g9 8 (by decide)) (g9 9 (by decide))
    change qOk (qb2 (oA (nI (pq p S m)) (nI (p (pq p S m))) M9) _) _
    rw [qOk_b2']
    refine qOk2.m (oA_eq d9 hWm hS (fun i hi => by rw [f9 9 (by decide)]; exact e9 i hi) (by rw [em, qst_at, if_pos rfl]) y1) (fun r O hO => ?_)
    obtain ⟨o1, o2, o3, o4, o5⟩ := hO
    have e17 : O 0 17 = nI m := by rw [o3 17 (by decide), g9 17 (by decide)]; exact n4
    rw [o1, o2]
    by_cases c : yW (aT p S A m) k v x = 0
    · have dO := o5 c
      rw [← aT_1 y1] at dO
      have hW1 : qW (aT p S A (m + 1)) := by rw [aT_1 y1]; exact yA_W hWm (pA_valid y1) c
      have w3 : O 0 13 = (dT p S A m).1 := by rw [o3 13 (by decide), g9 13 (by decide)]; exact n6
      have w4 : O 0 14 = (dT p S A m).2 := by rw [o3 14 (by decide), g9 14 (by decide)]; exact n7
      rw [if_pos (show nI (yW (aT p S A m) k v x) ≤ 0 by rw [c]; decide), X8_lamps_eq dO hW1, qb1_some, qOk_b1]
      refine qOk.m (X8_dark_eq (D := dD p S A m) (m := m) (sB_lt _) rfl e17 (by omega) (by rw [w3]; exact dT_ok m (by omega))) (fun Q ⟨q1, q2, q3⟩ => ?_)
      rw [qvl_eq, qOk_some]
      rw [w3, w4] at q3
      have t4 : Q 0 13 = (dT p S A (m + 1)).1 ∧ Q 0 14 = (dT p S A (m + 1)).2 := by
        by_cases d : (dT p S A m).1 = -6 ∧ dD p S A m ≠ 0
        · rw [if_pos d] at q3
          rw [dT_y d]
          exact q3
        · rw [if_neg d] at q3
          rw [dT_n d]
          exact q3
      refine ⟨qst Q 0 17 (Q 0 17 + 1), rfl, fun c u v w => by rw [qst_n u, q1 c u, o4 c u v w, f9 c u, n1 c u v w], fun j u v w z => by rw [qst_at, if_neg z, q2 j u v, o3 j w, g9 j w, n2 j u v w z], fun i hi => ?_, ?_, dO.sm (fun c _ _ => by rw [qst_n (by omega), q1 c (by omega)]) (by rw [qst_at, if_neg (by decide), q2 2 (by decide) (by decide)]) (by rw [qst_at, if_neg (by decide), q2 8 (by decide) (by decide)]) (by rw [qst_at, if_neg (by decide), q2 9 (by decide) (by decide)]), ?_, ?_⟩
      · by_cases e : i = m
        · rw [e, yT_at y1]; exact c
        · exact n3 i (by omega)
      · rw [qst_at, if_pos rfl, q2 17 (by decide) (by decide), e17, nI_1]
      · rw [qst_at, if_neg (by decide)]; exact t4.1
      · rw [qst_at, if_neg (by decide)]; exact t4.2
    · rw [if_neg (show ¬ nI (yW (aT p S A m) k v x) ≤ 0 from nI_nle (by omega) (by omega)), qOk_some]
      show qOk (some (O 0 17, O)) _
      rw [qOk_some]
      exact ⟨fun c u v w => (show O c = M c by rw [o4 c u v w, f9 c u, n1 c u v w]), fun j u v w z => (show O 0 j = M 0 j by rw [o3 j w, g9 j w, n2 j u v w z]), Or.inl ⟨m, hm, n3, by rw [yT_at y1]; exact c, e17, (show O 0 16 = nI (yT p S A m) by rw [o2, yT_at y1])⟩⟩
  · rintro s ⟨N, rfl, n1, n2, n3, n4, n5, n6, n7⟩
    show qOk (kX8_goShifts_L16 (nI (pq p S K)) (nI (sB (aT p S A K))) N) _
    unfold kX8_goShifts_L16
    have e11 : N 0 11 = nI S := by rw [n2 11 (by decide) (by decide) (by decide) (by decide)]; exact h11
    rw [e11, hq, if_pos (nI_le (Nat.le_refl S) (by omega)), qOk_some]
    show qOk (some ((-6 : Int32), N)) _
    rw [qOk_some]
    exact ⟨n1, n2, Or.inr ⟨n3, rfl, n4, n5, n6, n7⟩⟩
theorem go_K {M N : qM} (h1 : ∀ c, c ≠ 0 → c ≠ 2 → c ≠ 10 → N c = M c) (h2 : ∀ j, j ≠ 13 → j ≠ 14 → j ≠ 16 → j ≠ 17 → N 0 j = M 0 j) : qK2 M N :=
  ⟨h1 1 (by decide) (by decide) (by decide), h1 3 (by decide) (by decide) (by decide), h1 4 (by decide) (by decide) (by decide), h1 5 (by decide) (by decide) (by decide), h1 6 (by decide) (by decide) (by decide), h1 7 (by decide) (by decide) (by decide), h1 8 (by decide) (by decide) (by decide), h1 9 (by decide) (by decide) (by decide), h1 15 (by decide) (by decide) (by decide), h1 16 (by decide) (by decide) (by decide), h2 2 (by decide) (by decide) (by decide) (by decide), h2 8 (by decide) (by decide) (by decide) (by decide), h2 9 (by decide) (by decide) (by decide) (by decide), h2 11 (by decide) (by decide) (by decide) (by decide)⟩
theorem fst_eq {f : Nat → Nat} {m n : Nat} (h1 : ∀ i, i < m → f i = 0) (h2 : f m ≠ 0) (g1 : ∀ i, i < n → f i = 0) (g2 : f n ≠ 0) : n = m := by
  rcases Nat.lt_trichotomy m n with z | z | z
  · exact absurd (g1 m z) h2
  · exact z.symm
  · exact absurd (h1 n z) g2
