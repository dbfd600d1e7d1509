/-! CUT and WAY -/
theorem open_X {x : Nat} (hx : x < 1024) {y : Nat} (hy : y < 1024) : nI y &&& (nI x ^^^ (-1)) = nI (y &&& (x ^^^ 1023)) ∧ y &&& (x ^^^ 1023) < 1024 := ⟨andnot hy, Nat.lt_of_le_of_lt Nat.and_le_left hy⟩
theorem fr_m6 {P : Nat → Nat} {X s : Nat} {f1 f2 : Nat → Int32} (h1 : qFr P X s (-6) f1) (h2 : qFr P X s 1000000 f2) {g : Nat} (hg : g < 10) : (∃ j, j < 10 ∧ rF P X s j g ∧ f1 g = nI j ∧ f2 g = nI j) ∨ ((∀ j, ¬ (rS P X s j).testBit g = true) ∧ f1 g = -6 ∧ f2 g = 1000000) := by
  rcases h1 g hg with ⟨j, hj, a, b⟩ | ⟨a, b⟩
  · rcases h2 g hg with ⟨i, hi, c, d⟩ | ⟨c, d⟩
    · have e : i = j := by
        have u1 : ¬ i < j := fun q => a.2 i q c.1
        have u2 : ¬ j < i := fun q => c.2 j q a.1
        omega
      subst e
      exact Or.inl ⟨i, hi, a, b, d⟩
    · exact absurd a.1 (c j)
  · rcases h2 g hg with ⟨i, hi, c, d⟩ | ⟨c, d⟩
    · exact absurd c.1 (a i)
    · exact Or.inr ⟨a, b, d⟩
def sCu (A : qN) (f : Nat → Int32) (v : Nat) : Nat := if (A 11 0).testBit v = true ∧ f (A 0 v) = -6 then 2 ^ v else 0
theorem t_cut : qT_cut qR := by
  intro M1 M2 hR
  have hR0 := hR
  obtain ⟨⟨A, hc, hd, hw⟩, -, -, -⟩ := hR
  unfold kX7_cut kX8_cut
  have hcl := hw.cl
  obtain ⟨e1, e2⟩ := open_X hcl (show 1023 < 1024 by omega)
  rw [hc.cl, show ((1023 : Int32) &&& (nI (A 11 2) ^^^ (-1))) = nI (1023 &&& (A 11 2 ^^^ 1023)) from e1, show (34 : Int32) = nI 34 from rfl, qrd_k (show 34 < 36 by omega) (by omega), hd.cl, show ((1023 : Int32) &&& (nI (A 11 2) ^^^ (-1))) = nI (1023 &&& (A 11 2 ^^^ 1023)) from e1]
  generalize 1023 &&& (A 11 2 ^^^ 1023) = X at *
  rw [qOk2_b1]
  refine qOk.m (X6_measure_eq (b0 := 63) (k2 := 1 + 1) (s := 0) (X := X) hc.ps hw.ps (by decide) e2 (by omega)) (fun N1 ⟨f1, f2⟩ => ?_)
  have hc1 : qC 1 N1 A := hc.same (fun k _ _ => f1 k (by omega))
  have l1 : qOk (qlp (S := Int32 × Int32) (E := (Int32)) (fun s => kX7_cut_L32 N1 s.1 s.2) qFu (0, 0)) (fun r => r = nI (orL (sCu A (N1 (63 + 1))) 0 8)) := by
    refine qlp_for (fun k s => s = (nI (orL (sCu A (N1 (63 + 1))) 0 k), nI k)) 8 (by omega) rfl ?_ ?_
    · rintro k s hk rfl
      show qOk (kX7_cut_L32 N1 (nI (orL (sCu A (N1 (63 + 1))) 0 k)) (nI k)) _
      unfold kX7_cut_L32
      have pk := hw.pl k hk
      rw [if_neg (show ¬ (8 : Int32) ≤ nI k from nI_ge hk (by decide)), X1_isThere_eq hc1.th hw.th hk, qb1_some]
      have no : ¬ ((A 11 0).testBit k = true ∧ N1 (63 + 1) (A 0 k) = -6) → qOk (qb1 (some (nI (orL (sCu A (N1 (63 + 1))) 0 k))) (fun v6 => qvl (nI k + 1) (fun v10 => some (Sum.inl (β := Int32) (v6, v10))))) (Sum.elim (fun s => s = (nI (orL (sCu A (N1 (63 + 1))) 0 (k + 1)), nI (k + 1))) (fun r => r = nI (orL (sCu A (N1 (63 + 1))) 0 8))) := fun c => by
        rw [qb1_some, qvl_eq, qOk_some, nI_succ]
        show _ = _
        rw [show orL (sCu A (N1 (63 + 1))) 0 (k + 1) = orL (sCu A (N1 (63 + 1))) 0 k ||| sCu A (N1 (63 + 1)) k from rfl, show sCu A (N1 (63 + 1)) k = 0 from if_neg c, Nat.or_zero]
      by_cases c : (A 11 0).testBit k = true
      · rw [if_pos c, if10, qrd_k hk (by omega), hc1.pl k hk, qrd_k pk (by omega)]
        by_cases d : N1 (63 + 1) (A 0 k) = -6
        · rw [if_pos d, shl1 (by omega), fa_or, qvl_eq, qb1_some, qvl_eq, qOk_some, nI_succ]
          show _ = _
          rw [show orL (sCu A (N1 (63 + 1))) 0 (k + 1) = orL (sCu A (N1 (63 + 1))) 0 k ||| sCu A (N1 (63 + 1)) k from rfl, show sCu A (N1 (63 + 1)) k = 2 ^ k from if_pos ⟨c, d⟩]
        · rw [if_neg d]
          exact no (fun z => d z.2)
      · rw [if_neg c, if00]
        exact no (fun z => c z.1)
    · rintro s rfl
      show qOk (kX7_cut_L32 N1 (nI (orL (sCu A (N1 (63 + 1))) 0 8)) (nI 8)) _
      unfold kX7_cut_L32
      rw [if_pos (show (8 : Int32) ≤ nI 8 from by decide), qOk_some]
      rfl
  rw [qOk2_b1]
  refine qOk.m l1 (fun r hr => ?_)
  rw [hr, qOk2_some, qOk2_b1]
  refine qOk.m (X8_layFar_eq (s := 0) (X := X) hd.ps hw.ps e2 (by omega)) (fun N2 ⟨g1, g2⟩ => ?_)
  have l2 : qOk (qlp (S := Int32 × Int32) (E := (Int32)) (fun s => kX8_cut_L22 N2 s.1 s.2) qFu (0, 0)) (fun r => r = nI (orL (sCu A (N1 (63 + 1))) 0 8)) := by
    refine qlp_for (fun k s => s = (nI (orL (sCu A (N1 (63 + 1))) 0 k), nI k)) 8 (by omega) rfl ?_ ?_
    · rintro k s hk rfl
      show qOk (kX8_cut_L22 N2 (nI (orL (sCu A (N1 (63 + 1))) 0 k)) (nI k)) _
      unfold kX8_cut_L22
      have pk := hw.pl k hk
      have th := hw.th
      rw [if_neg (show ¬ (8 : Int32) ≤ nI k from nI_ge hk (by decide)), g1 0 (by decide), hd.th, X8_has_eq (by omega) (by omega), qb1_some]
      have no : ¬ ((A 11 0).testBit k = true ∧ N1 (63 + 1) (A 0 k) = -6) → qOk (qb1 (some (0 : Int32)) (fun v7 => qvl (nI (orL (sCu A (N1 (63 + 1))) 0 k) ||| v7) (fun v10 => qvl (nI k + 1) (fun v11 => some (Sum.inl (β := Int32) (v10, v11)))))) (Sum.elim (fun s => s = (nI (orL (sCu A (N1 (63 + 1))) 0 (k + 1)), nI (k + 1))) (fun r => r = nI (orL (sCu A (N1 (63 + 1))) 0 8))) := fun c => by
        rw [qb1_some, qvl_eq, qvl_eq, qOk_some, nI_succ, show (0 : Int32) = nI 0 from rfl, fa_or]
        show _ = _
        rw [show orL (sCu A (N1 (63 + 1))) 0 (k + 1) = orL (sCu A (N1 (63 + 1))) 0 k ||| sCu A (N1 (63 + 1)) k from rfl, show sCu A (N1 (63 + 1)) k = 0 from if_neg c]
      by_cases c : (A 11 0).testBit k = true
      · rw [if_pos c, if10, show (16 : Int32) + nI k = nI (16 + k) from nI_add 16 k, g1 1 (by decide), qrd_k (show 16 + k < 36 by omega) (by omega), hd.pl k hk, qrd_k pk (by omega)]
        rcases fr_m6 f2 g2 pk with ⟨j, hj, -, a, b⟩ | ⟨-, a, b⟩
        · rw [b, if_pos (show nI j < (1000000 : Int32) from nI_lt (b := 1000000) (by omega) (by decide))]
          exact no (fun z => nI_m6 (k := j) (by omega) (a.symm.trans z.2))
        · rw [b, if_neg (by decide), shl1 (by omega), qb1_some, fa_or, qvl_eq, qvl_eq, qOk_some, nI_succ]
          show _ = _
          rw [show orL (sCu A (N1 (63 + 1))) 0 (k + 1) = orL (sCu A (N1 (63 + 1))) 0 k ||| sCu A (N1 (63 + 1)) k from rfl, show sCu A (N1 (63 + 1)) k = 2 ^ k from if_pos ⟨c, a⟩]
      · rw [if_neg c, if00]
        exact no (fun z => c z.1)
    · rintro s rfl
      show qOk (kX8_cut_L22 N2 (nI (orL (sCu A (N1 (63 + 1))) 0 8)) (nI 8)) _
      unfold kX8_cut_L22
      rw [if_pos (show (8 : Int32) ≤ nI 8 from by decide), qOk_some]
      rfl
  rw [qOk2_b1]
  refine qOk.m l2 (fun r hr => ?_)
  rw [hr, qOk2_some]
  exact ⟨rfl, hR0.kept ⟨fun k hk => f1 k (by omega), by rw [f1 39 (by omega)], f1 40 (by omega)⟩ ⟨g1 1 (by decide), g1 3 (by decide), g1 4 (by decide), g1 5 (by decide), g1 6 (by decide), g1 7 (by decide), g1 8 (by decide), g1 9 (by decide), g1 15 (by decide), g1 16 (by decide), by rw [g1 0 (by decide)], by rw [g1 0 (by decide)], by rw [g1 0 (by decide)], by rw [g1 0 (by decide)]⟩⟩
