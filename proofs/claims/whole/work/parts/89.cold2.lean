def sCn (A : qN) (g : Nat) : Nat → Nat
  | 0 => 0
  | k + 1 => if 0 < A 5 k ∧ A 0 k = g then sCn A g k + 1 else sCn A g k
theorem sCn_le (A : qN) (g : Nat) : ∀ k, sCn A g k ≤ k
  | 0 => Nat.le_refl _
  | k + 1 => by
    have := sCn_le A g k
    unfold sCn
    split <;> omega
theorem X1_singersIn_eq {b : Nat} {M : qM} {A : qN} (h : qC b M A) (hw : qW A) {g : Nat} (hg : g < 10) : kX1_singersIn b M (nI g) = some (nI (sCn A g 8)) := by
  apply qOk_eq
  unfold kX1_singersIn
  rw [qOk_b1]
  refine qlp_for (fun k s => s = (nI (sCn A g k), nI k)) 8 (by omega) rfl ?_ ?_
  · rintro k s hk rfl
    show qOk (kX1_singersIn_L4 b M (nI g) (nI (sCn A g k)) (nI k)) _
    unfold kX1_singersIn_L4
    have pk := hw.pl k hk
    rw [if_neg (show ¬ (8 : Int32) ≤ nI k from nI_ge hk (by decide)), X1_isSinging_eq h hw hk, qb1_some]
    have no : ¬ (0 < A 5 k ∧ A 0 k = g) → qOk (qb1 (some (nI (sCn A g k))) (fun v5 => qvl (nI k + 1) (fun v8 => some (Sum.inl (β := Int32) (v5, v8))))) (Sum.elim (fun s => s = (nI (sCn A g (k + 1)), nI (k + 1))) (fun a => qOk (some a) (fun r => r = nI (sCn A g 8)))) := fun c => by
      rw [qb1_some, qvl_eq, qOk_some, ← nI_succ]
      show _ = _
      rw [show sCn A g (k + 1) = sCn A g k from if_neg c]
    by_cases c1 : 0 < A 5 k
    · rw [if_pos c1, if10, qrd_k hk (by omega), h.pl k hk]
      by_cases c2 : A 0 k = g
      · rw [if_pos (show nI (A 0 k) = nI g by rw [c2]), qvl_eq, qb1_some, qvl_eq, qOk_some]
        show _ = _
        rw [show sCn A g (k + 1) = sCn A g k + 1 from if_pos ⟨c1, c2⟩, nI_succ, nI_succ]
      · rw [if_neg (fun z => c2 ((nI_inj (by omega) (by omega)).mp z))]
        exact no (fun z => c2 z.2)
    · rw [if_neg c1, if00]
      exact no (fun z => c1 z.1)
  · rintro s rfl
    show qOk (kX1_singersIn_L4 b M (nI g) (nI (sCn A g 8)) (nI 8)) _
    unfold kX1_singersIn_L4
    rw [if_pos (show (8 : Int32) ≤ nI 8 from by decide), qOk_some]
    show qOk (some _) _
    rw [qOk_some]
theorem X8_singers_eq {M : qM} {A : qN} (h : qDn M A) (hw : qW A) {g : Nat} (hg : g < 10) : qOk (qlp (S := Int32 × Int32) (E := (Int32)) (fun s => kX8_cold_L65 M (nI g) s.1 s.2) qFu (0, 0)) (fun r => r = nI (sCn A g 8)) := by
  refine qlp_for (fun k s => s = (nI (sCn A g k), nI k)) 8 (by omega) rfl ?_ ?_
  · rintro k s hk rfl
    show qOk (kX8_cold_L65 M (nI g) (nI (sCn A g k)) (nI k)) _
    unfold kX8_cold_L65
    rw [if_neg (show ¬ (8 : Int32) ≤ nI k from nI_ge hk (by decide)), X8_sings_eq h hw hk hg, qb1_some]
    by_cases c : 0 < A 5 k ∧ A 0 k = g
    · rw [if_pos c, if10, qb1_some, qvl_eq, qvl_eq, qOk_some]
      show _ = _
      rw [show sCn A g (k + 1) = sCn A g k + 1 from if_pos c, nI_succ, nI_succ]
    · rw [if_neg c, if00, qb1_some, qvl_eq, qvl_eq, qOk_some]
      show _ = _
      rw [show sCn A g (k + 1) = sCn A g k from if_neg c, show (0 : Int32) = nI 0 from rfl, nI_add, Nat.add_zero, nI_succ]
  · rintro s rfl
    show qOk (kX8_cold_L65 M (nI g) (nI (sCn A g 8)) (nI 8)) _
    unfold kX8_cold_L65
    rw [if_pos (show (8 : Int32) ≤ nI 8 from by decide), qOk_some]
    rfl
theorem clK_some {n a b c d : Nat} (h : clK n a b c d = true) : ∃ v, clC (nI n) (nI a) (nI b) (nI c) (nI d) = some v ∧ clR (nI n) (nI a) (nI b) (nI c) (nI d) = some v := by
  unfold clK at h
  cases e1 : clC (nI n) (nI a) (nI b) (nI c) (nI d) with
  | none => rw [e1] at h; cases h
  | some x =>
    cases e2 : clR (nI n) (nI a) (nI b) (nI c) (nI d) with
    | none => rw [e1, e2] at h; cases h
    | some y =>
      rw [e1, e2] at h
      exact ⟨x, rfl, by rw [eq_of_beq h]⟩
theorem t_cold : qT_cold qR := by
  intro M1 M2 hR x1 x2 x3 x4 x5
  have hR0 := hR
  obtain ⟨⟨A, hc, hd, hw⟩, -, -, -⟩ := hR
  unfold kX7_cold kX8_cold
  rcases gal x1 with ⟨a1, a2⟩ | ⟨g, hg, e, a1, a2⟩
  · rw [a1, a2, qb1_some, qb1_some, if00, if00, qOk_some, qOk2_some]
    exact ⟨rfl, hR0⟩
  rw [a1, a2, qb1_some, qb1_some, if10, if10]
  clear a1 a2
  subst e
  rcases rg x2 0 10 (by omega) (by omega) with ⟨a1, a2⟩ | ⟨a1, a2, -, a3⟩ | ⟨a, -, ha, e, a1, a2, -, a3⟩
  · rw [if_pos (show x2 < 0 from a1), show kX8_in x2 0 10 = some 0 from a2, qb1_some, if00, qOk_some, qOk2_some]
    exact ⟨rfl, hR0⟩
  · rw [if_neg (show ¬ x2 < 0 from a1), if_pos (show 10 < x2 from a2), show kX8_in x2 0 10 = some 0 from a3, qb1_some, if00, qOk_some, qOk2_some]
    exact ⟨rfl, hR0⟩
  rw [if_neg (show ¬ x2 < 0 from a1), if_neg (show ¬ 10 < x2 from a2), show kX8_in x2 0 10 = some 1 from a3, qb1_some, if10]
  clear a1 a2 a3
  subst e
  rcases rg x3 0 9 (by omega) (by omega) with ⟨a1, a2⟩ | ⟨a1, a2, -, a3⟩ | ⟨b, -, hb, e, a1, a2, -, a3⟩
  · rw [if_pos (show x3 < 0 from a1), show kX8_in x3 0 9 = some 0 from a2, qb1_some, if00, qOk_some, qOk2_some]
    exact ⟨rfl, hR0⟩
  · rw [if_neg (show ¬ x3 < 0 from a1), if_pos (show 9 < x3 from a2), show kX8_in x3 0 9 = some 0 from a3, qb1_some, if00, qOk_some, qOk2_some]
    exact ⟨rfl, hR0⟩
  rw [if_neg (show ¬ x3 < 0 from a1), if_neg (show ¬ 9 < x3 from a2), show kX8_in x3 0 9 = some 1 from a3, qb1_some, if10]
  clear a1 a2 a3
  subst e
  rcases rg x4 0 1 (by omega) (by omega) with ⟨a1, a2⟩ | ⟨a1, a2, -, a3⟩ | ⟨c, -, hcc, e, a1, a2, -, a3⟩
  · rw [if_pos (show x4 < 0 from a1), show kX8_in x4 0 1 = some 0 from a2, qb1_some, if00, qOk_some, qOk2_some]
    exact ⟨rfl, hR0⟩
  · rw [if_neg (show ¬ x4 < 0 from a1), if_pos (show 1 < x4 from a2), show kX8_in x4 0 1 = some 0 from a3, qb1_some, if00, qOk_some, qOk2_some]
    exact ⟨rfl, hR0⟩
  rw [if_neg (show ¬ x4 < 0 from a1), if_neg (show ¬ 1 < x4 from a2), show kX8_in x4 0 1 = some 1 from a3, qb1_some, if10]
  clear a1 a2 a3
  subst e
  rcases rg x5 0 1 (by omega) (by omega) with ⟨a1, a2⟩ | ⟨a1, -, a2, a3⟩ | ⟨d, -, hdd, e, a1, -, a2, a3⟩
  · rw [if_pos (show x5 < 0 from a1), show kX8_in x5 0 1 = some 0 from a2, qb1_some, if00, qOk_some, qOk2_some]
    exact ⟨rfl, hR0⟩
  · rw [if_neg (show ¬ x5 < 0 from a1), if_neg (show ¬ x5 ≤ 1 from a2), show kX8_in x5 0 1 = some 0 from a3, qb1_some, if00, qOk_some, qOk2_some]
    exact ⟨rfl, hR0⟩
  rw [if_neg (show ¬ x5 < 0 from a1), if_pos (show x5 ≤ 1 from a2), show kX8_in x5 0 1 = some 1 from a3, qb1_some, if10]
  clear a1 a2 a3
  subst e
  rw [X1_singersIn_eq hc hw hg, qb1_some]
  have n8 := sCn_le A g 8
  obtain ⟨v, v1, v2⟩ := clK_some (cold_tab (sCn A g 8) (by omega) a (by omega) b (by omega) c (by omega) d (by omega))
  show qOk (clC (nI (sCn A g 8)) (nI a) (nI b) (nI c) (nI d)) _
  rw [v1, qOk_some, qOk2_b1]
  refine qOk.m (X8_asNow_eq M2) (fun N2 hN => ?_)
  obtain ⟨g1, g2, g3, -, -⟩ := hN
  rw [qOk2_b1]
  refine qOk.m (X8_singers_eq (asNow_D hd g1 g2 g3) hw hg) (fun r hr => ?_)
  rw [hr]
  show qOk2 (clB (nI (sCn A g 8)) (nI a) (nI b) (nI c) (nI d) N2) _
  rw [clB_eq, v2, qb1_some, qOk2_some]
  exact ⟨rfl, hR0.kept qK1.rf (asNow_K g1 g3)⟩
