/-! SHAKES and KEEP -/
def orL (f : Nat → Nat) (a : Nat) : Nat → Nat
  | 0 => a
  | k + 1 => orL f a k ||| f k
def orO (F : Nat → Nat → Nat) : Nat → Nat
  | 0 => 0
  | k + 1 => orL (F k) (orO F k) 8
theorem orL_bit {f : Nat → Nat} {a i : Nat} : ∀ k, (orL f a k).testBit i = true ↔ a.testBit i = true ∨ ∃ j, j < k ∧ (f j).testBit i = true
  | 0 => ⟨Or.inl, fun h => by
    rcases h with h | ⟨j, hj, _⟩
    · exact h
    · omega⟩
  | k + 1 => by
    show ((orL f a k ||| f k).testBit i = true) ↔ _
    rw [Nat.testBit_or, Bool.or_eq_true, orL_bit k]
    constructor
    · rintro ((h | ⟨j, hj, h⟩) | h)
      · exact Or.inl h
      · exact Or.inr ⟨j, by omega, h⟩
      · exact Or.inr ⟨k, by omega, h⟩
    · rintro (h | ⟨j, hj, h⟩)
      · exact Or.inl (Or.inl h)
      · by_cases e : j = k
        · subst e; exact Or.inr h
        · exact Or.inl (Or.inr ⟨j, by omega, h⟩)
theorem orO_bit {F : Nat → Nat → Nat} {i : Nat} : ∀ k, (orO F k).testBit i = true ↔ ∃ a, a < k ∧ ∃ b, b < 8 ∧ (F a b).testBit i = true
  | 0 => by
    show ((0 : Nat).testBit i = true) ↔ _
    rw [Nat.zero_testBit]
    exact ⟨fun h => (by cases h), fun ⟨a, h, _⟩ => by omega⟩
  | k + 1 => by
    show ((orL (F k) (orO F k) 8).testBit i = true) ↔ _
    rw [orL_bit, orO_bit k]
    constructor
    · rintro (⟨a, ha, h⟩ | ⟨b, hb, h⟩)
      · exact ⟨a, by omega, h⟩
      · exact ⟨k, by omega, b, hb, h⟩
    · rintro ⟨a, ha, b, hb, h⟩
      by_cases e : a = k
      · subst e; exact Or.inr ⟨b, hb, h⟩
      · exact Or.inl ⟨a, by omega, b, hb, h⟩
theorem orO_swap {F G : Nat → Nat → Nat} (h : ∀ a b, a < 8 → b < 8 → F a b = G b a) : orO F 8 = orO G 8 := by
  apply Nat.eq_of_testBit_eq
  intro i
  rw [Bool.eq_iff_iff, orO_bit, orO_bit]
  constructor
  · rintro ⟨a, ha, b, hb, z⟩
    exact ⟨b, hb, a, ha, by rw [← h a b ha hb]; exact z⟩
  · rintro ⟨a, ha, b, hb, z⟩
    exact ⟨b, hb, a, ha, by rw [h b a hb ha]; exact z⟩
abbrev sSk (A : qN) (a b : Nat) : Prop := 0 < A 5 a ∧ 0 < A 5 b ∧ A 0 a = A 0 b ∧ A 5 b = A 5 a + 1
def sSh (A : qN) (a b : Nat) : Nat := if sSk A a b then 2 ^ A 0 a else 0
theorem tn_dif : ∀ s, s < 25 → ∀ t, t < 25 → ((nI s - 1) - (nI t - 1) = 1 ↔ s = t + 1) := by decide +kernel
theorem tn_suc : ∀ s, s < 25 → ∀ t, t < 25 → 0 < s → 0 < t → (nI (s - 1) = nI (t - 1) + 1 ↔ s = t + 1) := by decide +kernel
theorem X7_shakes_in {M : qM} {A : qN} (h : qC 1 M A) (hw : qW A) {a : Nat} (ha : a < 8) (r : Nat) : qOk (qlp (S := Int32 × Int32) (E := (Int32)) (fun s => kX7_shakes_L12 M (nI a) s.1 s.2) qFu (nI r, 0)) (fun x => x = nI (orL (sSh A a) r 8)) := by
  refine qlp_for (fun k s => s = (nI (orL (sSh A a) r k), nI k)) 8 (by omega) rfl ?_ ?_
  · rintro k s hk rfl
    show qOk (kX7_shakes_L12 M (nI a) (nI (orL (sSh A a) r k)) (nI k)) _
    unfold kX7_shakes_L12
    have ta := hw.to a ha
    have tk := hw.to k hk
    have pa := hw.pl a ha
    rw [if_neg (show ¬ (8 : Int32) ≤ nI k from nI_ge hk (by decide)), X1_singTogether_eq h hw ha hk, qb1_some]
    have no : ¬ sSk A a k → qOk (qb1 (some (nI (orL (sSh A a) r k))) (fun v8 => qvl (nI k + 1) (fun v13 => some (Sum.inl (β := Int32) (v8, v13))))) (Sum.elim (fun s => s = (nI (orL (sSh A a) r (k + 1)), nI (k + 1))) (fun x => x = nI (orL (sSh A a) r 8))) := fun c => by
      rw [qb1_some, qvl_eq, qOk_some, nI_succ]
      show _ = _
      rw [show orL (sSh A a) r (k + 1) = orL (sSh A a) r k ||| sSh A a k from rfl, show sSh A a k = 0 from by unfold sSh; rw [if_neg c], Nat.or_zero]
    by_cases c : 0 < A 5 a ∧ 0 < A 5 k ∧ A 0 a = A 0 k
    · rw [if_pos c, if10, qrd_k hk (by omega), qrd_k ha (by omega), h.no k hk, h.no a ha]
      by_cases d : A 5 k = A 5 a + 1
      · rw [if_pos ((tn_dif _ (by omega) _ (by omega)).mpr d), qrd_k ha (by omega), h.pl a ha, shl1 (by omega), fa_or, qvl_eq, qb1_some, qvl_eq, qOk_some, nI_succ]
        show _ = _
        rw [show orL (sSh A a) r (k + 1) = orL (sSh A a) r k ||| sSh A a k from rfl, show sSh A a k = 2 ^ A 0 a from by unfold sSh; rw [if_pos ⟨c.1, c.2.1, c.2.2, d⟩]]
      · rw [if_neg (fun z => d ((tn_dif _ (by omega) _ (by omega)).mp z))]
        exact no (fun z => d z.2.2.2)
    · rw [if_neg c, if00]
      exact no (fun z => c ⟨z.1, z.2.1, z.2.2.1⟩)
  · rintro s rfl
    show qOk (kX7_shakes_L12 M (nI a) (nI (orL (sSh A a) r 8)) (nI 8)) _
    unfold kX7_shakes_L12
    rw [if_pos (show (8 : Int32) ≤ nI 8 from by decide), qOk_some]
    rfl
theorem X7_shakes_eq {M : qM} {A : qN} (h : qC 1 M A) (hw : qW A) : kX7_shakes M = some (nI (orO (sSh A) 8)) := by
  apply qOk_eq
  unfold kX7_shakes
  rw [qOk_b1]
  refine qlp_for (fun k s => s = (nI (orO (sSh A) k), nI k)) 8 (by omega) rfl ?_ ?_
  · rintro k s hk rfl
    show qOk (kX7_shakes_L4 M (nI (orO (sSh A) k)) (nI k)) _
    unfold kX7_shakes_L4
    rw [if_neg (show ¬ (8 : Int32) ≤ nI k from nI_ge hk (by decide)), qOk_b1]
    refine qOk.m (X7_shakes_in h hw hk _) (fun x hx => ?_)
    rw [hx, qvl_eq, qOk_some, ← nI_succ]
    rfl
  · rintro s rfl
    show qOk (kX7_shakes_L4 M (nI (orO (sSh A) 8)) (nI 8)) _
    unfold kX7_shakes_L4
    rw [if_pos (show (8 : Int32) ≤ nI 8 from by decide), qOk_some]
    show qOk (some _) _
    rw [qOk_some]
theorem X8_shakes_in {M : qM} {A : qN} (h : qDn M A) (hw : qW A) {a : Nat} (ha : a < 8) (r : Nat) : qOk (qlp (S := Int32 × Int32) (E := (Int32)) (fun s => kX8_shakes_L16 M (nI a) s.1 s.2) qFu (nI r, 0)) (fun x => x = nI (orL (fun b => sSh A b a) r 8)) := by
  refine qlp_for (fun k s => s = (nI (orL (fun b => sSh A b a) r k), nI k)) 8 (by omega) rfl ?_ ?_
  · rintro k s hk rfl
    show qOk (kX8_shakes_L16 M (nI a) (nI (orL (fun b => sSh A b a) r k)) (nI k)) _
    unfold kX8_shakes_L16
    have ta := hw.to a ha
    have tk := hw.to k hk
    have pa := hw.pl a ha
    rw [if_neg (show ¬ (8 : Int32) ≤ nI k from nI_ge hk (by decide)), show (16 : Int32) + nI a = nI (16 + a) from nI_add 16 a, qrd_k (show 16 + a < 36 by omega) (by omega), h.pl a ha, X8_sings_eq h hw ha pa, qb1_some, X8_sings_eq h hw hk pa]
    have no : ¬ sSk A k a → qOk (qb1 (some (0 : Int32)) (fun v10 => qvl (nI (orL (fun b => sSh A b a) r k) ||| v10) (fun v14 => qvl (nI k + 1) (fun v15 => some (Sum.inl (β := Int32) (v14, v15)))))) (Sum.elim (fun s => s = (nI (orL (fun b => sSh A b a) r (k + 1)), nI (k + 1))) (fun x => x = nI (orL (fun b => sSh A b a) r 8))) := fun c => by
      rw [qb1_some, qvl_eq, qvl_eq, qOk_some, nI_succ, show (0 : Int32) = nI 0 from rfl, fa_or]
      show _ = _
      rw [show orL (fun b => sSh A b a) r (k + 1) = orL (fun b => sSh A b a) r k ||| sSh A k a from rfl, show sSh A k a = 0 from by unfold sSh; rw [if_neg c]]
    by_cases c1 : 0 < A 5 a
    · rw [if_pos (show 0 < A 5 a ∧ A 0 a = A 0 a from ⟨c1, rfl⟩), if10, qb1_some]
      by_cases c2 : 0 < A 5 k ∧ A 0 k = A 0 a
      · rw [if_pos c2, if10, qrd_k (show a < 36 by omega) (by omega), qrd_k (show k < 36 by omega) (by omega), h.no a ha (hw.sg a ha c1).2, h.no k hk (hw.sg k hk c2.1).2, if_neg (show ¬ A 5 a = 0 by omega), if_neg (show ¬ A 5 k = 0 by omega)]
        by_cases d : A 5 a = A 5 k + 1
        · rw [if_pos ((tn_suc _ (by omega) _ (by omega) c1 c2.1).mpr d), shl1 (by omega), qb1_some, fa_or, qvl_eq, qvl_eq, qOk_some, nI_succ]
          show _ = _
          rw [show orL (fun b => sSh A b a) r (k + 1) = orL (fun b => sSh A b a) r k ||| sSh A k a from rfl, show sSh A k a = 2 ^ A 0 a from by unfold sSh; rw [if_pos ⟨c2.1, c1, c2.2, d⟩, c2.2]]
        · rw [if_neg (fun z => d ((tn_suc _ (by omega) _ (by omega) c1 c2.1).mp z))]
          exact no (fun z => d z.2.2.2)
      · rw [if_neg c2, if00]
        exact no (fun z => c2 ⟨z.1, z.2.2.1⟩)
    · rw [if_neg (show ¬ (0 < A 5 a ∧ A 0 a = A 0 a) from fun z => c1 z.1), if00]
      exact no (fun z => c1 z.2.1)
  · rintro s rfl
    show qOk (kX8_shakes_L16 M (nI a) (nI (orL (fun b => sSh A b a) r 8)) (nI 8)) _
    unfold kX8_shakes_L16
    rw [if_pos (show (8 : Int32) ≤ nI 8 from by decide), qOk_some]
    rfl
theorem t_shakes : qT_shakes qR := by
  intro M1 M2 hR
  have hR0 := hR
  obtain ⟨⟨A, hc, hd, hw⟩, -, -, -⟩ := hR
  rw [X7_shakes_eq hc hw, qOk_some]
  unfold kX8_shakes
  rw [qOk2_b1]
  refine qOk.m (X8_asNow_eq M2) (fun N2 hN => ?_)
  obtain ⟨g1, g2, g3, -, -⟩ := hN
  have hn := asNow_D hd g1 g2 g3
  rw [qOk2_b1]
  refine qlp_for (fun k s => s = (nI (orO (fun a b => sSh A b a) k), nI k)) 8 (by omega) rfl ?_ ?_
  · rintro k s hk rfl
    show qOk (kX8_shakes_L8 N2 (nI (orO (fun a b => sSh A b a) k)) (nI k)) _
    unfold kX8_shakes_L8
    rw [if_neg (show ¬ (8 : Int32) ≤ nI k from nI_ge hk (by decide)), qOk_b1]
    refine qOk.m (X8_shakes_in hn hw hk _) (fun x hx => ?_)
    rw [hx, qvl_eq, qOk_some, ← nI_succ]
    rfl
  · rintro s rfl
    show qOk (kX8_shakes_L8 N2 (nI (orO (fun a b => sSh A b a) 8)) (nI 8)) _
    unfold kX8_shakes_L8
    rw [if_pos (show (8 : Int32) ≤ nI 8 from by decide), qOk_some]
    show qOk2 (some (nI (orO (fun a b => sSh A b a) 8), N2)) (fun r2 N2 => r2 = nI (orO (sSh A) 8) ∧ qR M1 N2)
    rw [qOk2_some, orO_swap (F := fun a b => sSh A b a) (G := sSh A) (fun _ _ _ _ => rfl)]
    exact ⟨rfl, hR0.kept qK1.rf (asNow_K g1 g3)⟩
