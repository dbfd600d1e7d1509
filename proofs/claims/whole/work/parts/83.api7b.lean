/-! KEEP -/
theorem X1_singing_eq {b : Nat} {M : qM} {A : qN} (h : qC b M A) (hw : qW A) : kX1_singing b M = some (nI (orL (fun v => if 0 < A 5 v then 2 ^ v else 0) 0 8)) := by
  apply qOk_eq
  unfold kX1_singing
  rw [qOk_b1]
  refine qlp_for (fun k s => s = (nI (orL (fun v => if 0 < A 5 v then 2 ^ v else 0) 0 k), nI k)) 8 (by omega) rfl ?_ ?_
  · rintro k s hk rfl
    show qOk (kX1_singing_L4 b M (nI (orL (fun v => if 0 < A 5 v then 2 ^ v else 0) 0 k)) (nI k)) _
    unfold kX1_singing_L4
    rw [if_neg (show ¬ (8 : Int32) ≤ nI k from nI_ge hk (by decide)), X1_isSinging_eq h hw hk, qb1_some]
    by_cases e : 0 < A 5 k
    · rw [if_pos e, if10, shl1 (by omega), fa_or, qvl_eq, qb1_some, qvl_eq, qOk_some, nI_succ]
      show _ = _
      rw [show orL (fun v => if 0 < A 5 v then 2 ^ v else 0) 0 (k + 1) = orL (fun v => if 0 < A 5 v then 2 ^ v else 0) 0 k ||| (if 0 < A 5 k then 2 ^ k else 0) from rfl, if_pos e]
    · rw [if_neg e, if00, qb1_some, qvl_eq, qOk_some, nI_succ]
      show _ = _
      rw [show orL (fun v => if 0 < A 5 v then 2 ^ v else 0) 0 (k + 1) = orL (fun v => if 0 < A 5 v then 2 ^ v else 0) 0 k ||| (if 0 < A 5 k then 2 ^ k else 0) from rfl, if_neg e, Nat.or_zero]
  · rintro s rfl
    show qOk (kX1_singing_L4 b M (nI (orL (fun v => if 0 < A 5 v then 2 ^ v else 0) 0 8)) (nI 8)) _
    unfold kX1_singing_L4
    rw [if_pos (show (8 : Int32) ≤ nI 8 from by decide), qOk_some]
    show qOk (some _) _
    rw [qOk_some]
def sSi (A : qN) : Nat := orL (fun v => if 0 < A 5 v then 2 ^ v else 0) 0 8
theorem sSi_bit {A : qN} (i : Nat) : (sSi A).testBit i = true ↔ i < 8 ∧ 0 < A 5 i := by
  unfold sSi
  rw [orL_bit, Nat.zero_testBit]
  constructor
  · rintro (h | ⟨j, hj, h⟩)
    · cases h
    · by_cases e : 0 < A 5 j
      · rw [if_pos e, Nat.testBit_two_pow] at h
        have : j = i := of_decide_eq_true h
        subst this
        exact ⟨hj, e⟩
      · rw [if_neg e, Nat.zero_testBit] at h
        cases h
  · rintro ⟨h1, h2⟩
    refine Or.inr ⟨i, h1, ?_⟩
    rw [if_pos h2, Nat.testBit_two_pow]
    simp
theorem sSi_lt (A : qN) : sSi A < 256 := by
  apply Nat.lt_pow_two_of_testBit (n := 8)
  intro i hi
  cases e : (sSi A).testBit i
  · rfl
  · have := (sSi_bit i).mp e
    omega
/-- m can sing on: no two of it take each other out -/
def gdP (A : qN) (m v : Nat) : Prop := ∀ w, w < v → m.testBit v = true → m.testBit w = true → sCl A v w = false
def gdO (A : qN) (m : Nat) : Prop := ∀ v, v < 8 → gdP A m v
theorem X7_canSingOn_eq {M : qM} {A : qN} (h : qC 1 M A) (hw : qW A) {m : Nat} (hm : m < 256) : qOk (kX7_canSingOn M (nI m)) (fun r => (r = 1 ∧ gdO A m) ∨ (r = 0 ∧ ¬ gdO A m)) := by
  unfold kX7_canSingOn
  rw [qOk_e0]
  refine qlp_for (fun k s => s = nI k ∧ ∀ v, v < k → gdP A m v) 8 (by omega) ⟨rfl, fun _ z => by omega⟩ ?_ ?_
  · rintro k s hk ⟨rfl, hg⟩
    unfold kX7_canSingOn_L2
    rw [if_neg (show ¬ (8 : Int32) ≤ nI k from nI_ge hk (by decide)), qOk_e0]
    refine qlp_for (fun j s => s = nI j ∧ ∀ w, w < j → m.testBit k = true → m.testBit w = true → sCl A k w = false) k (by omega) ⟨rfl, fun _ z => by omega⟩ ?_ ?_
    · rintro j s hj ⟨rfl, hq⟩
      unfold kX7_canSingOn_L10
      rw [if_neg (nI_ge hj (by omega)), X7_has_eq (by omega) (by omega), qb1_some]
      have go : (m.testBit k = true → m.testBit j = true → sCl A k j = false) → (∀ w, w < j + 1 → m.testBit k = true → m.testBit w = true → sCl A k w = false) := fun z w hw a b => by
        by_cases e : w = j
        · subst e; exact z a b
        · exact hq w (by omega) a b
      by_cases c1 : m.testBit k = true
      · rw [if_pos c1, if10, X7_has_eq (by omega) (by omega), qb1_some]
        by_cases c2 : m.testBit j = true
        · rw [if_pos c2, if10, X1_clash_eq h hw hk (by omega), qb1_some]
          by_cases c3 : sCl A k j = true
          · rw [if_pos c3, if10, qOk_some]
            show qOk (some _) _
            rw [qOk_some]
            show qOk (some _) _
            rw [qOk_some]
            refine Or.inr ⟨rfl, fun z => ?_⟩
            have := z k hk j hj c1 c2
            rw [c3] at this
            cases this
          · rw [if_neg c3, if00, qvl_eq, qOk_some]
            exact ⟨(by rw [nI_succ]), go (fun _ _ => by simpa using c3)⟩
        · rw [if_neg c2, if00, qvl_eq, qOk_some]
          exact ⟨(by rw [nI_succ]), go (fun _ z => absurd z c2)⟩
      · rw [if_neg c1, if00, qvl_eq, qOk_some]
        exact ⟨(by rw [nI_succ]), go (fun z => absurd z c1)⟩
    · rintro s ⟨rfl, hq⟩
      unfold kX7_canSingOn_L10
      rw [if_pos (nI_le (Nat.le_refl _) (by omega)), qOk_some]
      show qOk (qvl _ _) _
      rw [qvl_eq, qOk_some, ← nI_succ]
      refine ⟨rfl, fun v hv => ?_⟩
      by_cases e : v = k
      · subst e; exact hq
      · exact hg v (by omega)
  · rintro s ⟨rfl, hg⟩
    unfold kX7_canSingOn_L2
    rw [if_pos (show (8 : Int32) ≤ nI 8 from by decide), qOk_some]
    show qOk (some _) _
    rw [qOk_some]
    exact Or.inl ⟨rfl, hg⟩
def gdK (A : qN) (m : Nat) : Prop := (∀ v, v < 8 → m.testBit v = true → 0 < A 5 v) ∧ gdO A m
/-- b: the first of the greatest good sets below k -/
def sKb (A : qN) (k b : Nat) : Prop := b < 256 ∧ gdK A b ∧ (b < k ∨ b = 0) ∧ ∀ m, m < k → gdK A m → bc m < bc b ∨ (bc m = bc b ∧ b ≤ m)
theorem gdK_0 {A : qN} : gdK A 0 := ⟨fun v _ h => (by rw [Nat.zero_testBit] at h; exact absurd h (by decide)), fun v _ w _ h => (by rw [Nat.zero_testBit] at h; exact absurd h (by decide))⟩
theorem sKb_up {A : qN} {k b : Nat} (hk : k < 256) (h : sKb A k b) (g : gdK A k) (hb : bc b < bc k) : sKb A (k + 1) k := by
  refine ⟨hk, g, by omega, fun m hm gm => ?_⟩
  by_cases e : m = k
  · subst e; exact Or.inr ⟨rfl, Nat.le_refl _⟩
  · have := h.2.2.2 m (by omega) gm
    omega
theorem sKb_no {A : qN} {k b : Nat} (h : sKb A k b) (g : ¬ (gdK A k ∧ bc b < bc k)) : sKb A (k + 1) b := by
  refine ⟨h.1, h.2.1, by have := h.2.2.1; omega, fun m hm gm => ?_⟩
  by_cases e : m = k
  · subst e
    have : ¬ bc b < bc m := fun z => g ⟨gm, z⟩
    have := h.2.2.1
    omega
  · exact h.2.2.2 m (by omega) gm
theorem gdK_le {A : qN} {m : Nat} (hm : m < 256) (g : gdK A m) : m ≤ sSi A := by
  have e : m &&& sSi A = m := by
    apply Nat.eq_of_testBit_eq
    intro i
    rw [Nat.testBit_and]
    cases c : m.testBit i
    · rfl
    · have i8 : i < 8 := by
        rcases Nat.lt_or_ge i 8 with z | z
        · exact z
        · rw [Nat.testBit_lt_two_pow (Nat.lt_of_lt_of_le hm (Nat.pow_le_pow_right (n := 2) (by omega) z))] at c
          cases c
      rw [(sSi_bit i).mpr ⟨i8, g.1 i i8 c⟩]
      rfl
  have := @Nat.and_le_right m (sSi A)
  omega
theorem X7_keep_loop {M : qM} {A : qN} (h : qC 1 M A) (hw : qW A) : qOk (qlp (S := Int32 × Int32) (E := (Int32)) (fun s => kX7_keep_L25 (nI (sSi A)) M s.1 s.2) qFu (0, 1)) (fun r => ∃ b, r = nI b ∧ sKb A 256 b) := by
  have hs := sSi_lt A
  refine qlp_for (fun k s => ∃ b, s = (nI b, nI (k + 1)) ∧ sKb A (k + 1) b) (sSi A) (by omega) ⟨0, rfl, by omega, gdK_0, Or.inr rfl, fun m hm _ => by rw [show m = 0 by omega]; exact Or.inr ⟨rfl, Nat.le_refl _⟩⟩ ?_ ?_
  · rintro k s hk ⟨b, rfl, hb⟩
    show qOk (kX7_keep_L25 (nI (sSi A)) M (nI b) (nI (k + 1))) _
    unfold kX7_keep_L25
    have b1 := hb.1
    have l1 := bc_le (k + 1)
    have l2 := bc_le b
    rw [if_neg (nI_nlt (by omega) (by omega)), andnot (by omega)]
    have no : ¬ (gdK A (k + 1) ∧ bc b < bc (k + 1)) → qOk (qb1 (some (nI b)) (fun v5 => qvl (nI (k + 1) + 1) (fun v9 => some (Sum.inl (β := Int32) (v5, v9))))) (Sum.elim (fun s => ∃ b, s = (nI b, nI (k + 1 + 1)) ∧ sKb A (k + 1 + 1) b) (fun r => ∃ b, r = nI b ∧ sKb A 256 b)) := fun c => by
      rw [qb1_some, qvl_eq, qOk_some, ← nI_succ]
      exact ⟨b, rfl, sKb_no hb c⟩
    by_cases c : (k + 1) &&& (sSi A ^^^ 1023) = 0
    · rw [if_pos (show nI ((k + 1) &&& (sSi A ^^^ 1023)) = 0 by rw [c]; rfl), J6_bits_eq (by omega), qb1_some, J6_bits_eq (by omega), qb1_some]
      have ss : ∀ v, v < 8 → (k + 1).testBit v = true → 0 < A 5 v := fun v _ hv => ((sSi_bit v).mp ((sub_and (by omega)).mp c v hv)).2
      by_cases d : bc (k + 1) ≤ bc b
      · rw [if_pos (nI_le d (by omega))]
        exact no (fun z => by omega)
      · rw [if_neg (nI_ge (by omega) (by omega)), qOk_b1, qOk_b1]
        refine qOk.m (X7_canSingOn_eq h hw (by omega)) (fun r hr => ?_)
        rcases hr with ⟨rfl, g⟩ | ⟨rfl, g⟩
        · rw [if10, qOk_some, qvl_eq, qOk_some, ← nI_succ]
          exact ⟨k + 1, rfl, sKb_up (by omega) hb ⟨ss, g⟩ (by omega)⟩
        · rw [if00, qOk_some]
          exact no (fun z => g z.1.2)
    · rw [if_neg (fun z => c (by rw [show (0 : Int32) = nI 0 from rfl, nI_inj (Nat.lt_of_le_of_lt Nat.and_le_left (by omega)) (by omega)] at z; exact z))]
      refine no (fun z => c ((sub_and (by omega)).mpr (fun i hi => ?_)))
      have i8 : i < 8 := by
        rcases Nat.lt_or_ge i 8 with z | z
        · exact z
        · rw [Nat.testBit_lt_two_pow (Nat.lt_of_lt_of_le (show k + 1 < 2 ^ 8 by omega) (Nat.pow_le_pow_right (n := 2) (by omega) z))] at hi
          cases hi
      exact (sSi_bit i).mpr ⟨i8, z.1.1 i i8 hi⟩
  · rintro s ⟨b, rfl, hb⟩
    show qOk (kX7_keep_L25 (nI (sSi A)) M (nI b) (nI (sSi A + 1))) _
    unfold kX7_keep_L25
    rw [if_pos (nI_lt (by omega) (by omega)), qOk_some]
    refine ⟨b, rfl, hb.1, hb.2.1, by have := hb.2.2.1; omega, fun m hm gm => hb.2.2.2 m (by have := gdK_le hm gm; omega) gm⟩
/-- what one voice of m asks -/
def gdV (A : qN) (m v : Nat) : Prop := m.testBit v = true → 0 < A 5 v ∧ ∀ w, w < v → m.testBit w = true → sCl A v w = false
theorem gdV_K {A : qN} {m : Nat} : gdK A m ↔ ∀ v, v < 8 → gdV A m v := by
  constructor
  · intro h v hv hm
    exact ⟨h.1 v hv hm, fun w hw z => h.2 v hv w hw hm z⟩
  · intro h
    exact ⟨fun v hv hm => (h v hv hm).1, fun v hv w hw a b => (h v hv a).2 w hw b⟩
theorem X8_keep_in {M : qM} {A : qN} (h : qDn M A) (hw : qW A) {m k : Nat} (hm : m < 256) (hk : k < 8) (hs : m.testBit k = true → 0 < A 5 k) : qOk (qlp (S := Int32 × Int32) (E := (Int32)) (fun s => kX8_keep_L102 (nI k) (nI m) M (nI (A 0 k)) s.1 s.2) qFu (1, 0)) (fun r => (r = 1 ∧ gdV A m k) ∨ (r = 0 ∧ ¬ gdV A m k)) := by
  have pk := hw.pl k hk
  refine qlp_for (fun j s => (s = (1, nI j) ∧ ∀ w, w < j → m.testBit w = true → sCl A k w = false) ∨ (∃ i, s = (0, nI i) ∧ ¬ gdV A m k)) k (by omega) (Or.inl ⟨rfl, fun _ z => by omega⟩) ?_ ?_
  · rintro j s hj (⟨rfl, hq⟩ | ⟨i, rfl, hg⟩)
    · show qOk (kX8_keep_L102 (nI k) (nI m) M (nI (A 0 k)) 1 (nI j)) _
      unfold kX8_keep_L102
      rw [if_neg (nI_ge hj (by omega)), if10, X8_has_eq (by omega) (by omega), qb1_some]
      by_cases c1 : m.testBit k = true
      · have s1 := hs c1
        rw [if_pos c1, if10, X8_has_eq (by omega) (by omega), qb1_some]
        have go : (m.testBit j = true → sCl A k j = false) → qOk (qb1 (some (1 : Int32)) (fun v21 => qvl (nI j + 1) (fun v25 => some (Sum.inl (β := Int32) (v21, v25))))) (Sum.elim (fun s => (s = (1, nI (j + 1)) ∧ ∀ w, w < j + 1 → m.testBit w = true → sCl A k w = false) ∨ (∃ i, s = (0, nI i) ∧ ¬ gdV A m k)) (fun r => (r = 1 ∧ gdV A m k) ∨ (r = 0 ∧ ¬ gdV A m k))) := fun z => by
          rw [qb1_some, qvl_eq, qOk_some, ← nI_succ]
          refine Or.inl ⟨rfl, fun w hw b => ?_⟩
          by_cases e : w = j
          · subst e; exact z b
          · exact hq w (by omega) b
        by_cases c2 : m.testBit j = true
        · rw [if_pos c2, if10, h.ga, X8_has_eq (by have := hw.ga; omega) (by omega), qb1_some]
          by_cases c3 : (A 11 1).testBit (A 0 k) = true
          · rw [if_pos c3, if10, X8_sings_eq h hw (by omega) pk, qb1_some]
            by_cases c4 : 0 < A 5 j ∧ A 0 j = A 0 k
            · rw [if_pos c4, if10, X8_areHushed_eq h hw hk (by omega) s1 c4.1, qb1_some]
              have e : sCl A k j = sDif (A 5 k) (A 5 j) := by
                unfold sCl
                simp [c3, s1, c4.1, c4.2]
              by_cases c5 : sDif (A 5 k) (A 5 j) = true
              · rw [if_pos c5, if10, qb1_some, qvl_eq, qOk_some, ← nI_succ]
                refine Or.inr ⟨j + 1, rfl, fun z => ?_⟩
                have := (z c1).2 j hj c2
                rw [e, c5] at this
                cases this
              · rw [if_neg c5, if00]
                exact go (fun _ => by rw [e]; simpa using c5)
            · rw [if_neg c4, if00]
              refine go (fun _ => ?_)
              unfold sCl
              by_cases d : 0 < A 5 j
              · have d2 : ¬ A 0 k = A 0 j := fun z => c4 ⟨d, z.symm⟩
                simp [d2]
              · simp [d]
          · rw [if_neg c3, if00]
            refine go (fun _ => ?_)
            unfold sCl
            simp [c3]
        · rw [if_neg c2, if00]
          exact go (fun z => absurd z c2)
      · rw [if_neg c1, if00, qOk_some]
        exact Or.inl ⟨rfl, fun z => absurd z c1⟩
    · show qOk (kX8_keep_L102 (nI k) (nI m) M (nI (A 0 k)) 0 (nI i)) _
      unfold kX8_keep_L102
      rw [if00, ite_self, qOk_some]
      exact Or.inr ⟨rfl, hg⟩
  · rintro s (⟨rfl, hq⟩ | ⟨i, rfl, hg⟩)
    · show qOk (kX8_keep_L102 (nI k) (nI m) M (nI (A 0 k)) 1 (nI k)) _
      unfold kX8_keep_L102
      rw [if_pos (nI_le (Nat.le_refl _) (by omega)), qOk_some]
      exact Or.inl ⟨rfl, fun z => ⟨hs z, hq⟩⟩
    · show qOk (kX8_keep_L102 (nI k) (nI m) M (nI (A 0 k)) 0 (nI i)) _
      unfold kX8_keep_L102
      rw [if00, ite_self, qOk_some]
      exact Or.inr ⟨rfl, hg⟩
theorem X8_keep_in0 {M : qM} {k m g : Int32} : qOk (qlp (S := Int32 × Int32) (E := (Int32)) (fun s => kX8_keep_L102 k m M g s.1 s.2) qFu (0, 0)) (fun r => r = 0) := by
  refine qlp_for (fun _ s => s = (0, 0)) 0 (by omega) rfl (fun _ _ z => by omega) ?_
  rintro s rfl
  show qOk (kX8_keep_L102 k m M g 0 0) _
  unfold kX8_keep_L102
  rw [if00, ite_self, qOk_some]
  rfl
theorem X8_keep_set {M : qM} {A : qN} (h : qDn M A) (hw : qW A) {m : Nat} (hm : m < 256) : qOk (qlp (S := Int32 × Int32) (E := (Int32)) (fun s => kX8_keep_L48 M (nI m) s.1 s.2) qFu (1, 0)) (fun r => (r = 1 ∧ gdK A m) ∨ (r = 0 ∧ ¬ gdK A m)) := by
  refine qlp_for (fun j s => (s = (1, nI j) ∧ ∀ v, v < j → gdV A m v) ∨ (∃ i, s = (0, nI i) ∧ ¬ gdK A m)) 8 (by omega) (Or.inl ⟨rfl, fun _ z => by omega⟩) ?_ ?_
  · rintro k s hk (⟨rfl, hq⟩ | ⟨i, rfl, hg⟩)
    · show qOk (kX8_keep_L48 M (nI m) 1 (nI k)) _
      unfold kX8_keep_L48
      have pk := hw.pl k hk
      rw [if_neg (show ¬ (8 : Int32) ≤ nI k from nI_ge hk (by decide)), if10, show (16 : Int32) + nI k = nI (16 + k) from nI_add 16 k, qrd_k (show 16 + k < 36 by omega) (by omega), h.pl k hk, X8_has_eq (by omega) (by omega), qb1_some]
      have go : (m.testBit k = true → 0 < A 5 k) → qOk (qb1 (some (1 : Int32)) (fun v14 => qb1 (qlp (S := Int32 × Int32) (E := (Int32)) (fun s => kX8_keep_L102 (nI k) (nI m) M (nI (A 0 k)) s.1 s.2) qFu (v14, 0)) (fun v18 => qvl (nI k + 1) (fun v26 => some (Sum.inl (β := Int32) (v18, v26)))))) (Sum.elim (fun s => (s = (1, nI (k + 1)) ∧ ∀ v, v < k + 1 → gdV A m v) ∨ (∃ i, s = (0, nI i) ∧ ¬ gdK A m)) (fun r => (r = 1 ∧ gdK A m) ∨ (r = 0 ∧ ¬ gdK A m))) := fun hs => by
        rw [qb1_some, qOk_b1]
        refine qOk.m (X8_keep_in h hw hm hk hs) (fun r hr => ?_)
        rw [qvl_eq, qOk_some, ← nI_succ]
        rcases hr with ⟨rfl, g⟩ | ⟨rfl, g⟩
        · refine Or.inl ⟨rfl, fun v hv => ?_⟩
          by_cases e : v = k
          · subst e; exact g
          · exact hq v (by omega)
        · exact Or.inr ⟨k + 1, rfl, fun z => g (gdV_K.mp z k hk)⟩
      by_cases c1 : m.testBit k = true
      · rw [if_pos c1, if10, X8_sings_eq h hw hk pk, qb1_some]
        by_cases c2 : 0 < A 5 k
        · rw [if_pos (show 0 < A 5 k ∧ A 0 k = A 0 k from ⟨c2, rfl⟩), if10]
          exact go (fun _ => c2)
        · rw [if_neg (show ¬ (0 < A 5 k ∧ A 0 k = A 0 k) from fun z => c2 z.1), if00, qb1_some, qOk_b1]
          refine qOk.m X8_keep_in0 (fun r hr => ?_)
          rw [hr, qvl_eq, qOk_some, ← nI_succ]
          exact Or.inr ⟨k + 1, rfl, fun z => c2 (z.1 k hk c1)⟩
      · rw [if_neg c1, if00]
        exact go (fun z => absurd z c1)
    · show qOk (kX8_keep_L48 M (nI m) 0 (nI i)) _
      unfold kX8_keep_L48
      rw [if00, ite_self, qOk_some]
      exact Or.inr ⟨rfl, hg⟩
  · rintro s (⟨rfl, hq⟩ | ⟨i, rfl, hg⟩)
    · show qOk (kX8_keep_L48 M (nI m) 1 (nI 8)) _
      unfold kX8_keep_L48
      rw [if_pos (show (8 : Int32) ≤ nI 8 from by decide), qOk_some]
      exact Or.inl ⟨rfl, gdV_K.mpr hq⟩
    · show qOk (kX8_keep_L48 M (nI m) 0 (nI i)) _
      unfold kX8_keep_L48
      rw [if00, ite_self, qOk_some]
      exact Or.inr ⟨rfl, hg⟩
theorem X8_keep_set0 {M : qM} {m : Int32} : qOk (qlp (S := Int32 × Int32) (E := (Int32)) (fun s => kX8_keep_L48 M m s.1 s.2) qFu (0, 0)) (fun r => r = 0) := by
  refine qlp_for (fun _ s => s = (0, 0)) 0 (by omega) rfl (fun _ _ z => by omega) ?_
  rintro s rfl
  show qOk (kX8_keep_L48 M m 0 0) _
  unfold kX8_keep_L48
  rw [if00, ite_self, qOk_some]
  rfl
theorem X8_keep_loop {M : qM} {A : qN} (h : qDn M A) (hw : qW A) : qOk (qlp (S := Int32 × Int32) (E := (Int32)) (fun s => kX8_keep_L20 M s.1 s.2) qFu (0, 0)) (fun r => ∃ b, r = nI b ∧ sKb A 256 b) := by
  refine qlp_for (fun k s => ∃ b, s = (nI b, nI k) ∧ sKb A k b) 256 (by omega) ⟨0, rfl, by omega, gdK_0, Or.inr rfl, fun m hm _ => by omega⟩ ?_ ?_
  · rintro k s hk ⟨b, rfl, hb⟩
    show qOk (kX8_keep_L20 M (nI b) (nI k)) _
    unfold kX8_keep_L20
    have b1 := hb.1
    have l1 := bc_le k
    have l2 := bc_le b
    rw [if_neg (show ¬ (256 : Int32) ≤ nI k from nI_ge hk (by decide)), X8_bits_eq (by omega), qb1_some, X8_bits_eq (by omega), qb1_some]
    by_cases d : bc k ≤ bc b
    · rw [if_pos (nI_le d (by omega)), qb1_some, qOk_b1]
      refine qOk.m X8_keep_set0 (fun r hr => ?_)
      rw [hr, if00, qb1_some, qvl_eq, qOk_some, ← nI_succ]
      exact ⟨b, rfl, sKb_no hb (fun z => by omega)⟩
    · rw [if_neg (nI_ge (by omega) (by omega)), qb1_some, qOk_b1]
      refine qOk.m (X8_keep_set h hw hk) (fun r hr => ?_)
      rcases hr with ⟨rfl, g⟩ | ⟨rfl, g⟩
      · rw [if10, qb1_some, qvl_eq, qOk_some, ← nI_succ]
        exact ⟨k, rfl, sKb_up hk hb g (by omega)⟩
      · rw [if00, qb1_some, qvl_eq, qOk_some, ← nI_succ]
        exact ⟨b, rfl, sKb_no hb (fun z => g z.1)⟩
  · rintro s ⟨b, rfl, hb⟩
    show qOk (kX8_keep_L20 M (nI b) (nI 256)) _
    unfold kX8_keep_L20
    rw [if_pos (show (256 : Int32) ≤ nI 256 from by decide), qOk_some]
    exact ⟨b, rfl, hb⟩
theorem t_keep : qT_keep qR := by
  intro M1 M2 hR x1
  have hR0 := hR
  obtain ⟨⟨A, hc, hd, hw⟩, -, -, -⟩ := hR
  unfold kX7_keep kX8_keep
  rcases rg x1 0 1 (by omega) (by omega) with ⟨a1, a2⟩ | ⟨a1, -, a2, a3⟩ | ⟨y, -, hy, e, a1, -, a2, a3⟩
  · rw [if_pos (show x1 < 0 from a1), show kX8_in x1 0 1 = some 0 from a2, qb1_some, if00, qOk_some, qOk2_some]
    exact ⟨rfl, hR0⟩
  · rw [if_neg (show ¬ x1 < 0 from a1), if_neg (show ¬ x1 ≤ 1 from a2), show kX8_in x1 0 1 = some 0 from a3, qb1_some, if00, qOk_some, qOk2_some]
    exact ⟨rfl, hR0⟩
  rw [if_neg (show ¬ x1 < 0 from a1), if_pos (show x1 ≤ 1 from a2), show kX8_in x1 0 1 = some 1 from a3, qb1_some, if10]
  clear a1 a2 a3
  subst e
  rw [show kX1_singing 1 M1 = some (nI (sSi A)) from X1_singing_eq hc hw, qb1_some, qOk_b1]
  refine qOk.m (X7_keep_loop hc hw) (fun r hr => ?_)
  obtain ⟨b, rfl, b1, b2, b3, b4⟩ := hr
  have go : ∀ (r1 : Int32) (G : qM → Int32 → Option (Int32 × qM)), (∀ N, G N (nI b) = some (r1, N)) → qOk2 (qb1 (kX8_asNow M2) (fun M2 => qb1 (qlp (S := Int32 × Int32) (E := (Int32)) (fun s => kX8_keep_L20 M2 s.1 s.2) qFu (0, 0)) (G M2))) (fun r2 N2 => r2 = r1 ∧ qR M1 N2) := fun r1 G hG => by
    rw [qOk2_b1]
    refine qOk.m (X8_asNow_eq M2) (fun N2 hN => ?_)
    obtain ⟨g1, g2, g3, -, -⟩ := hN
    rw [qOk2_b1]
    refine qOk.m (X8_keep_loop (asNow_D hd g1 g2 g3) hw) (fun r hr => ?_)
    obtain ⟨d, rfl, d1, d2, d3, d4⟩ := hr
    have e : d = b := by
      have u1 := b4 d d1 d2
      have u2 := d4 b b1 b2
      omega
    rw [e, hG, qOk2_some]
    exact ⟨rfl, hR0.kept qK1.rf (asNow_K g1 g3)⟩
  rcases (show y = 0 ∨ y = 1 by omega) with rfl | rfl
  · rw [if_pos (show nI 0 = (0 : Int32) from rfl), J6_bits_eq (by omega), qb1_some, qb1_some, qOk_some]
    exact go _ _ (fun N => by rw [if_neg (show ¬ nI 0 = (1 : Int32) from by decide), X8_bits_eq (by omega)]; rfl)
  · rw [if_neg (show ¬ nI 1 = (0 : Int32) from by decide), qb1_some, qOk_some]
    exact go _ _ (fun N => by rw [if_pos (show nI 1 = (1 : Int32) from rfl)]; rfl)
