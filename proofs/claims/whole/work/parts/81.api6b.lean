/-! ROUND -/
theorem md_at {a x t : Nat} (ha : 0 < a) (h : (t + x) % a = 0) : ∃ j, t = (a - x % a) % a + j * a := by
  refine ⟨t / a, ?_⟩
  have e := Nat.div_add_mod t a
  rw [Nat.mul_comm] at e
  have r : t % a = (a - x % a) % a := by
    rw [Nat.add_mod] at h
    have h1 := Nat.mod_lt t ha
    have h2 := Nat.mod_lt x ha
    generalize t % a = u at *
    generalize x % a = w at *
    by_cases z : u + w < a
    · rw [Nat.mod_eq_of_lt z] at h
      have : w = 0 := by omega
      rw [this, Nat.sub_zero, Nat.mod_self]
      omega
    · rw [Nat.mod_eq_sub_mod (by omega), Nat.mod_eq_of_lt (by omega)] at h
      rw [Nat.mod_eq_of_lt (by omega)]
      omega
  omega
theorem md_ok {a x j : Nat} (ha : 0 < a) : ((a - x % a) % a + j * a + x) % a = 0 := by
  have h2 := Nat.mod_lt x ha
  rw [show (a - x % a) % a + j * a + x = (a - x % a) % a + x + j * a by omega, Nat.add_mul_mod_self_right, Nat.add_mod, Nat.mod_mod, ← Nat.add_mod]
  have e := Nat.div_add_mod x a
  rw [show a - x % a + x = a + a * (x / a) by omega, Nat.add_mul_mod_self_left, Nat.mod_self]
def sRd (a x c y j : Nat) : Prop := ((a - x % a) % a + j * a + y) % c = 0
theorem X7_round_loop {a x c y : Nat} (ha : 1 ≤ a ∧ a ≤ 99) (hc : 1 ≤ c ∧ c ≤ 99) (hx : x ≤ 99) (hy : y ≤ 99) {P : (Int32 ⊕ Unit) → Prop} (h1 : ∀ k, k < c → sRd a x c y k → (∀ j, j < k → ¬ sRd a x c y j) → P (.inl (nI ((a - x % a) % a + k * a)))) (h2 : (∀ j, j < c → ¬ sRd a x c y j) → P (.inr ())) : qOk (qlp (S := Int32 × Int32) (E := ((Int32) ⊕ (Unit))) (fun s => kX7_round_L59 (nI c) (nI y) (nI a) s.1 s.2) qFu (nI ((a - x % a) % a), 0)) P := by
  have v0 := Nat.mod_lt (a - x % a) (show 0 < a by omega)
  obtain ⟨w, hw⟩ : ∃ w, w = (a - x % a) % a := ⟨_, rfl⟩
  unfold sRd at h1 h2
  rw [← hw] at h1 h2 v0 ⊢
  refine qlp_for (fun k s => s = (nI (w + k * a), nI k) ∧ ∀ j, j < k → ¬ (w + j * a + y) % c = 0) c (by omega) ⟨by rw [Nat.zero_mul]; rfl, fun _ h => by omega⟩ ?_ ?_
  · rintro k s hk ⟨rfl, hj⟩
    have b1 : k * a ≤ 99 * 99 := Nat.mul_le_mul (by omega) (by omega)
    show qOk (kX7_round_L59 (nI c) (nI y) (nI a) (nI (w + k * a)) (nI k)) _
    unfold kX7_round_L59
    rw [if_neg (nI_ge hk (by omega)), qOk_nz, nI_add, pk_rem (by omega) (by omega) (by omega)]
    have m2 := Nat.mod_lt (w + k * a + y) (show 0 < c by omega)
    refine ⟨fun z => by rw [show (0 : Int32) = nI 0 from rfl, nI_inj (by omega) (by omega)] at z; omega, ?_⟩
    by_cases e : (w + k * a + y) % c = 0
    · rw [if_pos (show nI ((w + k * a + y) % c) = 0 by rw [e]; rfl), qOk_some]
      exact h1 k hk e hj
    · rw [if_neg (fun z => e (by rw [show (0 : Int32) = nI 0 from rfl, nI_inj (by omega) (by omega)] at z; exact z)), nI_add, qvl_eq, qvl_eq, qOk_some, nI_succ]
      refine ⟨by rw [show w + k * a + a = w + (k + 1) * a by rw [Nat.add_mul]; omega], fun j hjk => ?_⟩
      by_cases q : j = k
      · rw [q]; exact e
      · exact hj j (by omega)
  · rintro s ⟨rfl, hj⟩
    show qOk (kX7_round_L59 (nI c) (nI y) (nI a) (nI (w + c * a)) (nI c)) _
    unfold kX7_round_L59
    rw [if_pos (nI_le (Nat.le_refl _) (by omega)), qOk_some]
    exact h2 hj
theorem X8_round_step {a x c y t : Nat} (ha : 1 ≤ a ∧ a ≤ 99) (hc : 1 ≤ c ∧ c ≤ 99) (hx : x ≤ 99) (hy : y ≤ 99) (ht : t < a * c) {P : (Int32 ⊕ (Int32 ⊕ Unit)) → Prop} (h1 : (t + x) % a = 0 → (t + y) % c = 0 → P (.inr (.inl (nI t)))) (h2 : ¬ ((t + x) % a = 0 ∧ (t + y) % c = 0) → P (.inl (nI (t + 1)))) : qOk (kX8_round_L47 (nI a) (nI c) (nI x) (nI y) (nI t)) P := by
  have b1 : a * c ≤ 99 * 99 := Nat.mul_le_mul (by omega) (by omega)
  unfold kX8_round_L47
  rw [pk_mul, if_neg (nI_ge ht (by omega)), qOk_nz, nI_add, nI_add, pk_rem (by omega) (by omega) (by omega), pk_rem (by omega) (by omega) (by omega)]
  have m1 := Nat.mod_lt (t + x) (show 0 < a by omega)
  have m2 := Nat.mod_lt (t + y) (show 0 < c by omega)
  refine ⟨fun z => by rw [show (0 : Int32) = nI 0 from rfl, nI_inj (by omega) (by omega)] at z; omega, ?_⟩
  by_cases e : (t + x) % a = 0
  · rw [if_pos (show nI ((t + x) % a) = 0 by rw [e]; rfl), qOk_nz]
    refine ⟨fun z => by rw [show (0 : Int32) = nI 0 from rfl, nI_inj (by omega) (by omega)] at z; omega, ?_⟩
    by_cases f : (t + y) % c = 0
    · rw [if_pos (show nI ((t + y) % c) = 0 by rw [f]; rfl), qOk_some]
      exact h1 e f
    · rw [if_neg (fun z => f (by rw [show (0 : Int32) = nI 0 from rfl, nI_inj (by omega) (by omega)] at z; exact z)), qvl_eq, qOk_some, ← nI_succ]
      exact h2 (fun z => f z.2)
  · rw [if_neg (fun z => e (by rw [show (0 : Int32) = nI 0 from rfl, nI_inj (by omega) (by omega)] at z; exact z)), qvl_eq, qOk_some, ← nI_succ]
    exact h2 (fun z => e z.1)
theorem t_round : qT_round qR := by
  intro M1 M2 hR x1 x2 x3 x4
  unfold kX7_round kX8_round
  rcases rg x1 1 99 (by omega) (by omega) with ⟨a1, a2⟩ | ⟨a1, a2, -, a3⟩ | ⟨a, ha1, ha2, e, a1, a2, -, a3⟩
  · rw [if_pos (show x1 < 1 from a1), show kX8_in x1 1 99 = some 0 from a2, qb1_some, if00, qOk_some, qOk_some]
    exact ⟨rfl, hR⟩
  · rw [if_neg (show ¬ x1 < 1 from a1), if_pos (show 99 < x1 from a2), show kX8_in x1 1 99 = some 0 from a3, qb1_some, if00, qOk_some, qOk_some]
    exact ⟨rfl, hR⟩
  rw [if_neg (show ¬ x1 < 1 from a1), if_neg (show ¬ 99 < x1 from a2), show kX8_in x1 1 99 = some 1 from a3, qb1_some, if10]
  clear a1 a2 a3
  subst e
  rcases rg x3 1 99 (by omega) (by omega) with ⟨a1, a2⟩ | ⟨a1, a2, -, a3⟩ | ⟨c, hc1, hc2, e, a1, a2, -, a3⟩
  · rw [if_pos (show x3 < 1 from a1), show kX8_in x3 1 99 = some 0 from a2, qb1_some, if00, qOk_some, qOk_some]
    exact ⟨rfl, hR⟩
  · rw [if_neg (show ¬ x3 < 1 from a1), if_pos (show 99 < x3 from a2), show kX8_in x3 1 99 = some 0 from a3, qb1_some, if00, qOk_some, qOk_some]
    exact ⟨rfl, hR⟩
  rw [if_neg (show ¬ x3 < 1 from a1), if_neg (show ¬ 99 < x3 from a2), show kX8_in x3 1 99 = some 1 from a3, qb1_some, if10]
  clear a1 a2 a3
  subst e
  rcases rg x2 0 99 (by omega) (by omega) with ⟨a1, a2⟩ | ⟨a1, a2, -, a3⟩ | ⟨x, -, hx, e, a1, a2, -, a3⟩
  · rw [if_pos (show x2 < 0 from a1), show kX8_in x2 0 99 = some 0 from a2, qb1_some, if00, qOk_some, qOk_some]
    exact ⟨rfl, hR⟩
  · rw [if_neg (show ¬ x2 < 0 from a1), if_pos (show 99 < x2 from a2), show kX8_in x2 0 99 = some 0 from a3, qb1_some, if00, qOk_some, qOk_some]
    exact ⟨rfl, hR⟩
  rw [if_neg (show ¬ x2 < 0 from a1), if_neg (show ¬ 99 < x2 from a2), show kX8_in x2 0 99 = some 1 from a3, qb1_some, if10]
  clear a1 a2 a3
  subst e
  rcases rg x4 0 99 (by omega) (by omega) with ⟨a1, a2⟩ | ⟨a1, -, a2, a3⟩ | ⟨y, -, hy, e, a1, -, a2, a3⟩
  · rw [if_pos (show x4 < 0 from a1), show kX8_in x4 0 99 = some 0 from a2, qb1_some, if00, qOk_some, qOk_some]
    exact ⟨rfl, hR⟩
  · rw [if_neg (show ¬ x4 < 0 from a1), if_neg (show ¬ x4 ≤ 99 from a2), show kX8_in x4 0 99 = some 0 from a3, qb1_some, if00, qOk_some, qOk_some]
    exact ⟨rfl, hR⟩
  rw [if_neg (show ¬ x4 < 0 from a1), if_pos (show x4 ≤ 99 from a2), show kX8_in x4 0 99 = some 1 from a3, qb1_some, if10]
  clear a1 a2 a3
  subst e
  have na : ¬ nI a = 0 := fun z => by rw [show (0 : Int32) = nI 0 from rfl, nI_inj (by omega) (by omega)] at z; omega
  have m0 := Nat.mod_lt x (show 0 < a by omega)
  rw [qOk_nz, qOk_nz, pk_rem (by omega) (by omega) (by omega), pk_sub (by omega), pk_rem (by omega) (by omega) (by omega), qvl_eq, qOk_e0]
  refine ⟨na, na, ?_⟩
  refine X7_round_loop ⟨ha1, ha2⟩ ⟨hc1, hc2⟩ hx hy ?_ ?_
  · intro k hk e hj
    show qOk (some _) _
    rw [qOk_some, qOk_e0]
    have b2 : k * a + a ≤ a * c := by
      rw [show k * a + a = a * (k + 1) by rw [Nat.mul_add, Nat.mul_comm]; omega]
      exact Nat.mul_le_mul_left a hk
    have v0 := Nat.mod_lt (a - x % a) (show 0 < a by omega)
    have b1 : a * c ≤ 99 * 99 := Nat.mul_le_mul (by omega) (by omega)
    refine qlp_for (fun t s => s = nI t) ((a - x % a) % a + k * a) (by omega) rfl ?_ ?_
    · rintro t s ht rfl
      refine X8_round_step ⟨ha1, ha2⟩ ⟨hc1, hc2⟩ hx hy (by omega) (fun f1 f2 => ?_) (fun _ => rfl)
      obtain ⟨j, rfl⟩ := md_at (by omega) f1
      exact absurd f2 (hj j (by
        rcases Nat.lt_or_ge j k with z | z
        · exact z
        · have := Nat.mul_le_mul_right a z
          omega))
    · rintro s rfl
      refine X8_round_step ⟨ha1, ha2⟩ ⟨hc1, hc2⟩ hx hy (by omega) (fun f1 f2 => ?_) (fun z => (z ⟨md_ok (by omega), e⟩).elim)
      show qOk (some _) _
      rw [qOk_some]
      exact ⟨rfl, hR⟩
  · intro hj
    show qOk (some _) _
    rw [qOk_some, qOk_e0]
    have b1 : a * c ≤ 99 * 99 := Nat.mul_le_mul (by omega) (by omega)
    refine qlp_for (fun t s => s = nI t) (a * c) (by omega) rfl ?_ ?_
    · rintro t s ht rfl
      refine X8_round_step ⟨ha1, ha2⟩ ⟨hc1, hc2⟩ hx hy ht (fun f1 f2 => ?_) (fun _ => rfl)
      obtain ⟨j, rfl⟩ := md_at (by omega) f1
      exact absurd f2 (hj j (by
        rcases Nat.lt_or_ge j c with z | z
        · exact z
        · have := Nat.mul_le_mul_right a z
          rw [Nat.mul_comm c a] at this
          omega))
    · rintro s rfl
      show qOk (kX8_round_L47 (nI a) (nI c) (nI x) (nI y) (nI (a * c))) _
      unfold kX8_round_L47
      rw [pk_mul, if_pos (nI_le (Nat.le_refl _) (by omega)), qOk_some]
      show qOk (some _) _
      rw [qOk_some]
      exact ⟨rfl, hR⟩
