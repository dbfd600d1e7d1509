/-! FAR: how far galleries lie -/
theorem bit_dm (m i : Nat) : (m.testBit i = true) ↔ m / 2 ^ i % 2 = 1 := by
  rw [Nat.testBit_eq_decide_div_mod_eq, decide_eq_true_iff]
theorem sum10 (f g : Nat → Nat) (h : ∀ i, f i ≤ g i) (hs : g 0 + g 1 + g 2 + g 3 + g 4 + g 5 + g 6 + g 7 + g 8 + g 9 ≤ f 0 + f 1 + f 2 + f 3 + f 4 + f 5 + f 6 + f 7 + f 8 + f 9) : ∀ i, i < 10 → f i = g i := by
  intro i hi
  have h0 := h 0
  have h1 := h 1
  have h2 := h 2
  have h3 := h 3
  have h4 := h 4
  have h5 := h 5
  have h6 := h 6
  have h7 := h 7
  have h8 := h 8
  have h9 := h 9
  rcases (show i = 0 ∨ i = 1 ∨ i = 2 ∨ i = 3 ∨ i = 4 ∨ i = 5 ∨ i = 6 ∨ i = 7 ∨ i = 8 ∨ i = 9 by omega) with rfl | rfl | rfl | rfl | rfl | rfl | rfl | rfl | rfl | rfl <;> omega
def bI (m i : Nat) : Nat := m / 2 ^ i % 2
theorem bc_sum (m : Nat) : bc m = bI m 0 + bI m 1 + bI m 2 + bI m 3 + bI m 4 + bI m 5 + bI m 6 + bI m 7 + bI m 8 + bI m 9 := by
  unfold bc bI
  rw [Nat.pow_zero, Nat.div_one]
theorem bI_le {a b : Nat} (h : ∀ i, a.testBit i = true → b.testBit i = true) (i : Nat) : bI a i ≤ bI b i := by
  have h1 := h i
  rw [bit_dm, bit_dm] at h1
  unfold bI
  have u := Nat.mod_lt (a / 2 ^ i) (show 0 < 2 by decide)
  generalize a / 2 ^ i % 2 = x at *
  generalize b / 2 ^ i % 2 = y at *
  rcases (show x = 0 ∨ x = 1 by omega) with rfl | rfl
  · omega
  · rw [h1 rfl]
    exact Nat.le_refl _
theorem hi0 {a i : Nat} (ha : a < 1024) (hi : 10 ≤ i) : a.testBit i = false := Nat.testBit_lt_two_pow (Nat.lt_of_lt_of_le ha (Nat.pow_le_pow_right (n := 2) (by omega) hi))
theorem bc_strict {a b : Nat} (ha : a < 1024) (hb : b < 1024) (h : ∀ i, a.testBit i = true → b.testBit i = true) (hne : a ≠ b) : bc a < bc b := by
  rcases Nat.lt_or_ge (bc a) (bc b) with z | z
  · exact z
  · exfalso
    rw [bc_sum, bc_sum] at z
    have e := sum10 (bI a) (bI b) (bI_le h) z
    apply hne
    apply Nat.eq_of_testBit_eq
    intro i
    rcases Nat.lt_or_ge i 10 with q | q
    · have e1 := e i q
      unfold bI at e1
      rw [Bool.eq_iff_iff, bit_dm, bit_dm, e1]
    · rw [hi0 ha q, hi0 hb q]
/-- the galleries at most k steps from s, by passages P, within X -/
def rS (P : Nat → Nat) (X s : Nat) : Nat → Nat
  | 0 => X &&& 2 ^ s
  | k + 1 => rS P X s k ||| (orL (fun g => if (rS P X s k).testBit g = true then P g else 0) 0 10 &&& X)
section FAR
variable {P : Nat → Nat} {X s : Nat}
theorem nb_bit {F g : Nat} (k : Nat) : (orL (fun g => if F.testBit g = true then P g else 0) 0 k).testBit g = true ↔ ∃ h, h < k ∧ F.testBit h = true ∧ (P h).testBit g = true := by
  rw [orL_bit, Nat.zero_testBit]
  constructor
  · rintro (z | ⟨j, hj, z⟩)
    · cases z
    · by_cases e : F.testBit j = true
      · rw [if_pos e] at z
        exact ⟨j, hj, e, z⟩
      · rw [if_neg e, Nat.zero_testBit] at z
        cases z
  · rintro ⟨j, hj, e, z⟩
    exact Or.inr ⟨j, hj, by rw [if_pos e]; exact z⟩
theorem rS_0 (g : Nat) : (rS P X s 0).testBit g = true ↔ X.testBit g = true ∧ s = g := by
  show (X &&& 2 ^ s).testBit g = true ↔ _
  rw [Nat.testBit_and, Nat.testBit_two_pow, Bool.and_eq_true, decide_eq_true_iff]
theorem rS_1 (k g : Nat) : (rS P X s (k + 1)).testBit g = true ↔ (rS P X s k).testBit g = true ∨ (X.testBit g = true ∧ ∃ h, h < 10 ∧ (rS P X s k).testBit h = true ∧ (P h).testBit g = true) := by
  show (rS P X s k ||| (orL (fun g => if (rS P X s k).testBit g = true then P g else 0) 0 10 &&& X)).testBit g = true ↔ _
  rw [Nat.testBit_or, Bool.or_eq_true, Nat.testBit_and, Bool.and_eq_true, nb_bit, and_comm (a := X.testBit g = true)]
theorem rS_X : ∀ k g, (rS P X s k).testBit g = true → X.testBit g = true
  | 0, g, h => ((rS_0 g).mp h).1
  | k + 1, g, h => by
    rcases (rS_1 k g).mp h with z | z
    · exact rS_X k g z
    · exact z.1
theorem rS_lt (hX : X < 1024) (k : Nat) : rS P X s k < 1024 := by
  apply Nat.lt_pow_two_of_testBit (n := 10)
  intro i hi
  cases e : (rS P X s k).testBit i
  · rfl
  · have := rS_X k i e
    rw [hi0 hX hi] at this
    cases this
theorem rS_up {k g : Nat} (h : (rS P X s k).testBit g = true) : ∀ d, (rS P X s (k + d)).testBit g = true
  | 0 => h
  | d + 1 => (rS_1 (k + d) g).mpr (Or.inl (rS_up h d))
theorem rS_mo {k j g : Nat} (hk : k ≤ j) (h : (rS P X s k).testBit g = true) : (rS P X s j).testBit g = true := by
  have := rS_up h (j - k)
  rw [show k + (j - k) = j by omega] at this
  exact this
theorem rS_st {k : Nat} (h : ∀ g, (rS P X s (k + 1)).testBit g = true → (rS P X s k).testBit g = true) : ∀ d g, (rS P X s (k + d)).testBit g = true → (rS P X s k).testBit g = true
  | 0, g, z => z
  | d + 1, g, z => by
    rcases (rS_1 (k + d) g).mp z with y | ⟨y1, j, y2, y3, y4⟩
    · exact rS_st h d g y
    · exact h g ((rS_1 k g).mpr (Or.inr ⟨y1, j, y2, rS_st h d j y3, y4⟩))
theorem rS_pg (hX : X < 1024) : ∀ k, (∃ j, j ≤ k ∧ ∀ g, (rS P X s (j + 1)).testBit g = true → (rS P X s j).testBit g = true) ∨ k + 2 ≤ bc (rS P X s (k + 1))
  | 0 => by
    by_cases e : rS P X s 0 = 0
    · refine Or.inl ⟨0, Nat.le_refl _, fun g h => ?_⟩
      rcases (rS_1 0 g).mp h with y | ⟨-, j, -, y, -⟩
      · exact y
      · rw [e, Nat.zero_testBit] at y
        cases y
    · by_cases f : rS P X s 0 = rS P X s 1
      · exact Or.inl ⟨0, Nat.le_refl _, fun g h => by rw [f]; exact h⟩
      · have u := bc_strict (rS_lt hX 0) (rS_lt hX 1) (fun i hi => rS_mo (P := P) (by omega) hi) f
        have w := bc_strict (a := 0) (by omega) (rS_lt (P := P) (s := s) hX 0) (fun i hi => by rw [Nat.zero_testBit] at hi; cases hi) (fun z => e z.symm)
        have z0 : bc 0 = 0 := by decide
        exact Or.inr (by show 0 + 2 ≤ bc (rS P X s 1); omega)
  | k + 1 => by
    rcases rS_pg hX k with ⟨j, hj, z⟩ | z
    · exact Or.inl ⟨j, by omega, z⟩
    · by_cases f : rS P X s (k + 1) = rS P X s (k + 1 + 1)
      · exact Or.inl ⟨k + 1, Nat.le_refl _, fun g h => by rw [f]; exact h⟩
      · have u := bc_strict (rS_lt hX (k + 1)) (rS_lt hX (k + 1 + 1)) (fun i hi => rS_mo (P := P) (by omega) hi) f
        exact Or.inr (by omega)
theorem rS_9 (hX : X < 1024) {k g : Nat} (h : (rS P X s k).testBit g = true) : (rS P X s 9).testBit g = true := by
  rcases rS_pg (P := P) (s := s) hX 9 with ⟨j, hj, z⟩ | z
  · rcases Nat.lt_or_ge k 9 with c | c
    · exact rS_mo (by omega) h
    · exact rS_mo hj (rS_st z (k - j) g (by rw [show j + (k - j) = k by omega]; exact h))
  · have := bc_le (rS P X s (9 + 1))
    omega
/-- g lies k steps from s, and no less -/
def rF (P : Nat → Nat) (X s k g : Nat) : Prop := (rS P X s k).testBit g = true ∧ ∀ i, i < k → ¬ (rS P X s i).testBit g = true
theorem rF_of : ∀ {k g : Nat}, (rS P X s k).testBit g = true → ∃ j, j ≤ k ∧ rF P X s j g
  | 0, g, h => ⟨0, Nat.le_refl _, h, fun i hi => by omega⟩
  | k + 1, g, h => by
    by_cases e : (rS P X s k).testBit g = true
    · obtain ⟨j, hj, z⟩ := rF_of e
      exact ⟨j, by omega, z⟩
    · exact ⟨k + 1, Nat.le_refl _, h, fun i hi z => e (rS_mo (by omega) z)⟩
theorem rF_1 {k g : Nat} : rF P X s (k + 1) g ↔ X.testBit g = true ∧ ¬ (rS P X s k).testBit g = true ∧ ∃ h, h < 10 ∧ rF P X s k h ∧ (P h).testBit g = true := by
  constructor
  · rintro ⟨a, b⟩
    have nb := b k (by omega)
    rcases (rS_1 k g).mp a with z | ⟨z1, h, z2, z3, z4⟩
    · exact absurd z nb
    · refine ⟨z1, nb, h, z2, ?_, z4⟩
      obtain ⟨j, hj, zj⟩ := rF_of z3
      by_cases e : j = k
      · subst e; exact zj
      · exact absurd (rS_mo (k := j + 1) (by omega) ((rS_1 j g).mpr (Or.inr ⟨z1, h, z2, zj.1, z4⟩))) nb
  · rintro ⟨z1, nb, h, z2, z3, z4⟩
    exact ⟨(rS_1 k g).mpr (Or.inr ⟨z1, h, z2, z3.1, z4⟩), fun i hi z => nb (rS_mo (by omega) z)⟩
end FAR
