/-! START: what both hold at first -/
def qU1 : qM := (kX7_init qM0).getD qM0
def qU2 : qM := (kX8_init qM0).getD qM0
theorem qU1_eq : kX7_init qM0 = some qU1 := by
  have h : (kX7_init qM0).isSome = true := by decide +kernel
  unfold qU1
  cases e : kX7_init qM0 with
  | none => rw [e] at h; cases h
  | some a => rfl
theorem qU2_eq : kX8_init qM0 = some qU2 := by
  have h : (kX8_init qM0).isSome = true := by decide +kernel
  unfold qU2
  cases e : kX8_init qM0 with
  | none => rw [e] at h; cases h
  | some a => rfl
def qA0 : qN := fun i j => if i = 7 then j else 0
set_option maxRecDepth 100000 in
theorem start_R : qR qU1 qU2 := by
  refine ⟨⟨qA0, ?_, ?_, ?_⟩, ⟨0, fun _ => 0, by omega, by decide +kernel, by decide +kernel, fun i hi => by omega⟩, Or.inl ⟨by decide +kernel, by decide +kernel⟩, Or.inl ⟨by decide +kernel, by decide +kernel⟩⟩
  · exact ⟨by decide +kernel, by decide +kernel, by decide +kernel, by decide +kernel, by decide +kernel, by decide +kernel, by decide +kernel, by decide +kernel, by decide +kernel, by decide +kernel, by decide +kernel, by decide +kernel, by decide +kernel, by decide +kernel, fun i hi => absurd hi (by show ¬ i < 0; omega), fun i hi => absurd hi (by show ¬ i < 0; omega)⟩
  · exact ⟨by decide +kernel, by decide +kernel, by decide +kernel, by decide +kernel, by decide +kernel, by decide +kernel, by decide +kernel, by decide +kernel, by decide +kernel, by decide +kernel, by decide +kernel, by decide +kernel, by decide +kernel, by decide +kernel, fun i hi => absurd hi (by show ¬ i < 0; omega), fun i hi => absurd hi (by show ¬ i < 0; omega)⟩
  · exact ⟨by decide +kernel, by decide +kernel, by decide +kernel, by decide +kernel, by decide +kernel, by decide +kernel, by decide +kernel, by decide +kernel, by decide +kernel, by decide +kernel, by decide +kernel, by decide +kernel, by decide +kernel, by decide +kernel, fun i hi => absurd hi (by show ¬ i < 0; omega), fun i hi => absurd hi (by show ¬ i < 0; omega), by decide +kernel⟩
theorem rf_y {x : Int32} {a : Nat} (h : ¬ x = 0) : qrf x a = .ref a := by
  unfold qrf
  rw [if_neg h]
set_option maxRecDepth 100000 in
theorem start_1 (G : qG) (ad : Nat → Nat) (k : Nat) (hk : k < 75) (h13 : k ≠ 13) : c1 G ad (qU1 k) k = e1 G ad (qU1 k) k := by
  have m : ∀ b, b = 1 ∨ b = 14 ∨ b = 26 ∨ b = 48 → qD1 b ad (qU1 b) = qF1 b ad (qU1 b) := fun b hb => by
    have f : ∀ j, j < 16 → j < 3 ∨ 8 ≤ j → ¬ qU1 b j = 0 := by
      rcases hb with rfl | rfl | rfl | rfl <;> decide +kernel
    unfold qD1 qF1
    rw [rf_y (f 0 (by omega) (by omega)), rf_y (f 1 (by omega) (by omega)), rf_y (f 2 (by omega) (by omega)), rf_y (f 8 (by omega) (by omega)), rf_y (f 9 (by omega) (by omega)), rf_y (f 10 (by omega) (by omega)), rf_y (f 11 (by omega) (by omega)), rf_y (f 12 (by omega) (by omega)), rf_y (f 13 (by omega) (by omega)), rf_y (f 14 (by omega) (by omega)), rf_y (f 15 (by omega) (by omega))]
  have d7 : qD7 ad (qU1 0) = qF7 ad (qU1 0) := by
    have f : ∀ j, j < 9 → ¬ qU1 0 j = 0 := by decide +kernel
    unfold qD7 qF7
    rw [rf_y (f 0 (by omega)), rf_y (f 1 (by omega)), rf_y (f 2 (by omega)), rf_y (f 3 (by omega)), rf_y (f 4 (by omega)), rf_y (f 5 (by omega)), rf_y (f 6 (by omega)), rf_y (f 7 (by omega)), rf_y (f 8 (by omega))]
  have d2 : qD2 ad (qU1 39) = qF2 ad (qU1 39) := by
    unfold qD2 qF2
    rw [rf_y (show ¬ qU1 39 0 = 0 by decide +kernel), rf_y (show ¬ qU1 39 2 = 0 by decide +kernel), rf_y (show ¬ qU1 39 3 = 0 by decide +kernel), rf_y (show ¬ qU1 39 4 = 0 by decide +kernel)]
  have d3 : qD3 ad (qU1 65) = qF3 ad (qU1 65) := by
    unfold qD3 qF3
    rw [rf_y (show ¬ qU1 65 0 = 0 by decide +kernel), rf_y (show ¬ qU1 65 1 = 0 by decide +kernel), rf_y (show ¬ qU1 65 2 = 0 by decide +kernel)]
  have d4 : qD4 ad (qU1 47) = qF4 ad (qU1 47) := by
    unfold qD4 qF4
    rw [rf_y (show ¬ qU1 47 0 = 0 by decide +kernel), rf_y (show ¬ qU1 47 5 = 0 by decide +kernel)]
  have d5 : qD5 ad (qU1 70) = qF5 ad (qU1 70) := by
    unfold qD5 qF5
    rw [rf_y (show ¬ qU1 70 0 = 0 by decide +kernel), rf_y (show ¬ qU1 70 1 = 0 by decide +kernel), rf_y (show ¬ qU1 70 2 = 0 by decide +kernel), rf_y (show ¬ qU1 70 3 = 0 by decide +kernel)]
  have d0 : ∀ b, b = 44 ∨ b = 60 → qD0 b ad (qU1 b) = qF0 b ad (qU1 b) := fun b hb => by
    have f : ∀ j, j < 2 → ¬ qU1 b j = 0 := by
      rcases hb with rfl | rfl <;> decide +kernel
    unfold qD0 qF0
    rw [rf_y (f 0 (by omega)), rf_y (f 1 (by omega))]
  have d6 : ∀ b, b = 63 ∨ b = 66 → qD6 b ad (qU1 b) = qF6 b ad (qU1 b) := fun b hb => by
    have f : ¬ qU1 b 0 = 0 := by
      rcases hb with rfl | rfl <;> decide +kernel
    unfold qD6 qF6
    rw [rf_y f]
  have i : ∀ (n : Nat) (a b : List Value), a = b → (.inr (n, a) : va_E) = .inr (n, b) := fun n a b h => by rw [h]
  match k, hk, h13 with
  | 0, _, _ => exact i 7 _ _ d7
  | 1, _, _ => exact i 1 _ _ (m 1 (by omega))
  | 13, _, h => exact absurd rfl h
  | 14, _, _ => exact i 1 _ _ (m 14 (by omega))
  | 26, _, _ => exact i 1 _ _ (m 26 (by omega))
  | 39, _, _ => exact i 2 _ _ d2
  | 44, _, _ => exact i 0 _ _ (d0 44 (by omega))
  | 47, _, _ => exact i 4 _ _ d4
  | 48, _, _ => exact i 1 _ _ (m 48 (by omega))
  | 60, _, _ => exact i 0 _ _ (d0 60 (by omega))
  | 63, _, _ => exact i 6 _ _ (d6 63 (by omega))
  | 65, _, _ => exact i 3 _ _ d3
  | 66, _, _ => exact i 6 _ _ (d6 66 (by omega))
  | 70, _, _ => exact i 5 _ _ d5
  | 2, _, _ => rfl
  | 3, _, _ => rfl
  | 4, _, _ => rfl
  | 5, _, _ => rfl
  | 6, _, _ => rfl
  | 7, _, _ => rfl
  | 8, _, _ => rfl
  | 9, _, _ => rfl
  | 10, _, _ => rfl
  | 11, _, _ => rfl
  | 12, _, _ => rfl
  | 15, _, _ => rfl
  | 16, _, _ => rfl
  | 17, _, _ => rfl
  | 18, _, _ => rfl
  | 19, _, _ => rfl
  | 20, _, _ => rfl
  | 21, _, _ => rfl
  | 22, _, _ => rfl
  | 23, _, _ => rfl
  | 24, _, _ => rfl
  | 25, _, _ => rfl
  | 27, _, _ => rfl
  | 28, _, _ => rfl
  | 29, _, _ => rfl
  | 30, _, _ => rfl
  | 31, _, _ => rfl
  | 32, _, _ => rfl
  | 33, _, _ => rfl
  | 34, _, _ => rfl
  | 35, _, _ => rfl
  | 36, _, _ => rfl
  | 37, _, _ => rfl
  | 38, _, _ => rfl
  | 40, _, _ => rfl
  | 41, _, _ => rfl
  | 42, _, _ => rfl
  | 43, _, _ => rfl
  | 45, _, _ => rfl
  | 46, _, _ => rfl
  | 49, _, _ => rfl
  | 50, _, _ => rfl
  | 51, _, _ => rfl
  | 52, _, _ => rfl
  | 53, _, _ => rfl
  | 54, _, _ => rfl
  | 55, _, _ => rfl
  | 56, _, _ => rfl
  | 57, _, _ => rfl
  | 58, _, _ => rfl
  | 59, _, _ => rfl
  | 61, _, _ => rfl
  | 62, _, _ => rfl
  | 64, _, _ => rfl
  | 67, _, _ => rfl
  | 68, _, _ => rfl
  | 69, _, _ => rfl
  | 71, _, _ => rfl
  | 72, _, _ => rfl
  | 73, _, _ => rfl
  | 74, _, _ => rfl
  | k + 75, h, _ => exact absurd h (by omega)
set_option maxRecDepth 100000 in
theorem start_2 (G : qG) (ad : Nat → Nat) (k : Nat) (hk : k < 17) : c2 G ad (qU2 k) k = e2 G ad (qU2 k) k := by
  have d8 : qD8 ad (qU2 0) = qF8 ad (qU2 0) := by
    unfold qD8 qF8
    rw [rf_y (show ¬ qU2 0 0 = 0 by decide +kernel), rf_y (show ¬ qU2 0 1 = 0 by decide +kernel), rf_y (show ¬ qU2 0 3 = 0 by decide +kernel), rf_y (show ¬ qU2 0 4 = 0 by decide +kernel), rf_y (show ¬ qU2 0 5 = 0 by decide +kernel), rf_y (show ¬ qU2 0 6 = 0 by decide +kernel), rf_y (show ¬ qU2 0 7 = 0 by decide +kernel), rf_y (show ¬ qU2 0 10 = 0 by decide +kernel), rf_y (show ¬ qU2 0 12 = 0 by decide +kernel), rf_y (show ¬ qU2 0 15 = 0 by decide +kernel), rf_y (show ¬ qU2 0 18 = 0 by decide +kernel), rf_y (show ¬ qU2 0 19 = 0 by decide +kernel), rf_y (show ¬ qU2 0 20 = 0 by decide +kernel), rf_y (show ¬ qU2 0 21 = 0 by decide +kernel), rf_y (show ¬ qU2 0 22 = 0 by decide +kernel), rf_y (show ¬ qU2 0 23 = 0 by decide +kernel)]
  match k, hk with
  | 0, _ => show (.inr (8, qD8 ad (qU2 0)) : va_E) = .inr (8, qF8 ad (qU2 0)); rw [d8]
  | 1, _ => rfl
  | 2, _ => rfl
  | 3, _ => rfl
  | 4, _ => rfl
  | 5, _ => rfl
  | 6, _ => rfl
  | 7, _ => rfl
  | 8, _ => rfl
  | 9, _ => rfl
  | 10, _ => rfl
  | 11, _ => rfl
  | 12, _ => rfl
  | 13, _ => rfl
  | 14, _ => rfl
  | 15, _ => rfl
  | 16, _ => rfl
  | k + 17, h => exact absurd h (by omega)
theorem t_start : qStart2 qR := by
  unfold qStart2
  rw [qU1_eq, qOk_some]
  refine ⟨start_1, ⟨by decide +kernel, by decide +kernel⟩, ?_⟩
  rw [qU2_eq, qOk_some]
  exact ⟨start_2, start_R⟩
