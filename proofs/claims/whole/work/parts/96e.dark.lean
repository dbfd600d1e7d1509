/-! the first gallery that went dark -/
def lb (D : Nat) : Nat := if D.testBit 0 then 0 else if D.testBit 1 then 1 else if D.testBit 2 then 2 else if D.testBit 3 then 3 else if D.testBit 4 then 4 else if D.testBit 5 then 5 else if D.testBit 6 then 6 else if D.testBit 7 then 7 else if D.testBit 8 then 8 else 9
def lbK (D : Nat) : Bool := D == 0 || ((kX7_leastOf (nI D) == some (nI (lb D))) && D.testBit (lb D) && (List.range (lb D)).all (fun w => !D.testBit w))
set_option maxRecDepth 100000 in
theorem lb_tab : ∀ D, D < 1024 → lbK D = true := by decide +kernel
theorem lb_lt (D : Nat) : lb D < 10 := by
  unfold lb
  repeat' split
  all_goals omega
theorem lb_ok {D : Nat} (hD : D < 1024) (h0 : D ≠ 0) : kX7_leastOf (nI D) = some (nI (lb D)) ∧ D.testBit (lb D) = true ∧ ∀ w, w < lb D → ¬ D.testBit w = true := by
  have h := lb_tab D hD
  unfold lbK at h
  rw [Bool.or_eq_true, Bool.and_eq_true, Bool.and_eq_true] at h
  rcases h with h | ⟨⟨a, b⟩, c⟩
  · exact absurd (eq_of_beq h) h0
  · refine ⟨eq_of_beq a, b, fun w hw => ?_⟩
    rw [List.all_eq_true] at c
    have := c w (List.mem_range.mpr hw)
    simpa using this
theorem X4_dark_eq {M : qM} {D m : Nat} (hD : D < 1024) : qOk (kX4_rememberDark M (nI m) (nI D)) (fun N => (∀ c, c ≠ 47 → N c = M c) ∧ (∀ j, j ≠ 3 → j ≠ 4 → N 47 j = M 47 j) ∧ (if M 47 3 = -6 ∧ D ≠ 0 then N 47 3 = nI m ∧ N 47 4 = nI (lb D) else N 47 3 = M 47 3 ∧ N 47 4 = M 47 4)) := by
  unfold kX4_rememberDark
  rw [qOk_b1]
  by_cases c : M 47 3 = -6
  · rw [if_pos c]
    by_cases d : D = 0
    · rw [if_pos (show nI D = 0 by rw [d]; rfl), qOk_some, qOk_some, if_neg (fun z => z.2 d)]
      exact ⟨fun _ _ => rfl, fun _ _ _ => rfl, rfl, rfl⟩
    · rw [if_neg (show ¬ nI D = 0 from fun z => d ((nI_inj (by omega) (by omega)).mp (show nI D = nI 0 from z))), qvl_eq, (lb_ok hD d).1, qb1_some, qvl_eq, qOk_some, qOk_some, if_pos ⟨c, d⟩]
      refine ⟨fun c hc => by rw [qst_n hc, qst_n hc], fun j j3 j4 => by rw [qst_at, if_neg j4, qst_at, if_neg j3], ?_, ?_⟩
      · rw [qst_at, if_neg (by decide), qst_at, if_pos rfl]
      · rw [qst_at, if_pos rfl]
  · rw [if_neg c, qOk_some, qOk_some, if_neg (fun z => c z.1)]
    exact ⟨fun _ _ => rfl, fun _ _ _ => rfl, rfl, rfl⟩
