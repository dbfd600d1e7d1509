/-! one act on A -/
def yW (A : qN) (k v x : Nat) : Nat := if k = 0 then ySing A v x else if k = 1 then yHush A v else if k = 2 then yGo A v x else if k = 3 then 0 else if A 11 3 = 999 then 7 else 0
def yA (A : qN) (k v x : Nat) : qN := if k = 0 then aU A 5 v (x + 1) else if k = 1 then aU A 5 v 0 else if k = 2 then aU A 0 v x else if k = 3 then aU A 11 2 (A 11 2 ^^^ 2 ^ x) else yBeat A
def aV (k v x : Nat) : Prop := (k = 0 ∧ v < 8 ∧ x < 24) ∨ (k = 1 ∧ v < 8) ∨ (k = 2 ∧ v < 8 ∧ x < 10) ∨ (k = 3 ∧ x < 10) ∨ k = 4
theorem pA_valid {p : Nat → Nat} {S i k v x j : Nat} (h : pA p S i = some (k, v, x, j)) : aV k v x := by
  unfold pA at h
  unfold aV
  repeat' split at h
  all_goals (first | (cases h; omega) | cases h)
theorem xor_lt10 {a b : Nat} (ha : a < 1024) (hb : b < 1024) : a ^^^ b < 1024 := Nat.xor_lt_two_pow (n := 10) ha hb
theorem yA_W {A : qN} (h : qW A) {k v x : Nat} (ha : aV k v x) (h0 : yW A k v x = 0) : qW (yA A k v x) := by
  rcases ha with ⟨rfl, hv, hx⟩ | ⟨rfl, hv⟩ | ⟨rfl, hv, hx⟩ | ⟨rfl, hx⟩ | rfl
  · show qW (aU A 5 v (x + 1))
    refine h.set_no (by omega) (fun _ => ?_)
    change ySing A v x = 0 at h0
    unfold ySing at h0
    by_cases c : (A 11 0).testBit v = true
    · rw [if_pos c] at h0
      refine ⟨?_, c⟩
      repeat' split at h0
      all_goals omega
    · rw [if_neg c] at h0
      omega
  · exact h.set_no (by omega) (fun z => by omega)
  · exact h.set_pl hx
  · exact h.set_cl (xor_lt10 h.cl (pw10 hx))
  · refine yBeat_W h (fun z => ?_)
    change (if A 11 3 = 999 then 7 else 0) = 0 at h0
    rw [if_pos z] at h0
    omega
theorem X4_whyNot_eq {M : qM} {A : qN} (h : qC 48 M A) (hw : qW A) {k v x : Nat} (ha : aV k v x) : kX4_whyNot M (nI k) (nI v) (nI x) = some (nI (yW A k v x)) := by
  unfold kX4_whyNot
  rcases ha with ⟨rfl, hv, hx⟩ | ⟨rfl, hv⟩ | ⟨rfl, hv, hx⟩ | ⟨rfl, hx⟩ | rfl
  · rw [if_pos (show nI 0 = (0 : Int32) from rfl), X4_sing_eq h hw hv hx, qb1_some]
    rfl
  · rw [if_neg (show ¬ nI 1 = (0 : Int32) from by decide), if_pos (show nI 1 = (1 : Int32) from rfl), X1_isThere_eq h.th hw.th hv, qb1_some]
    show _ = some (nI (yHush A v))
    unfold yHush
    have t := hw.to v hv
    by_cases c : (A 11 0).testBit v = true
    · rw [if_pos c, if10, qrd_k hv (by omega), h.no v hv, if_pos c]
      by_cases d : A 5 v = 0
      · rw [if_pos ((tone_0 t).mpr d), if_pos d, qb1_some]
        rfl
      · rw [if_neg (fun z => d ((tone_0 t).mp z)), if_neg d, qb1_some]
        rfl
    · rw [if_neg c, if00, qb1_some, if_neg c]
      rfl
  · rw [if_neg (show ¬ nI 2 = (0 : Int32) from by decide), if_neg (show ¬ nI 2 = (1 : Int32) from by decide), if_pos (show nI 2 = (2 : Int32) from rfl), X4_go_eq h hw hv hx, qb1_some]
    rfl
  · rw [if_neg (show ¬ nI 3 = (0 : Int32) from by decide), if_neg (show ¬ nI 3 = (1 : Int32) from by decide), if_neg (show ¬ nI 3 = (2 : Int32) from by decide), if_neg (show ¬ nI 3 = (4 : Int32) from by decide)]
    rfl
  · rw [if_neg (show ¬ nI 4 = (0 : Int32) from by decide), if_neg (show ¬ nI 4 = (1 : Int32) from by decide), if_neg (show ¬ nI 4 = (2 : Int32) from by decide), if_pos (show nI 4 = (4 : Int32) from rfl), h.be]
    show _ = some (nI (if A 11 3 = 999 then 7 else 0))
    have be := hw.be
    by_cases d : A 11 3 = 999
    · rw [if_neg (show ¬ nI (A 11 3) < (999 : Int32) from nI_nlt (b := 999) (by omega) (by omega)), if_pos d, qb1_some]
      rfl
    · rw [if_pos (show nI (A 11 3) < (999 : Int32) from nI_lt (b := 999) (by omega) (by decide)), if_neg d, qb1_some]
      rfl
