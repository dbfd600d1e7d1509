/-! ACTS: the four short ones, on A -/
theorem qDn.st {M : qM} {A : qN} {i : Nat} {y : Int32} (h : qD (upd (M 2) i y) (M 3) (M 4) (M 5) (M 6) (M 7) (M 8) (M 0 2) (M 0 8) (M 0 9) A) : qDn (qst M 2 i y) A := by
  unfold qDn
  rw [qst_s, qst_n (show (3 : Nat) ≠ 2 by decide), qst_n (show (4 : Nat) ≠ 2 by decide), qst_n (show (5 : Nat) ≠ 2 by decide), qst_n (show (6 : Nat) ≠ 2 by decide), qst_n (show (7 : Nat) ≠ 2 by decide), qst_n (show (8 : Nat) ≠ 2 by decide), qst_n (show (0 : Nat) ≠ 2 by decide)]
  exact h
theorem qW.set_no {A : qN} (h : qW A) {v x : Nat} (hx : x ≤ 24) (h2 : 0 < x → 0 < A 1 v ∧ (A 11 0).testBit v = true) : qW (aU A 5 v x) :=
  ⟨h.pl, h.br, h.lu, h.lo, h.hi, fun w hw => by
    by_cases e : w = v
    · subst e; rw [aU_s]; exact hx
    · rw [aU_n e]; exact h.to w hw, fun w hw => by
    by_cases e : w = v
    · subst e; rw [aU_s]; exact h2
    · rw [aU_n e]; exact h.sg w hw, h.ps, h.ec, h.th, h.ga, h.cl, h.be, h.si, h.sp, h.sn⟩
theorem qW.set_pl {A : qN} (h : qW A) {v x : Nat} (hx : x < 10) : qW (aU A 0 v x) :=
  ⟨fun w hw => by
    by_cases e : w = v
    · subst e; rw [aU_s]; exact hx
    · rw [aU_n e]; exact h.pl w hw, h.br, h.lu, h.lo, h.hi, h.to, h.sg, h.ps, h.ec, h.th, h.ga, h.cl, h.be, h.si, h.sp, h.sn⟩
theorem qW.set_cl {A : qN} (h : qW A) {x : Nat} (hx : x < 1024) : qW (aU A 11 2 x) :=
  ⟨h.pl, h.br, h.lu, h.lo, h.hi, h.to, h.sg, h.ps, h.ec, h.th, h.ga, hx, h.be, h.si, h.sp, h.sn⟩
def ySing (A : qN) (v n : Nat) : Nat := if (A 11 0).testBit v = true then (if n < A 3 v ∨ A 4 v < n then 2 else if A 5 v = n + 1 then 3 else if A 1 v = 0 then 4 else 0) else 1
def yHush (A : qN) (v : Nat) : Nat := if (A 11 0).testBit v = true then (if A 5 v = 0 then 3 else 0) else 1
def yGo (A : qN) (v g : Nat) : Nat := if (A 11 0).testBit v = true then (if (A 6 (A 0 v)).testBit g = true then (if (A 11 2).testBit (A 0 v) = true ∨ (A 11 2).testBit g = true then 6 else 0) else 5) else 1
theorem tn_is : ∀ t, t < 25 → ∀ n, n < 24 → ((nI t - 1 = nI n) ↔ t = n + 1) := by decide +kernel
theorem tn_now : ∀ t, t < 25 → ∀ n, n < 24 → (((if t = 0 then (-6 : Int32) else nI (t - 1)) = nI n) ↔ t = n + 1) := by decide +kernel
theorem X4_sing_eq {M : qM} {A : qN} (h : qC 48 M A) (hw : qW A) {v n : Nat} (hv : v < 8) (hn : n < 24) : kX4_whyNotSing M (nI v) (nI n) = some (nI (ySing A v n)) := by
  unfold kX4_whyNotSing ySing
  have a1 := hw.lo v hv
  have a2 := hw.hi v hv
  have a3 := hw.to v hv
  have a4 := hw.br v hv
  have a5 := hw.lu v hv
  rw [X1_isThere_eq h.th hw.th hv, qb1_some]
  by_cases c : (A 11 0).testBit v = true
  · rw [if_pos c, if_pos c, if10, qrd_k hv (by omega), h.lo v hv]
    by_cases c1 : n < A 3 v
    · rw [if_pos (nI_lt c1 (by omega)), if_pos (Or.inl c1)]
      rfl
    · rw [if_neg (nI_nlt (by omega) (by omega)), qrd_k hv (by omega), h.hi v hv]
      by_cases c2 : A 4 v < n
      · rw [if_neg (nI_ge c2 (by omega)), if_pos (Or.inr c2)]
        rfl
      · rw [if_pos (nI_le (by omega) (by omega)), qrd_k hv (by omega), h.no v hv, if_neg (show ¬ (n < A 3 v ∨ A 4 v < n) by omega)]
        by_cases c3 : A 5 v = n + 1
        · rw [if_pos ((tn_is _ (by omega) n hn).mpr c3), if_pos c3]
          rfl
        · rw [if_neg (fun z => c3 ((tn_is _ (by omega) n hn).mp z)), qrd_k hv (by omega), h.br v hv, if_neg c3]
          by_cases c4 : A 1 v = 0
          · rw [if_pos (show nI (A 1 v) = 0 by rw [c4]; rfl), qb1_some, if_pos c4]
            rfl
          · rw [if_neg (show ¬ nI (A 1 v) = 0 from fun z => c4 ((nI_inj (by omega) (by omega)).mp (show nI (A 1 v) = nI 0 from z))), qb1_some, if_neg c4]
            rfl
  · rw [if_neg c, if_neg c, if00]
    rfl
theorem X8_sing_eq {M : qM} {A : qN} (h : qDn M A) (hw : qW A) {v n : Nat} (hv : v < 8) (hn : n < 24) : kX8_sing M (nI v) (nI n) = some (nI (ySing A v n), if ySing A v n = 0 then qst M 2 v (nI n) else M) := by
  unfold kX8_sing ySing
  have a1 := hw.lo v hv
  have a2 := hw.hi v hv
  have a3 := hw.to v hv
  have a4 := hw.br v hv
  have a5 := hw.lu v hv
  rw [X8_isThere_eq h.th hw.th hv, qb1_some]
  by_cases c : (A 11 0).testBit v = true
  · rw [if_pos c, if_pos c, if10, qrd_k hv (by omega), h.lo v hv, qrd_k hv (by omega), h.hi v hv, X8_in_eq, qb1_some]
    by_cases c1 : n < A 3 v ∨ A 4 v < n
    · rw [if_neg (show ¬ (nI (A 3 v) ≤ nI n ∧ nI n ≤ nI (A 4 v)) from fun z => by
        rcases c1 with q | q
        · exact nI_ge q (by omega) z.1
        · exact nI_ge q (by omega) z.2), if00, if_pos c1]
      rfl
    · rw [if_pos (show nI (A 3 v) ≤ nI n ∧ nI n ≤ nI (A 4 v) from ⟨nI_le (by omega) (by omega), nI_le (by omega) (by omega)⟩), if10, qrd_k (show v < 36 by omega) (by omega), h.no v hv c, if_neg c1]
      by_cases c3 : A 5 v = n + 1
      · rw [if_pos ((tn_now _ (by omega) n hn).mpr c3), if_pos c3]
        rfl
      · rw [if_neg (fun z => c3 ((tn_now _ (by omega) n hn).mp z)), show (8 : Int32) + nI v = nI (8 + v) from nI_add 8 v, qrd_k (show 8 + v < 36 by omega) (by omega), h.br v hv, if_neg c3]
        by_cases c4 : A 1 v = 0
        · rw [if_pos (show nI (A 1 v) = 0 by rw [c4]; rfl), if_pos c4]
          rfl
        · rw [if_neg (show ¬ nI (A 1 v) = 0 from fun z => c4 ((nI_inj (by omega) (by omega)).mp (show nI (A 1 v) = nI 0 from z))), qwr_k (show v < 36 by omega) (by omega), if_neg c4]
          rfl
  · rw [if_neg c, if_neg c, if00]
    rfl
theorem X8_hush_eq {M : qM} {A : qN} (h : qDn M A) (hw : qW A) {v : Nat} (hv : v < 8) : kX8_hush M (nI v) = some (nI (yHush A v), if yHush A v = 0 then qst M 2 v (-6) else M) := by
  unfold kX8_hush yHush
  have a3 := hw.to v hv
  rw [X8_isThere_eq h.th hw.th hv, qb1_some]
  by_cases c : (A 11 0).testBit v = true
  · rw [if_pos c, if_pos c, if10, qrd_k (show v < 36 by omega) (by omega), h.no v hv c]
    by_cases c1 : A 5 v = 0
    · rw [if_pos c1, if_neg (by decide), if_pos c1]
      rfl
    · rw [if_neg c1, if_pos (show (0 : Int32) ≤ nI (A 5 v - 1) from nI_le (a := 0) (by omega) (by omega)), qwr_k (show v < 36 by omega) (by omega), if_neg c1]
      rfl
  · rw [if_neg c, if_neg c, if00]
    rfl
theorem X8_go_eq {M : qM} {A : qN} (h : qDn M A) (hw : qW A) {v g : Nat} (hv : v < 8) (hg : g < 10) : kX8_go M (nI v) (nI g) = some (nI (yGo A v g), if yGo A v g = 0 then qst M 2 (16 + v) (nI g) else M) := by
  unfold kX8_go yGo
  have a0 := hw.pl v hv
  have a6 := hw.ps (A 0 v) a0
  have a2 := hw.cl
  rw [X8_isThere_eq h.th hw.th hv, qb1_some]
  by_cases c : (A 11 0).testBit v = true
  · rw [if_pos c, if_pos c, if10, show (16 : Int32) + nI v = nI (16 + v) from nI_add 16 v, qrd_k (show 16 + v < 36 by omega) (by omega), h.pl v hv, qrd_k a0 (by omega), h.ps _ a0, X8_has_eq (by omega) (by omega), qb1_some]
    by_cases c1 : (A 6 (A 0 v)).testBit g = true
    · rw [if_pos c1, if10, show (34 : Int32) = nI 34 from rfl, qrd_k (show 34 < 36 by omega) (by omega), h.cl, X8_has_eq (by omega) (by omega), qb1_some, if_pos c1]
      by_cases c2 : (A 11 2).testBit (A 0 v) = true
      · rw [if_pos c2, if10, if_pos (Or.inl c2)]
        rfl
      · rw [if_neg c2, if00, qrd_k (show 34 < 36 by omega) (by omega), h.cl, X8_has_eq (by omega) (by omega), qb1_some]
        by_cases c3 : (A 11 2).testBit g = true
        · rw [if_pos c3, if10, if_pos (Or.inr c3)]
          rfl
        · rw [if_neg c3, if00, qwr_k (show 16 + v < 36 by omega) (by omega), if_neg (fun z => by rcases z with z | z; exact c2 z; exact c3 z)]
          rfl
    · rw [if_neg c1, if00, if_neg c1]
      rfl
  · rw [if_neg c, if_neg c, if00]
    rfl
theorem X4_go_eq {M : qM} {A : qN} (h : qC 48 M A) (hw : qW A) {v g : Nat} (hv : v < 8) (hg : g < 10) : kX4_whyNotGo M (nI v) (nI g) = some (nI (yGo A v g)) := by
  unfold kX4_whyNotGo yGo
  have a0 := hw.pl v hv
  have a6 := hw.ps (A 0 v) a0
  have a2 := hw.cl
  rw [X1_isThere_eq h.th hw.th hv, qb1_some]
  by_cases c : (A 11 0).testBit v = true
  · rw [if_pos c, if_pos c, if10, qrd_k hv (by omega), h.pl v hv, qrd_k a0 (by omega), h.ps _ a0, X7_has_eq (by omega) (by omega), qb1_some]
    by_cases c1 : (A 6 (A 0 v)).testBit g = true
    · rw [if_pos c1, if10, h.cl, X7_has_eq (by omega) (by omega), qb1_some, if_pos c1]
      by_cases c2 : (A 11 2).testBit (A 0 v) = true
      · rw [if_pos c2, if10, if_pos (Or.inl c2)]
        rfl
      · rw [if_neg c2, if00, X7_has_eq (by omega) (by omega), qb1_some]
        by_cases c3 : (A 11 2).testBit g = true
        · rw [if_pos c3, if10, if_pos (Or.inr c3)]
          rfl
        · rw [if_neg c3, if00, if_neg (fun z => by rcases z with z | z; exact c2 z; exact c3 z)]
          rfl
    · rw [if_neg c1, if00, if_neg c1]
      rfl
  · rw [if_neg c, if_neg c, if00]
    rfl
