/-! BEAT, on A -/
def bCl (l : Nat) : Nat := if l ≤ 8 then (if l = 0 then 0 else 1) else 2
def bV (L : Nat → Nat) (B : qN) (v : Nat) : qN := if (B 11 0).testBit v = true then (if 0 < B 5 v then (if B 1 v - 1 = 0 then aU (aU B 1 v 0) 5 v 0 else aU B 1 v (B 1 v - 1)) else aU (aU B 10 (B 0 v) (B 10 (B 0 v) + bCl (L (B 0 v)))) 1 v (if B 1 v + 1 < B 2 v then B 1 v + 1 else B 2 v)) else B
def bS (L : Nat → Nat) (B : qN) : Nat → qN
  | 0 => B
  | k + 1 => bV L (bS L B k) k
theorem qW.set_br {A : qN} (h : qW A) {v x : Nat} (hx : x ≤ A 2 v) (h2 : 0 < A 5 v → 0 < x) : qW (aU A 1 v x) :=
  ⟨h.pl, fun w hw => by
    by_cases e : w = v
    · subst e; rw [aU_s]; exact hx
    · rw [aU_n e]; exact h.br w hw, h.lu, h.lo, h.hi, h.to, fun w hw z => by
    by_cases e : w = v
    · subst e; rw [aU_s]; exact ⟨h2 z, (h.sg w hw z).2⟩
    · rw [aU_n e]; exact h.sg w hw z, h.ps, h.ec, h.th, h.ga, h.cl, h.be, h.si, h.sp, h.sn⟩
theorem qW.set_co {A : qN} (h : qW A) {v x : Nat} : qW (aU A 10 v x) :=
  ⟨h.pl, h.br, h.lu, h.lo, h.hi, h.to, h.sg, h.ps, h.ec, h.th, h.ga, h.cl, h.be, h.si, h.sp, h.sn⟩
theorem qW.hushed {A : qN} (h : qW A) {v : Nat} : qW (aU (aU A 1 v 0) 5 v 0) :=
  ⟨h.pl, fun w hw => by
    show (aU A 1 v 0) 1 w ≤ A 2 w
    by_cases e : w = v
    · subst e; rw [aU_s]; omega
    · rw [aU_n e]; exact h.br w hw, h.lu, h.lo, h.hi, fun w hw => by
    by_cases e : w = v
    · subst e; rw [aU_s]; omega
    · rw [aU_n e]; exact h.to w hw, fun w hw => by
    by_cases e : w = v
    · subst e; rw [aU_s]; intro z; omega
    · rw [aU_n e]
      intro z
      refine ⟨?_, (h.sg w hw z).2⟩
      show 0 < (aU A 1 v 0) 1 w
      rw [aU_n e]
      exact (h.sg w hw z).1, h.ps, h.ec, h.th, h.ga, h.cl, h.be, h.si, h.sp, h.sn⟩
theorem bV_W {L : Nat → Nat} {B : qN} (h : qW B) {v : Nat} (hv : v < 8) : qW (bV L B v) := by
  unfold bV
  have b := h.br v hv
  by_cases c : (B 11 0).testBit v = true
  · rw [if_pos c]
    by_cases c1 : 0 < B 5 v
    · rw [if_pos c1]
      by_cases c2 : B 1 v - 1 = 0
      · rw [if_pos c2]
        exact h.hushed
      · rw [if_neg c2]
        exact h.set_br (by omega) (fun _ => by omega)
    · rw [if_neg c1]
      refine (h.set_co).set_br ?_ (fun z => absurd z c1)
      show _ ≤ B 2 v
      split <;> omega
  · rw [if_neg c]
    exact h
theorem bS_W {L : Nat → Nat} {B : qN} (h : qW B) : ∀ k, k ≤ 8 → qW (bS L B k)
  | 0, _ => h
  | k + 1, hk => bV_W (bS_W h k (by omega)) (by omega)
theorem cl_if {l : Nat} (hl : l < 1000) : (if nI l ≤ 8 then (if nI l ≤ 0 then (some (0 : Int32)) else (some 1)) else (some 2)) = some (nI (bCl l)) := by
  unfold bCl
  by_cases c : l ≤ 8
  · rw [if_pos (show nI l ≤ (8 : Int32) from nI_le (b := 8) c (by decide)), if_pos c]
    by_cases d : l = 0
    · rw [if_pos (show nI l ≤ 0 by rw [d]; decide), if_pos d]
      rfl
    · rw [if_neg (nI_nle (by omega) (by omega)), if_neg d]
      rfl
  · rw [if_neg (show ¬ nI l ≤ (8 : Int32) from nI_ge (a := 8) (by omega) (by omega)), if_neg c]
    rfl
theorem aU_aU {A : qN} {i j x y : Nat} : aU (aU A i j x) i j y = aU A i j y := by
  funext a
  unfold aU
  by_cases e : a = i
  · rw [if_pos e, if_pos e, if_pos rfl]
    funext b
    by_cases f : b = j
    · rw [if_pos f, if_pos f]
    · rw [if_neg f, if_neg f, if_neg f]
  · rw [if_neg e, if_neg e, if_neg e]
theorem X4_beat_v {N : qM} {B : qN} {L : Nat → Nat} (h : qC 48 N B) (hw : qW B) (hL : ∀ g, g < 10 → L g < 1000) (hl : ∀ g, g < 10 → N (60 + 2) g = nI (L g)) {v : Nat} (hv : v < 8) : qOk (kX4_passBeat_L2 (nI v) N) (fun r => ∃ O, r = .inl (nI (v + 1), O) ∧ (∀ c, c ≠ 51 → c ≠ 55 → c ≠ 57 → O c = N c) ∧ qC 48 O (bV L B v)) := by
  unfold kX4_passBeat_L2 bV
  have p := hw.pl v hv
  have b := hw.br v hv
  have u := hw.lu v hv
  rw [if_neg (show ¬ (8 : Int32) ≤ nI v from nI_ge hv (by decide)), X1_isSinging_eq h hw hv, qb1_some]
  by_cases c1 : 0 < B 5 v
  · obtain ⟨s1, s2⟩ := hw.sg v hv c1
    rw [if_pos c1, if10, if_pos s2, if_pos c1]
    unfold kX4_spendBreath
    rw [qrd_k hv (by omega), h.br v hv, tone_pred s1, qwr_k hv (by omega), qrd_k hv (by omega), qst_at, if_pos rfl]
    have h1 := h.set_br v (B 1 v - 1)
    by_cases c2 : B 1 v - 1 = 0
    · rw [c2, if_neg (show ¬ (0 : Int32) < nI 0 from by decide), qwr_k hv (by omega), qwr_k hv (by omega), qb1_some, qb1_some, qb1_some, qvl_eq, qOk_some, if_pos rfl]
      rw [c2] at h1
      have h2 := (h1.set_br v 0).set_no v 0
      rw [aU_aU] at h2
      refine ⟨_, by rw [nI_succ, show nI 0 - 1 = (-1 : Int32) from by decide]; rfl, fun c n1 n2 n3 => by rw [qst_n (by omega), qst_n (by omega), qst_n (by omega)], h2⟩
    · rw [if_pos (show (0 : Int32) < nI (B 1 v - 1) from nI_lt (a := 0) (by omega) (by omega)), qb1_some, qb1_some, qb1_some, qvl_eq, qOk_some, if_neg c2]
      exact ⟨_, by rw [nI_succ], fun c n1 n2 n3 => by rw [qst_n (by omega)], h1⟩
  · rw [if_neg c1, if00, X1_isThere_eq h.th hw.th hv, qb1_some]
    by_cases c : (B 11 0).testBit v = true
    · rw [if_pos c, if10, if_pos c, if_neg c1]
      unfold kX4_cutCoal
      have h1 := h.set_co (B 0 v) (B 10 (B 0 v) + bCl (L (B 0 v)))
      have h2 := h1.set_br v (if B 1 v + 1 < B 2 v then B 1 v + 1 else B 2 v)
      rw [qrd_k hv (by omega), h.pl v hv, qrd_k p (by omega), hl _ p, qrd_k p (by omega), h.co _ p, cl_if (hL _ p), qb1_some, nI_add, qwr_k p (by omega), qb1_some, qrd_k hv (by omega), h1.lu v hv, qrd_k hv (by omega), h1.br v hv, qwr_k hv (by omega), qb1_some, qvl_eq, qOk_some]
      have e : (if nI (aU B 10 (B 0 v) (B 10 (B 0 v) + bCl (L (B 0 v))) 1 v) + 1 < nI (aU B 10 (B 0 v) (B 10 (B 0 v) + bCl (L (B 0 v))) 2 v) then nI (aU B 10 (B 0 v) (B 10 (B 0 v) + bCl (L (B 0 v))) 1 v) + 1 else nI (aU B 10 (B 0 v) (B 10 (B 0 v) + bCl (L (B 0 v))) 2 v)) = nI (if B 1 v + 1 < B 2 v then B 1 v + 1 else B 2 v) := by
        show (if nI (B 1 v) + 1 < nI (B 2 v) then nI (B 1 v) + 1 else nI (B 2 v)) = _
        rw [← nI_succ]
        by_cases d : B 1 v + 1 < B 2 v
        · rw [if_pos (nI_lt d (by omega)), if_pos d]
        · rw [if_neg (nI_nlt (by omega) (by omega)), if_neg d]
      rw [e]
      exact ⟨_, by rw [nI_succ], fun c n1 n2 n3 => by rw [qst_n (by omega), qst_n (by omega)], h2⟩
    · rw [if_neg c, if00, qb1_some, qvl_eq, qOk_some, if_neg c]
      exact ⟨N, by rw [nI_succ], fun _ _ _ _ => rfl, h⟩
