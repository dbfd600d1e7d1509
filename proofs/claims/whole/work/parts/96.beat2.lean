theorem bV_11 {L : Nat → Nat} {B : qN} {v : Nat} : bV L B v 11 = B 11 := by
  unfold bV
  by_cases c : (B 11 0).testBit v = true
  · rw [if_pos c]
    by_cases c1 : 0 < B 5 v
    · rw [if_pos c1]
      by_cases c2 : B 1 v - 1 = 0
      · rw [if_pos c2]; rfl
      · rw [if_neg c2]; rfl
    · rw [if_neg c1]; rfl
  · rw [if_neg c]
theorem bS_11 {L : Nat → Nat} {B : qN} : ∀ k, bS L B k 11 = B 11
  | 0 => rfl
  | k + 1 => by
    show bV L (bS L B k) k 11 = _
    rw [bV_11, bS_11 k]
theorem aU_cm {A : qN} {i j a b x y : Nat} (h : i ≠ j) : aU (aU A i a x) j b y = aU (aU A j b y) i a x := by
  funext r
  unfold aU
  by_cases e : r = i
  · subst e
    rw [if_neg h, if_pos rfl, if_pos rfl, if_neg h]
  · by_cases f : r = j
    · subst f
      rw [if_pos rfl, if_neg e, if_neg e, if_pos rfl]
    · rw [if_neg f, if_neg e, if_neg e, if_neg f]
theorem bV_be {L : Nat → Nat} {B : qN} {v y : Nat} : bV L (aU B 11 3 y) v = aU (bV L B v) 11 3 y := by
  unfold bV
  show (if (B 11 0).testBit v = true then (if 0 < B 5 v then (if B 1 v - 1 = 0 then aU (aU (aU B 11 3 y) 1 v 0) 5 v 0 else aU (aU B 11 3 y) 1 v (B 1 v - 1)) else aU (aU (aU B 11 3 y) 10 (B 0 v) (B 10 (B 0 v) + bCl (L (B 0 v)))) 1 v (if B 1 v + 1 < B 2 v then B 1 v + 1 else B 2 v)) else aU B 11 3 y) = _
  by_cases c : (B 11 0).testBit v = true
  · rw [if_pos c, if_pos c]
    by_cases c1 : 0 < B 5 v
    · rw [if_pos c1, if_pos c1]
      by_cases c2 : B 1 v - 1 = 0
      · rw [if_pos c2, if_pos c2, aU_cm (i := 11) (j := 1) (by decide), aU_cm (i := 11) (j := 5) (by decide)]
      · rw [if_neg c2, if_neg c2, aU_cm (i := 11) (j := 1) (by decide)]
    · rw [if_neg c1, if_neg c1, aU_cm (i := 11) (j := 10) (by decide), aU_cm (i := 11) (j := 1) (by decide)]
  · rw [if_neg c, if_neg c]
theorem bS_be {L : Nat → Nat} {B : qN} {y : Nat} : ∀ k, bS L (aU B 11 3 y) k = aU (bS L B k) 11 3 y
  | 0 => rfl
  | k + 1 => by
    show bV L (bS L (aU B 11 3 y) k) k = _
    rw [bS_be k, bV_be]
    rfl
def yBeat (A : qN) : qN := aU (bS (sL A) A 8) 11 3 (A 11 3 + 1)
theorem X4_passBeat_eq {M : qM} {A : qN} (h : qC 48 M A) (hw : qW A) (hL : ∀ g, g < 10 → sL A g < 1000) (hl : ∀ g, g < 10 → M (60 + 2) g = nI (sL A g)) : qOk (kX4_passBeat M) (fun N => (∀ c, c ≠ 48 → c ≠ 51 → c ≠ 55 → c ≠ 57 → N c = M c) ∧ qC 48 N (yBeat A)) := by
  unfold kX4_passBeat
  rw [qOk_b1]
  refine qlp_for (fun k s => ∃ O, s = (nI k, O) ∧ (∀ c, c ≠ 51 → c ≠ 55 → c ≠ 57 → O c = M c) ∧ qC 48 O (bS (sL A) A k)) 8 (by omega) ⟨M, rfl, fun _ _ _ _ => rfl, h⟩ ?_ ?_
  · rintro k s hk ⟨O, rfl, o1, o2⟩
    refine qOk.m (X4_beat_v o2 (bS_W hw k (by omega)) hL (fun g hg => by rw [o1 (60 + 2) (by decide) (by decide) (by decide)]; exact hl g hg) hk) (fun r hr => ?_)
    obtain ⟨Q, rfl, q1, q2⟩ := hr
    exact ⟨Q, rfl, fun c a b d => by rw [q1 c a b d, o1 c a b d], q2⟩
  · rintro s ⟨O, rfl, o1, o2⟩
    show qOk (kX4_passBeat_L2 (nI 8) O) _
    unfold kX4_passBeat_L2
    rw [if_pos (show (8 : Int32) ≤ nI 8 from by decide), qOk_some]
    show qOk (qvl (qst O 48 6 (O 48 6 + 1)) (fun M13 => some M13)) _
    rw [qvl_eq, qOk_some, o2.be, ← nI_succ]
    refine ⟨fun c a b d e => by rw [qst_n a, o1 c b d e], ?_⟩
    unfold yBeat
    rw [← bS_11 (L := sL A) (B := A) 8]
    exact o2.set_be _
