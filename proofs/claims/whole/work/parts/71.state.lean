/-! STATE: A is what both programs hold: rows of numbers.
 0 place, 1 breath, 2 lungs, 3 low, 4 high, 5 tone (0 silent, else note and 1), 6 passages, 7 echo, 8 sight's place, 9 sight's note and 1, 10 coal, 11: 0 there, 1 gas, 2 closed, 3 beat, 4 sights -/
abbrev qN : Type := Nat → Nat → Nat
def aU (A : qN) (i j v : Nat) : qN := fun a => if a = i then (fun b => if b = j then v else A i b) else A a
theorem aU_s {A : qN} {i j v : Nat} : aU A i j v i j = v := by simp [aU]
theorem aU_n {A : qN} {i j v b : Nat} (h : b ≠ j) : aU A i j v i b = A i b := by simp [aU, h]
theorem aU_o {A : qN} {i j v a : Nat} (h : a ≠ i) : aU A i j v a = A a := by simp [aU, h]
theorem qst_at {M : qM} {k i j : Nat} {v : Int32} : qst M k i v k j = if j = i then v else M k j := by simp [qst, upd]
/-- the class's mine at the cell b holds A -/
def qC (b : Nat) (M : qM) (A : qN) : Prop := (∀ v, v < 8 → M (b + 4) v = nI (A 3 v)) ∧ (∀ v, v < 8 → M (b + 5) v = nI (A 4 v)) ∧ (∀ v, v < 8 → M (b + 6) v = nI (A 2 v)) ∧ (∀ v, v < 8 → M (b + 7) v = nI (A 1 v)) ∧ (∀ v, v < 8 → M (b + 8) v = nI (A 0 v)) ∧ (∀ v, v < 8 → M (b + 9) v = nI (A 5 v) - 1) ∧ (∀ g, g < 10 → M (b + 1) g = nI (A 6 g)) ∧ (∀ g, g < 10 → M (b + 2) g = nI (A 7 g)) ∧ (∀ g, g < 10 → M (b + 3) g = nI (A 10 g)) ∧ M b 3 = nI (A 11 1) ∧ M b 4 = nI (A 11 2) ∧ M b 5 = nI (A 11 0) ∧ M b 6 = nI (A 11 3) ∧ M b 7 = nI (A 11 4) ∧ (∀ i, i < A 11 4 → M (b + 10) i = nI (A 8 i)) ∧ (∀ i, i < A 11 4 → M (b + 11) i = nI (A 9 i) - 1)
theorem qC.lo {b : Nat} {M : qM} {A : qN} (h : qC b M A) : (∀ v, v < 8 → M (b + 4) v = nI (A 3 v)) := h.1
theorem qC.hi {b : Nat} {M : qM} {A : qN} (h : qC b M A) : (∀ v, v < 8 → M (b + 5) v = nI (A 4 v)) := h.2.1
theorem qC.lu {b : Nat} {M : qM} {A : qN} (h : qC b M A) : (∀ v, v < 8 → M (b + 6) v = nI (A 2 v)) := h.2.2.1
theorem qC.br {b : Nat} {M : qM} {A : qN} (h : qC b M A) : (∀ v, v < 8 → M (b + 7) v = nI (A 1 v)) := h.2.2.2.1
theorem qC.pl {b : Nat} {M : qM} {A : qN} (h : qC b M A) : (∀ v, v < 8 → M (b + 8) v = nI (A 0 v)) := h.2.2.2.2.1
theorem qC.no {b : Nat} {M : qM} {A : qN} (h : qC b M A) : (∀ v, v < 8 → M (b + 9) v = nI (A 5 v) - 1) := h.2.2.2.2.2.1
theorem qC.ps {b : Nat} {M : qM} {A : qN} (h : qC b M A) : (∀ g, g < 10 → M (b + 1) g = nI (A 6 g)) := h.2.2.2.2.2.2.1
theorem qC.ec {b : Nat} {M : qM} {A : qN} (h : qC b M A) : (∀ g, g < 10 → M (b + 2) g = nI (A 7 g)) := h.2.2.2.2.2.2.2.1
theorem qC.co {b : Nat} {M : qM} {A : qN} (h : qC b M A) : (∀ g, g < 10 → M (b + 3) g = nI (A 10 g)) := h.2.2.2.2.2.2.2.2.1
theorem qC.ga {b : Nat} {M : qM} {A : qN} (h : qC b M A) : M b 3 = nI (A 11 1) := h.2.2.2.2.2.2.2.2.2.1
theorem qC.cl {b : Nat} {M : qM} {A : qN} (h : qC b M A) : M b 4 = nI (A 11 2) := h.2.2.2.2.2.2.2.2.2.2.1
theorem qC.th {b : Nat} {M : qM} {A : qN} (h : qC b M A) : M b 5 = nI (A 11 0) := h.2.2.2.2.2.2.2.2.2.2.2.1
theorem qC.be {b : Nat} {M : qM} {A : qN} (h : qC b M A) : M b 6 = nI (A 11 3) := h.2.2.2.2.2.2.2.2.2.2.2.2.1
theorem qC.si {b : Nat} {M : qM} {A : qN} (h : qC b M A) : M b 7 = nI (A 11 4) := h.2.2.2.2.2.2.2.2.2.2.2.2.2.1
theorem qC.sp {b : Nat} {M : qM} {A : qN} (h : qC b M A) : (∀ i, i < A 11 4 → M (b + 10) i = nI (A 8 i)) := h.2.2.2.2.2.2.2.2.2.2.2.2.2.2.1
theorem qC.sn {b : Nat} {M : qM} {A : qN} (h : qC b M A) : (∀ i, i < A 11 4 → M (b + 11) i = nI (A 9 i) - 1) := h.2.2.2.2.2.2.2.2.2.2.2.2.2.2.2
/-- rows of the reference hold A -/
def qD (bk lo hi lu ps ec sg : Nat → Int32) (th gs sn : Int32) (A : qN) : Prop := (∀ v, v < 8 → lo v = nI (A 3 v)) ∧ (∀ v, v < 8 → hi v = nI (A 4 v)) ∧ (∀ v, v < 8 → lu v = nI (A 2 v)) ∧ (∀ v, v < 8 → bk (8 + v) = nI (A 1 v)) ∧ (∀ v, v < 8 → bk (16 + v) = nI (A 0 v)) ∧ (∀ v, v < 8 → (A 11 0).testBit v = true → bk v = if A 5 v = 0 then -6 else nI (A 5 v - 1)) ∧ (∀ g, g < 10 → ps g = nI (A 6 g)) ∧ (∀ g, g < 10 → ec g = nI (A 7 g)) ∧ (∀ g, g < 10 → bk (24 + g) = nI (A 10 g)) ∧ gs = nI (A 11 1) ∧ bk 34 = nI (A 11 2) ∧ th = nI (A 11 0) ∧ bk 35 = nI (A 11 3) ∧ sn = nI (A 11 4) ∧ (∀ i, i < A 11 4 → sg (2 * i) = nI (A 8 i)) ∧ (∀ i, i < A 11 4 → sg (2 * i + 1) = nI (A 9 i) - 1)
theorem qD.lo {bk lo hi lu ps ec sg : Nat → Int32} {th gs sn : Int32} {A : qN} (h : qD bk lo hi lu ps ec sg th gs sn A) : (∀ v, v < 8 → lo v = nI (A 3 v)) := h.1
theorem qD.hi {bk lo hi lu ps ec sg : Nat → Int32} {th gs sn : Int32} {A : qN} (h : qD bk lo hi lu ps ec sg th gs sn A) : (∀ v, v < 8 → hi v = nI (A 4 v)) := h.2.1
theorem qD.lu {bk lo hi lu ps ec sg : Nat → Int32} {th gs sn : Int32} {A : qN} (h : qD bk lo hi lu ps ec sg th gs sn A) : (∀ v, v < 8 → lu v = nI (A 2 v)) := h.2.2.1
theorem qD.br {bk lo hi lu ps ec sg : Nat → Int32} {th gs sn : Int32} {A : qN} (h : qD bk lo hi lu ps ec sg th gs sn A) : (∀ v, v < 8 → bk (8 + v) = nI (A 1 v)) := h.2.2.2.1
theorem qD.pl {bk lo hi lu ps ec sg : Nat → Int32} {th gs sn : Int32} {A : qN} (h : qD bk lo hi lu ps ec sg th gs sn A) : (∀ v, v < 8 → bk (16 + v) = nI (A 0 v)) := h.2.2.2.2.1
theorem qD.no {bk lo hi lu ps ec sg : Nat → Int32} {th gs sn : Int32} {A : qN} (h : qD bk lo hi lu ps ec sg th gs sn A) : (∀ v, v < 8 → (A 11 0).testBit v = true → bk v = if A 5 v = 0 then -6 else nI (A 5 v - 1)) := h.2.2.2.2.2.1
theorem qD.ps {bk lo hi lu ps ec sg : Nat → Int32} {th gs sn : Int32} {A : qN} (h : qD bk lo hi lu ps ec sg th gs sn A) : (∀ g, g < 10 → ps g = nI (A 6 g)) := h.2.2.2.2.2.2.1
theorem qD.ec {bk lo hi lu ps ec sg : Nat → Int32} {th gs sn : Int32} {A : qN} (h : qD bk lo hi lu ps ec sg th gs sn A) : (∀ g, g < 10 → ec g = nI (A 7 g)) := h.2.2.2.2.2.2.2.1
theorem qD.co {bk lo hi lu ps ec sg : Nat → Int32} {th gs sn : Int32} {A : qN} (h : qD bk lo hi lu ps ec sg th gs sn A) : (∀ g, g < 10 → bk (24 + g) = nI (A 10 g)) := h.2.2.2.2.2.2.2.2.1
theorem qD.ga {bk lo hi lu ps ec sg : Nat → Int32} {th gs sn : Int32} {A : qN} (h : qD bk lo hi lu ps ec sg th gs sn A) : gs = nI (A 11 1) := h.2.2.2.2.2.2.2.2.2.1
theorem qD.cl {bk lo hi lu ps ec sg : Nat → Int32} {th gs sn : Int32} {A : qN} (h : qD bk lo hi lu ps ec sg th gs sn A) : bk 34 = nI (A 11 2) := h.2.2.2.2.2.2.2.2.2.2.1
theorem qD.th {bk lo hi lu ps ec sg : Nat → Int32} {th gs sn : Int32} {A : qN} (h : qD bk lo hi lu ps ec sg th gs sn A) : th = nI (A 11 0) := h.2.2.2.2.2.2.2.2.2.2.2.1
theorem qD.be {bk lo hi lu ps ec sg : Nat → Int32} {th gs sn : Int32} {A : qN} (h : qD bk lo hi lu ps ec sg th gs sn A) : bk 35 = nI (A 11 3) := h.2.2.2.2.2.2.2.2.2.2.2.2.1
theorem qD.si {bk lo hi lu ps ec sg : Nat → Int32} {th gs sn : Int32} {A : qN} (h : qD bk lo hi lu ps ec sg th gs sn A) : sn = nI (A 11 4) := h.2.2.2.2.2.2.2.2.2.2.2.2.2.1
theorem qD.sp {bk lo hi lu ps ec sg : Nat → Int32} {th gs sn : Int32} {A : qN} (h : qD bk lo hi lu ps ec sg th gs sn A) : (∀ i, i < A 11 4 → sg (2 * i) = nI (A 8 i)) := h.2.2.2.2.2.2.2.2.2.2.2.2.2.2.1
theorem qD.sn {bk lo hi lu ps ec sg : Nat → Int32} {th gs sn : Int32} {A : qN} (h : qD bk lo hi lu ps ec sg th gs sn A) : (∀ i, i < A 11 4 → sg (2 * i + 1) = nI (A 9 i) - 1) := h.2.2.2.2.2.2.2.2.2.2.2.2.2.2.2
/-- A is as it may be -/
def qW (A : qN) : Prop := (∀ v, v < 8 → A 0 v < 10) ∧ (∀ v, v < 8 → A 1 v ≤ A 2 v) ∧ (∀ v, v < 8 → A 2 v ≤ 99) ∧ (∀ v, v < 8 → A 3 v ≤ 23) ∧ (∀ v, v < 8 → A 4 v ≤ 23) ∧ (∀ v, v < 8 → A 5 v ≤ 24) ∧ (∀ v, v < 8 → 0 < A 5 v → 0 < A 1 v ∧ (A 11 0).testBit v = true) ∧ (∀ g, g < 10 → A 6 g < 1024) ∧ (∀ g, g < 10 → A 7 g < 10) ∧ A 11 0 < 256 ∧ A 11 1 < 1024 ∧ A 11 2 < 1024 ∧ A 11 3 ≤ 999 ∧ A 11 4 ≤ 8 ∧ (∀ i, i < A 11 4 → A 8 i < 10) ∧ (∀ i, i < A 11 4 → A 9 i ≤ 24) ∧ (∀ g, g < 10 → ∀ h, h < 10 → (A 6 g).testBit h = (A 6 h).testBit g)
theorem qW.pl {A : qN} (h : qW A) : (∀ v, v < 8 → A 0 v < 10) := h.1
theorem qW.br {A : qN} (h : qW A) : (∀ v, v < 8 → A 1 v ≤ A 2 v) := h.2.1
theorem qW.lu {A : qN} (h : qW A) : (∀ v, v < 8 → A 2 v ≤ 99) := h.2.2.1
theorem qW.lo {A : qN} (h : qW A) : (∀ v, v < 8 → A 3 v ≤ 23) := h.2.2.2.1
theorem qW.hi {A : qN} (h : qW A) : (∀ v, v < 8 → A 4 v ≤ 23) := h.2.2.2.2.1
theorem qW.to {A : qN} (h : qW A) : (∀ v, v < 8 → A 5 v ≤ 24) := h.2.2.2.2.2.1
theorem qW.sg {A : qN} (h : qW A) : (∀ v, v < 8 → 0 < A 5 v → 0 < A 1 v ∧ (A 11 0).testBit v = true) := h.2.2.2.2.2.2.1
theorem qW.ps {A : qN} (h : qW A) : (∀ g, g < 10 → A 6 g < 1024) := h.2.2.2.2.2.2.2.1
theorem qW.ec {A : qN} (h : qW A) : (∀ g, g < 10 → A 7 g < 10) := h.2.2.2.2.2.2.2.2.1
theorem qW.th {A : qN} (h : qW A) : A 11 0 < 256 := h.2.2.2.2.2.2.2.2.2.1
theorem qW.ga {A : qN} (h : qW A) : A 11 1 < 1024 := h.2.2.2.2.2.2.2.2.2.2.1
theorem qW.cl {A : qN} (h : qW A) : A 11 2 < 1024 := h.2.2.2.2.2.2.2.2.2.2.2.1
theorem qW.be {A : qN} (h : qW A) : A 11 3 ≤ 999 := h.2.2.2.2.2.2.2.2.2.2.2.2.1
theorem qW.si {A : qN} (h : qW A) : A 11 4 ≤ 8 := h.2.2.2.2.2.2.2.2.2.2.2.2.2.1
theorem qW.sp {A : qN} (h : qW A) : (∀ i, i < A 11 4 → A 8 i < 10) := h.2.2.2.2.2.2.2.2.2.2.2.2.2.2.1
theorem qW.sn {A : qN} (h : qW A) : (∀ i, i < A 11 4 → A 9 i ≤ 24) ∧ (∀ g, g < 10 → ∀ h, h < 10 → (A 6 g).testBit h = (A 6 h).testBit g) := h.2.2.2.2.2.2.2.2.2.2.2.2.2.2.2
/-- the reference's own rows -/
abbrev qDm (M : qM) (A : qN) : Prop := qD (M 1) (M 3) (M 4) (M 5) (M 6) (M 7) (M 8) (M 0 2) (M 0 8) (M 0 9) A
/-- the reference's copied rows (now) -/
abbrev qDn (M : qM) (A : qN) : Prop := qD (M 2) (M 3) (M 4) (M 5) (M 6) (M 7) (M 8) (M 0 2) (M 0 8) (M 0 9) A
/-- the reference's image n -/
abbrev qDi (M : qM) (n : Nat) (A : qN) : Prop := qD (fun k => M 15 (110 * n + k)) (fun k => M 15 (110 * n + 36 + k)) (fun k => M 15 (110 * n + 44 + k)) (fun k => M 15 (110 * n + 52 + k)) (fun k => M 15 (110 * n + 60 + k)) (fun k => M 15 (110 * n + 70 + k)) (fun k => M 15 (110 * n + 80 + k)) (M 15 (110 * n + 100)) (M 15 (110 * n + 101)) (M 15 (110 * n + 102)) A
/-- pads: S signs p -/
def qPd (M1 M2 : qM) (S : Nat) (p : Nat → Nat) : Prop := S ≤ 60 ∧ M1 39 1 = nI S ∧ M2 0 11 = nI S ∧ ∀ i, i < S → M1 40 i = nI (p i) ∧ M2 9 i = nI (p i) ∧ 33 ≤ p i ∧ p i ≤ 126
/-- images -/
def qIg (M1 M2 : qM) (n : Nat) : Prop := (M1 38 n = 0 ∧ M2 16 n = 0) ∨ (M1 38 n = 1 ∧ M2 16 n = 1 ∧ ∃ A, qC (14 + 12 * n) M1 A ∧ qDi M2 n A ∧ qW A)
def qR (M1 M2 : qM) : Prop := (∃ A, qC 1 M1 A ∧ qDm M2 A ∧ qW A) ∧ (∃ S p, qPd M1 M2 S p) ∧ qIg M1 M2 0 ∧ qIg M1 M2 1
/-- what the class must keep, where it only looks -/
def qK1 (M M' : qM) : Prop := (∀ k, k < 39 → M' k = M k) ∧ M' 39 1 = M 39 1 ∧ M' 40 = M 40
def qK2 (M M' : qM) : Prop := M' 1 = M 1 ∧ M' 3 = M 3 ∧ M' 4 = M 4 ∧ M' 5 = M 5 ∧ M' 6 = M 6 ∧ M' 7 = M 7 ∧ M' 8 = M 8 ∧ M' 9 = M 9 ∧ M' 15 = M 15 ∧ M' 16 = M 16 ∧ M' 0 2 = M 0 2 ∧ M' 0 8 = M 0 8 ∧ M' 0 9 = M 0 9 ∧ M' 0 11 = M 0 11
theorem qK1.rf {M : qM} : qK1 M M := ⟨fun _ _ => rfl, rfl, rfl⟩
theorem qK2.rf {M : qM} : qK2 M M := ⟨rfl, rfl, rfl, rfl, rfl, rfl, rfl, rfl, rfl, rfl, rfl, rfl, rfl, rfl⟩
theorem qK1.tr {M N O : qM} (h : qK1 M N) (g : qK1 N O) : qK1 M O := ⟨fun k hk => (g.1 k hk).trans (h.1 k hk), g.2.1.trans h.2.1, g.2.2.trans h.2.2⟩
theorem qC.same {b : Nat} {M M' : qM} {A : qN} (h : qC b M A) (hs : ∀ k, b ≤ k → k ≤ b + 11 → M' k = M k) : qC b M' A := by
  unfold qC at *
  rw [hs b (by omega) (by omega), hs (b + 1) (by omega) (by omega), hs (b + 2) (by omega) (by omega), hs (b + 3) (by omega) (by omega), hs (b + 4) (by omega) (by omega), hs (b + 5) (by omega) (by omega), hs (b + 6) (by omega) (by omega), hs (b + 7) (by omega) (by omega), hs (b + 8) (by omega) (by omega), hs (b + 9) (by omega) (by omega), hs (b + 10) (by omega) (by omega), hs (b + 11) (by omega) (by omega)]
  exact h
theorem qR.kept {M1 M2 N1 N2 : qM} (h : qR M1 M2) (h1 : qK1 M1 N1) (h2 : qK2 M2 N2) : qR N1 N2 := by
  obtain ⟨⟨A, c, d, w⟩, ⟨S, p, s1, s2, s3, s4⟩, i0, i1⟩ := h
  obtain ⟨g1, g2, g3⟩ := h1
  obtain ⟨k1, k3, k4, k5, k6, k7, k8, k9, k15, k16, l2, l8, l9, l11⟩ := h2
  have im : ∀ n, n < 2 → qIg M1 M2 n → qIg N1 N2 n := by
    intro n hn i
    rcases i with ⟨a, b⟩ | ⟨a, b, B, c, d, w⟩
    · exact Or.inl ⟨by rw [g1 38 (by omega)]; exact a, by rw [k16]; exact b⟩
    · refine Or.inr ⟨by rw [g1 38 (by omega)]; exact a, by rw [k16]; exact b, B, c.same (fun k _ hk => g1 k (by omega)), ?_, w⟩
      show qDi N2 n B
      unfold qDi
      rw [k15]
      exact d
  refine ⟨⟨A, c.same (fun k _ hk => g1 k (by omega)), ?_, w⟩, ⟨S, p, s1, by rw [g2]; exact s2, by rw [l11]; exact s3, fun i hi => ?_⟩, im 0 (by omega) i0, im 1 (by omega) i1⟩
  · show qDm N2 A
    unfold qDm
    rw [k1, k3, k4, k5, k6, k7, k8, l2, l8, l9]
    exact d
  · rw [g3, k9]
    exact s4 i hi
theorem qC.set_lo {b : Nat} {M : qM} {A : qN} (h : qC b M A) (v x : Nat) : qC b (qst M (b + 4) v (nI x)) (aU A 3 v x) :=
  ⟨fun w hw => by
    by_cases e : w = v
    · subst e; rw [qst_at, if_pos rfl, aU_s]
    · rw [qst_at, if_neg e, aU_n e]; exact h.lo w hw, fun w hw => by rw [qst_n (by omega)]; exact h.hi w hw, fun w hw => by rw [qst_n (by omega)]; exact h.lu w hw, fun w hw => by rw [qst_n (by omega)]; exact h.br w hw, fun w hw => by rw [qst_n (by omega)]; exact h.pl w hw, fun w hw => by rw [qst_n (by omega)]; exact h.no w hw, fun w hw => by rw [qst_n (by omega)]; exact h.ps w hw, fun w hw => by rw [qst_n (by omega)]; exact h.ec w hw, fun w hw => by rw [qst_n (by omega)]; exact h.co w hw, by rw [qst_n (by omega)]; exact h.ga, by rw [qst_n (by omega)]; exact h.cl, by rw [qst_n (by omega)]; exact h.th, by rw [qst_n (by omega)]; exact h.be, by rw [qst_n (by omega)]; exact h.si, fun w hw => by rw [qst_n (by omega)]; exact h.sp w hw, fun w hw => by rw [qst_n (by omega)]; exact h.sn w hw⟩
theorem qC.set_hi {b : Nat} {M : qM} {A : qN} (h : qC b M A) (v x : Nat) : qC b (qst M (b + 5) v (nI x)) (aU A 4 v x) :=
  ⟨fun w hw => by rw [qst_n (by omega)]; exact h.lo w hw, fun w hw => by
    by_cases e : w = v
    · subst e; rw [qst_at, if_pos rfl, aU_s]
    · rw [qst_at, if_neg e, aU_n e]; exact h.hi w hw, fun w hw => by rw [qst_n (by omega)]; exact h.lu w hw, fun w hw => by rw [qst_n (by omega)]; exact h.br w hw, fun w hw => by rw [qst_n (by omega)]; exact h.pl w hw, fun w hw => by rw [qst_n (by omega)]; exact h.no w hw, fun w hw => by rw [qst_n (by omega)]; exact h.ps w hw, fun w hw => by rw [qst_n (by omega)]; exact h.ec w hw, fun w hw => by rw [qst_n (by omega)]; exact h.co w hw, by rw [qst_n (by omega)]; exact h.ga, by rw [qst_n (by omega)]; exact h.cl, by rw [qst_n (by omega)]; exact h.th, by rw [qst_n (by omega)]; exact h.be, by rw [qst_n (by omega)]; exact h.si, fun w hw => by rw [qst_n (by omega)]; exact h.sp w hw, fun w hw => by rw [qst_n (by omega)]; exact h.sn w hw⟩
theorem qC.set_lu {b : Nat} {M : qM} {A : qN} (h : qC b M A) (v x : Nat) : qC b (qst M (b + 6) v (nI x)) (aU A 2 v x) :=
  ⟨fun w hw => by rw [qst_n (by omega)]; exact h.lo w hw, fun w hw => by rw [qst_n (by omega)]; exact h.hi w hw, fun w hw => by
    by_cases e : w = v
    · subst e; rw [qst_at, if_pos rfl, aU_s]
    · rw [qst_at, if_neg e, aU_n e]; exact h.lu w hw, fun w hw => by rw [qst_n (by omega)]; exact h.br w hw, fun w hw => by rw [qst_n (by omega)]; exact h.pl w hw, fun w hw => by rw [qst_n (by omega)]; exact h.no w hw, fun w hw => by rw [qst_n (by omega)]; exact h.ps w hw, fun w hw => by rw [qst_n (by omega)]; exact h.ec w hw, fun w hw => by rw [qst_n (by omega)]; exact h.co w hw, by rw [qst_n (by omega)]; exact h.ga, by rw [qst_n (by omega)]; exact h.cl, by rw [qst_n (by omega)]; exact h.th, by rw [qst_n (by omega)]; exact h.be, by rw [qst_n (by omega)]; exact h.si, fun w hw => by rw [qst_n (by omega)]; exact h.sp w hw, fun w hw => by rw [qst_n (by omega)]; exact h.sn w hw⟩
theorem qC.set_br {b : Nat} {M : qM} {A : qN} (h : qC b M A) (v x : Nat) : qC b (qst M (b + 7) v (nI x)) (aU A 1 v x) :=
  ⟨fun w hw => by rw [qst_n (by omega)]; exact h.lo w hw, fun w hw => by rw [qst_n (by omega)]; exact h.hi w hw, fun w hw => by rw [qst_n (by omega)]; exact h.lu w hw, fun w hw => by
    by_cases e : w = v
    · subst e; rw [qst_at, if_pos rfl, aU_s]
    · rw [qst_at, if_neg e, aU_n e]; exact h.br w hw, fun w hw => by rw [qst_n (by omega)]; exact h.pl w hw, fun w hw => by rw [qst_n (by omega)]; exact h.no w hw, fun w hw => by rw [qst_n (by omega)]; exact h.ps w hw, fun w hw => by rw [qst_n (by omega)]; exact h.ec w hw, fun w hw => by rw [qst_n (by omega)]; exact h.co w hw, by rw [qst_n (by omega)]; exact h.ga, by rw [qst_n (by omega)]; exact h.cl, by rw [qst_n (by omega)]; exact h.th, by rw [qst_n (by omega)]; exact h.be, by rw [qst_n (by omega)]; exact h.si, fun w hw => by rw [qst_n (by omega)]; exact h.sp w hw, fun w hw => by rw [qst_n (by omega)]; exact h.sn w hw⟩
theorem qC.set_pl {b : Nat} {M : qM} {A : qN} (h : qC b M A) (v x : Nat) : qC b (qst M (b + 8) v (nI x)) (aU A 0 v x) :=
  ⟨fun w hw => by rw [qst_n (by omega)]; exact h.lo w hw, fun w hw => by rw [qst_n (by omega)]; exact h.hi w hw, fun w hw => by rw [qst_n (by omega)]; exact h.lu w hw, fun w hw => by rw [qst_n (by omega)]; exact h.br w hw, fun w hw => by
    by_cases e : w = v
    · subst e; rw [qst_at, if_pos rfl, aU_s]
    · rw [qst_at, if_neg e, aU_n e]; exact h.pl w hw, fun w hw => by rw [qst_n (by omega)]; exact h.no w hw, fun w hw => by rw [qst_n (by omega)]; exact h.ps w hw, fun w hw => by rw [qst_n (by omega)]; exact h.ec w hw, fun w hw => by rw [qst_n (by omega)]; exact h.co w hw, by rw [qst_n (by omega)]; exact h.ga, by rw [qst_n (by omega)]; exact h.cl, by rw [qst_n (by omega)]; exact h.th, by rw [qst_n (by omega)]; exact h.be, by rw [qst_n (by omega)]; exact h.si, fun w hw => by rw [qst_n (by omega)]; exact h.sp w hw, fun w hw => by rw [qst_n (by omega)]; exact h.sn w hw⟩
theorem qC.set_ps {b : Nat} {M : qM} {A : qN} (h : qC b M A) (v x : Nat) : qC b (qst M (b + 1) v (nI x)) (aU A 6 v x) :=
  ⟨fun w hw => by rw [qst_n (by omega)]; exact h.lo w hw, fun w hw => by rw [qst_n (by omega)]; exact h.hi w hw, fun w hw => by rw [qst_n (by omega)]; exact h.lu w hw, fun w hw => by rw [qst_n (by omega)]; exact h.br w hw, fun w hw => by rw [qst_n (by omega)]; exact h.pl w hw, fun w hw => by rw [qst_n (by omega)]; exact h.no w hw, fun w hw => by
    by_cases e : w = v
    · subst e; rw [qst_at, if_pos rfl, aU_s]
    · rw [qst_at, if_neg e, aU_n e]; exact h.ps w hw, fun w hw => by rw [qst_n (by omega)]; exact h.ec w hw, fun w hw => by rw [qst_n (by omega)]; exact h.co w hw, by rw [qst_n (by omega)]; exact h.ga, by rw [qst_n (by omega)]; exact h.cl, by rw [qst_n (by omega)]; exact h.th, by rw [qst_n (by omega)]; exact h.be, by rw [qst_n (by omega)]; exact h.si, fun w hw => by rw [qst_n (by omega)]; exact h.sp w hw, fun w hw => by rw [qst_n (by omega)]; exact h.sn w hw⟩
theorem qC.set_ec {b : Nat} {M : qM} {A : qN} (h : qC b M A) (v x : Nat) : qC b (qst M (b + 2) v (nI x)) (aU A 7 v x) :=
  ⟨fun w hw => by rw [qst_n (by omega)]; exact h.lo w hw, fun w hw => by rw [qst_n (by omega)]; exact h.hi w hw, fun w hw => by rw [qst_n (by omega)]; exact h.lu w hw, fun w hw => by rw [qst_n (by omega)]; exact h.br w hw, fun w hw => by rw [qst_n (by omega)]; exact h.pl w hw, fun w hw => by rw [qst_n (by omega)]; exact h.no w hw, fun w hw => by rw [qst_n (by omega)]; exact h.ps w hw, fun w hw => by
    by_cases e : w = v
    · subst e; rw [qst_at, if_pos rfl, aU_s]
    · rw [qst_at, if_neg e, aU_n e]; exact h.ec w hw, fun w hw => by rw [qst_n (by omega)]; exact h.co w hw, by rw [qst_n (by omega)]; exact h.ga, by rw [qst_n (by omega)]; exact h.cl, by rw [qst_n (by omega)]; exact h.th, by rw [qst_n (by omega)]; exact h.be, by rw [qst_n (by omega)]; exact h.si, fun w hw => by rw [qst_n (by omega)]; exact h.sp w hw, fun w hw => by rw [qst_n (by omega)]; exact h.sn w hw⟩
theorem qC.set_co {b : Nat} {M : qM} {A : qN} (h : qC b M A) (v x : Nat) : qC b (qst M (b + 3) v (nI x)) (aU A 10 v x) :=
  ⟨fun w hw => by rw [qst_n (by omega)]; exact h.lo w hw, fun w hw => by rw [qst_n (by omega)]; exact h.hi w hw, fun w hw => by rw [qst_n (by omega)]; exact h.lu w hw, fun w hw => by rw [qst_n (by omega)]; exact h.br w hw, fun w hw => by rw [qst_n (by omega)]; exact h.pl w hw, fun w hw => by rw [qst_n (by omega)]; exact h.no w hw, fun w hw => by rw [qst_n (by omega)]; exact h.ps w hw, fun w hw => by rw [qst_n (by omega)]; exact h.ec w hw, fun w hw => by
    by_cases e : w = v
    · subst e; rw [qst_at, if_pos rfl, aU_s]
    · rw [qst_at, if_neg e, aU_n e]; exact h.co w hw, by rw [qst_n (by omega)]; exact h.ga, by rw [qst_n (by omega)]; exact h.cl, by rw [qst_n (by omega)]; exact h.th, by rw [qst_n (by omega)]; exact h.be, by rw [qst_n (by omega)]; exact h.si, fun w hw => by rw [qst_n (by omega)]; exact h.sp w hw, fun w hw => by rw [qst_n (by omega)]; exact h.sn w hw⟩
theorem qC.set_no {b : Nat} {M : qM} {A : qN} (h : qC b M A) (v x : Nat) : qC b (qst M (b + 9) v (nI x - 1)) (aU A 5 v x) :=
  ⟨fun w hw => by rw [qst_n (by omega)]; exact h.lo w hw, fun w hw => by rw [qst_n (by omega)]; exact h.hi w hw, fun w hw => by rw [qst_n (by omega)]; exact h.lu w hw, fun w hw => by rw [qst_n (by omega)]; exact h.br w hw, fun w hw => by rw [qst_n (by omega)]; exact h.pl w hw, fun w hw => by
    by_cases e : w = v
    · subst e; rw [qst_at, if_pos rfl, aU_s]
    · rw [qst_at, if_neg e, aU_n e]; exact h.no w hw, fun w hw => by rw [qst_n (by omega)]; exact h.ps w hw, fun w hw => by rw [qst_n (by omega)]; exact h.ec w hw, fun w hw => by rw [qst_n (by omega)]; exact h.co w hw, by rw [qst_n (by omega)]; exact h.ga, by rw [qst_n (by omega)]; exact h.cl, by rw [qst_n (by omega)]; exact h.th, by rw [qst_n (by omega)]; exact h.be, by rw [qst_n (by omega)]; exact h.si, fun w hw => by rw [qst_n (by omega)]; exact h.sp w hw, fun w hw => by rw [qst_n (by omega)]; exact h.sn w hw⟩
theorem qC.set_ga {b : Nat} {M : qM} {A : qN} (h : qC b M A) (x : Nat) : qC b (qst M b 3 (nI x)) (aU A 11 1 x) :=
  ⟨fun w hw => by rw [qst_n (by omega)]; exact h.lo w hw, fun w hw => by rw [qst_n (by omega)]; exact h.hi w hw, fun w hw => by rw [qst_n (by omega)]; exact h.lu w hw, fun w hw => by rw [qst_n (by omega)]; exact h.br w hw, fun w hw => by rw [qst_n (by omega)]; exact h.pl w hw, fun w hw => by rw [qst_n (by omega)]; exact h.no w hw, fun w hw => by rw [qst_n (by omega)]; exact h.ps w hw, fun w hw => by rw [qst_n (by omega)]; exact h.ec w hw, fun w hw => by rw [qst_n (by omega)]; exact h.co w hw, by rw [qst_at, if_pos rfl, aU_s], by rw [qst_at, if_neg (by decide), aU_n (by decide)]; exact h.cl, by rw [qst_at, if_neg (by decide), aU_n (by decide)]; exact h.th, by rw [qst_at, if_neg (by decide), aU_n (by decide)]; exact h.be, by rw [qst_at, if_neg (by decide), aU_n (by decide)]; exact h.si, fun w hw => by rw [aU_n (by decide)] at hw; rw [qst_n (by omega)]; exact h.sp w hw, fun w hw => by rw [aU_n (by decide)] at hw; rw [qst_n (by omega)]; exact h.sn w hw⟩
theorem qC.set_cl {b : Nat} {M : qM} {A : qN} (h : qC b M A) (x : Nat) : qC b (qst M b 4 (nI x)) (aU A 11 2 x) :=
  ⟨fun w hw => by rw [qst_n (by omega)]; exact h.lo w hw, fun w hw => by rw [qst_n (by omega)]; exact h.hi w hw, fun w hw => by rw [qst_n (by omega)]; exact h.lu w hw, fun w hw => by rw [qst_n (by omega)]; exact h.br w hw, fun w hw => by rw [qst_n (by omega)]; exact h.pl w hw, fun w hw => by rw [qst_n (by omega)]; exact h.no w hw, fun w hw => by rw [qst_n (by omega)]; exact h.ps w hw, fun w hw => by rw [qst_n (by omega)]; exact h.ec w hw, fun w hw => by rw [qst_n (by omega)]; exact h.co w hw, by rw [qst_at, if_neg (by decide), aU_n (by decide)]; exact h.ga, by rw [qst_at, if_pos rfl, aU_s], by rw [qst_at, if_neg (by decide), aU_n (by decide)]; exact h.th, by rw [qst_at, if_neg (by decide), aU_n (by decide)]; exact h.be, by rw [qst_at, if_neg (by decide), aU_n (by decide)]; exact h.si, fun w hw => by rw [aU_n (by decide)] at hw; rw [qst_n (by omega)]; exact h.sp w hw, fun w hw => by rw [aU_n (by decide)] at hw; rw [qst_n (by omega)]; exact h.sn w hw⟩
theorem qC.set_th {b : Nat} {M : qM} {A : qN} (h : qC b M A) (x : Nat) : qC b (qst M b 5 (nI x)) (aU A 11 0 x) :=
  ⟨fun w hw => by rw [qst_n (by omega)]; exact h.lo w hw, fun w hw => by rw [qst_n (by omega)]; exact h.hi w hw, fun w hw => by rw [qst_n (by omega)]; exact h.lu w hw, fun w hw => by rw [qst_n (by omega)]; exact h.br w hw, fun w hw => by rw [qst_n (by omega)]; exact h.pl w hw, fun w hw => by rw [qst_n (by omega)]; exact h.no w hw, fun w hw => by rw [qst_n (by omega)]; exact h.ps w hw, fun w hw => by rw [qst_n (by omega)]; exact h.ec w hw, fun w hw => by rw [qst_n (by omega)]; exact h.co w hw, by rw [qst_at, if_neg (by decide), aU_n (by decide)]; exact h.ga, by rw [qst_at, if_neg (by decide), aU_n (by decide)]; exact h.cl, by rw [qst_at, if_pos rfl, aU_s], by rw [qst_at, if_neg (by decide), aU_n (by decide)]; exact h.be, by rw [qst_at, if_neg (by decide), aU_n (by decide)]; exact h.si, fun w hw => by rw [aU_n (by decide)] at hw; rw [qst_n (by omega)]; exact h.sp w hw, fun w hw => by rw [aU_n (by decide)] at hw; rw [qst_n (by omega)]; exact h.sn w hw⟩
theorem qC.set_be {b : Nat} {M : qM} {A : qN} (h : qC b M A) (x : Nat) : qC b (qst M b 6 (nI x)) (aU A 11 3 x) :=
  ⟨fun w hw => by rw [qst_n (by omega)]; exact h.lo w hw, fun w hw => by rw [qst_n (by omega)]; exact h.hi w hw, fun w hw => by rw [qst_n (by omega)]; exact h.lu w hw, fun w hw => by rw [qst_n (by omega)]; exact h.br w hw, fun w hw => by rw [qst_n (by omega)]; exact h.pl w hw, fun w hw => by rw [qst_n (by omega)]; exact h.no w hw, fun w hw => by rw [qst_n (by omega)]; exact h.ps w hw, fun w hw => by rw [qst_n (by omega)]; exact h.ec w hw, fun w hw => by rw [qst_n (by omega)]; exact h.co w hw, by rw [qst_at, if_neg (by decide), aU_n (by decide)]; exact h.ga, by rw [qst_at, if_neg (by decide), aU_n (by decide)]; exact h.cl, by rw [qst_at, if_neg (by decide), aU_n (by decide)]; exact h.th, by rw [qst_at, if_pos rfl, aU_s], by rw [qst_at, if_neg (by decide), aU_n (by decide)]; exact h.si, fun w hw => by rw [aU_n (by decide)] at hw; rw [qst_n (by omega)]; exact h.sp w hw, fun w hw => by rw [aU_n (by decide)] at hw; rw [qst_n (by omega)]; exact h.sn w hw⟩
