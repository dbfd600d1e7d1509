abbrev W1N : Nat := 75
abbrev W2N : Nat := 17
def qFu : Nat := 20000
def qF1 (b : Nat) (ad : Nat → Nat) (g : Nat → Int32) : List Value := [.ref (ad (b + 1)), .ref (ad (b + 2)), .ref (ad (b + 3)), .int (g 3), .int (g 4), .int (g 5), .int (g 6), .int (g 7), .ref (ad (b + 4)), .ref (ad (b + 5)), .ref (ad (b + 6)), .ref (ad (b + 7)), .ref (ad (b + 8)), .ref (ad (b + 9)), .ref (ad (b + 10)), .ref (ad (b + 11))]
def qF0 (b : Nat) (ad : Nat → Nat) (g : Nat → Int32) : List Value := [.ref (ad (b + 1)), .ref (ad (b + 2)), .int (g 2)]
def qF6 (b : Nat) (ad : Nat → Nat) (g : Nat → Int32) : List Value := [.ref (ad (b + 1))]
def qF7 (ad : Nat → Nat) (g : Nat → Int32) : List Value := [.ref (ad 1), .ref (ad 13), .ref (ad 38), .ref (ad 39), .ref (ad 44), .ref (ad 47), .ref (ad 63), .ref (ad 65), .ref (ad 70)]
def qF2 (ad : Nat → Nat) (g : Nat → Int32) : List Value := [.ref (ad 40), .int (g 1), .ref (ad 41), .ref (ad 42), .ref (ad 43), .int (g 5), .int (g 6)]
def qF3 (ad : Nat → Nat) (g : Nat → Int32) : List Value := [.ref (ad 66), .ref (ad 68), .ref (ad 69), .int (g 3), .int (g 4)]
def qF4 (ad : Nat → Nat) (g : Nat → Int32) : List Value := [.ref (ad 48), .int (g 1), .int (g 2), .int (g 3), .int (g 4), .ref (ad 60)]
def qF5 (ad : Nat → Nat) (g : Nat → Int32) : List Value := [.ref (ad 71), .ref (ad 72), .ref (ad 73), .ref (ad 74), .int (g 4)]
def qF8 (ad : Nat → Nat) (g : Nat → Int32) : List Value := [.ref (ad 1), .ref (ad 2), .int (g 2), .ref (ad 3), .ref (ad 4), .ref (ad 5), .ref (ad 6), .ref (ad 7), .int (g 8), .int (g 9), .ref (ad 8), .int (g 11), .ref (ad 9), .int (g 13), .int (g 14), .ref (ad 10), .int (g 16), .int (g 17), .ref (ad 11), .ref (ad 12), .ref (ad 13), .ref (ad 14), .ref (ad 15), .ref (ad 16)]
def qIm (i : Nat) : Nat := if i = 0 then 14 else 26
def e1 : qE := fun G ad g k => match k with
  | 0 => .inr (7, qF7 ad g)
  | 1 => .inr (1, qF1 1 ad g)
  | 2 => .inl (G.2.1, 10, .inl g)
  | 3 => .inl (G.2.1, 10, .inl g)
  | 4 => .inl (G.2.1, 10, .inl g)
  | 5 => .inl (G.2.1, 8, .inl g)
  | 6 => .inl (G.2.1, 8, .inl g)
  | 7 => .inl (G.2.1, 8, .inl g)
  | 8 => .inl (G.2.1, 8, .inl g)
  | 9 => .inl (G.2.1, 8, .inl g)
  | 10 => .inl (G.2.1, 8, .inl g)
  | 11 => .inl (G.2.1, 8, .inl g)
  | 12 => .inl (G.2.1, 8, .inl g)
  | 13 => .inl (G.2.2.2, 2, .inr (.inr (.inr (.inr (fun i => some (ad (qIm i)))))))
  | 14 => .inr (1, qF1 14 ad g)
  | 15 => .inl (G.2.1, 10, .inl g)
  | 16 => .inl (G.2.1, 10, .inl g)
  | 17 => .inl (G.2.1, 10, .inl g)
  | 18 => .inl (G.2.1, 8, .inl g)
  | 19 => .inl (G.2.1, 8, .inl g)
  | 20 => .inl (G.2.1, 8, .inl g)
  | 21 => .inl (G.2.1, 8, .inl g)
  | 22 => .inl (G.2.1, 8, .inl g)
  | 23 => .inl (G.2.1, 8, .inl g)
  | 24 => .inl (G.2.1, 8, .inl g)
  | 25 => .inl (G.2.1, 8, .inl g)
  | 26 => .inr (1, qF1 26 ad g)
  | 27 => .inl (G.2.1, 10, .inl g)
  | 28 => .inl (G.2.1, 10, .inl g)
  | 29 => .inl (G.2.1, 10, .inl g)
  | 30 => .inl (G.2.1, 8, .inl g)
  | 31 => .inl (G.2.1, 8, .inl g)
  | 32 => .inl (G.2.1, 8, .inl g)
  | 33 => .inl (G.2.1, 8, .inl g)
  | 34 => .inl (G.2.1, 8, .inl g)
  | 35 => .inl (G.2.1, 8, .inl g)
  | 36 => .inl (G.2.1, 8, .inl g)
  | 37 => .inl (G.2.1, 8, .inl g)
  | 38 => .inl (G.2.2.1, 2, .inl g)
  | 39 => .inr (2, qF2 ad g)
  | 40 => .inl (G.2.1, 60, .inl g)
  | 41 => .inl (G.2.1, 60, .inl g)
  | 42 => .inl (G.2.1, 60, .inl g)
  | 43 => .inl (G.2.1, 60, .inl g)
  | 44 => .inr (0, qF0 44 ad g)
  | 45 => .inl (G.2.1, 10, .inl g)
  | 46 => .inl (G.2.1, 10, .inl g)
  | 47 => .inr (4, qF4 ad g)
  | 48 => .inr (1, qF1 48 ad g)
  | 49 => .inl (G.2.1, 10, .inl g)
  | 50 => .inl (G.2.1, 10, .inl g)
  | 51 => .inl (G.2.1, 10, .inl g)
  | 52 => .inl (G.2.1, 8, .inl g)
  | 53 => .inl (G.2.1, 8, .inl g)
  | 54 => .inl (G.2.1, 8, .inl g)
  | 55 => .inl (G.2.1, 8, .inl g)
  | 56 => .inl (G.2.1, 8, .inl g)
  | 57 => .inl (G.2.1, 8, .inl g)
  | 58 => .inl (G.2.1, 8, .inl g)
  | 59 => .inl (G.2.1, 8, .inl g)
  | 60 => .inr (0, qF0 60 ad g)
  | 61 => .inl (G.2.1, 10, .inl g)
  | 62 => .inl (G.2.1, 10, .inl g)
  | 63 => .inr (6, qF6 63 ad g)
  | 64 => .inl (G.2.1, 10, .inl g)
  | 65 => .inr (3, qF3 ad g)
  | 66 => .inr (6, qF6 66 ad g)
  | 67 => .inl (G.2.1, 10, .inl g)
  | 68 => .inl (G.2.1, 10, .inl g)
  | 69 => .inl (G.2.1, 25, .inl g)
  | 70 => .inr (5, qF5 ad g)
  | 71 => .inl (G.2.1, 3, .inl g)
  | 72 => .inl (G.2.1, 3, .inl g)
  | 73 => .inl (G.2.1, 300, .inl g)
  | 74 => .inl (G.2.1, 300, .inl g)
  | _ => .inr (0, [])
def e2 : qE := fun G ad g k => match k with
  | 0 => .inr (8, qF8 ad g)
  | 1 => .inl (G.2.1, 36, .inl g)
  | 2 => .inl (G.2.1, 36, .inl g)
  | 3 => .inl (G.2.1, 8, .inl g)
  | 4 => .inl (G.2.1, 8, .inl g)
  | 5 => .inl (G.2.1, 8, .inl g)
  | 6 => .inl (G.2.1, 10, .inl g)
  | 7 => .inl (G.2.1, 10, .inl g)
  | 8 => .inl (G.2.1, 16, .inl g)
  | 9 => .inl (G.2.1, 60, .inl g)
  | 10 => .inl (G.2.1, 10, .inl g)
  | 11 => .inl (G.2.1, 10, .inl g)
  | 12 => .inl (G.2.2.1, 10000, .inl g)
  | 13 => .inl (G.2.1, 100, .inl g)
  | 14 => .inl (G.2.1, 25, .inl g)
  | 15 => .inl (G.2.1, 220, .inl g)
  | 16 => .inl (G.2.2.1, 2, .inl g)
  | _ => .inr (0, [])
def qMi (b : Nat) : Prop := b = 1 ∨ b = 14 ∨ b = 26 ∨ b = 48
def qLa (b : Nat) : Prop := b = 44 ∨ b = 60
def qWy (b : Nat) : Prop := b = 63 ∨ b = 66
theorem qMi_ob {b : Nat} (w : qMi b) : qOb W1N e1 b 1 (qF1 b) := by
  rcases w with rfl | rfl | rfl | rfl <;> exact ⟨by decide, fun _ _ _ => rfl⟩
theorem qMi_a1 {b : Nat} (w : qMi b) : qAr W1N e1 (b + 1) 10 := by
  rcases w with rfl | rfl | rfl | rfl <;> exact ⟨by decide, fun _ _ _ => rfl⟩
theorem qMi_a2 {b : Nat} (w : qMi b) : qAr W1N e1 (b + 2) 10 := by
  rcases w with rfl | rfl | rfl | rfl <;> exact ⟨by decide, fun _ _ _ => rfl⟩
theorem qMi_a3 {b : Nat} (w : qMi b) : qAr W1N e1 (b + 3) 10 := by
  rcases w with rfl | rfl | rfl | rfl <;> exact ⟨by decide, fun _ _ _ => rfl⟩
theorem qMi_a4 {b : Nat} (w : qMi b) : qAr W1N e1 (b + 4) 8 := by
  rcases w with rfl | rfl | rfl | rfl <;> exact ⟨by decide, fun _ _ _ => rfl⟩
theorem qMi_a5 {b : Nat} (w : qMi b) : qAr W1N e1 (b + 5) 8 := by
  rcases w with rfl | rfl | rfl | rfl <;> exact ⟨by decide, fun _ _ _ => rfl⟩
theorem qMi_a6 {b : Nat} (w : qMi b) : qAr W1N e1 (b + 6) 8 := by
  rcases w with rfl | rfl | rfl | rfl <;> exact ⟨by decide, fun _ _ _ => rfl⟩
theorem qMi_a7 {b : Nat} (w : qMi b) : qAr W1N e1 (b + 7) 8 := by
  rcases w with rfl | rfl | rfl | rfl <;> exact ⟨by decide, fun _ _ _ => rfl⟩
theorem qMi_a8 {b : Nat} (w : qMi b) : qAr W1N e1 (b + 8) 8 := by
  rcases w with rfl | rfl | rfl | rfl <;> exact ⟨by decide, fun _ _ _ => rfl⟩
theorem qMi_a9 {b : Nat} (w : qMi b) : qAr W1N e1 (b + 9) 8 := by
  rcases w with rfl | rfl | rfl | rfl <;> exact ⟨by decide, fun _ _ _ => rfl⟩
theorem qMi_a10 {b : Nat} (w : qMi b) : qAr W1N e1 (b + 10) 8 := by
  rcases w with rfl | rfl | rfl | rfl <;> exact ⟨by decide, fun _ _ _ => rfl⟩
theorem qMi_a11 {b : Nat} (w : qMi b) : qAr W1N e1 (b + 11) 8 := by
  rcases w with rfl | rfl | rfl | rfl <;> exact ⟨by decide, fun _ _ _ => rfl⟩
theorem qMi_1 : qMi 1 := Or.inl rfl
theorem qMi_48 : qMi 48 := Or.inr (Or.inr (Or.inr rfl))
theorem qMi_im (i : Nat) : qMi (qIm i) := by
  unfold qIm
  by_cases h : i = 0
  · rw [if_pos h]; exact Or.inr (Or.inl rfl)
  · rw [if_neg h]; exact Or.inr (Or.inr (Or.inl rfl))
theorem qLa_ob {b : Nat} (w : qLa b) : qOb W1N e1 b 0 (qF0 b) := by
  rcases w with rfl | rfl <;> exact ⟨by decide, fun _ _ _ => rfl⟩
theorem qLa_a1 {b : Nat} (w : qLa b) : qAr W1N e1 (b + 1) 10 := by
  rcases w with rfl | rfl <;> exact ⟨by decide, fun _ _ _ => rfl⟩
theorem qLa_a2 {b : Nat} (w : qLa b) : qAr W1N e1 (b + 2) 10 := by
  rcases w with rfl | rfl <;> exact ⟨by decide, fun _ _ _ => rfl⟩
theorem qWy_ob {b : Nat} (w : qWy b) : qOb W1N e1 b 6 (qF6 b) := by
  rcases w with rfl | rfl <;> exact ⟨by decide, fun _ _ _ => rfl⟩
theorem qWy_a1 {b : Nat} (w : qWy b) : qAr W1N e1 (b + 1) 10 := by
  rcases w with rfl | rfl <;> exact ⟨by decide, fun _ _ _ => rfl⟩
theorem qLa_44 : qLa 44 := Or.inl rfl
theorem qLa_60 : qLa 60 := Or.inr rfl
theorem qWy_63 : qWy 63 := Or.inl rfl
theorem qWy_66 : qWy 66 := Or.inr rfl
theorem qOb_7 : qOb W1N e1 0 7 qF7 := ⟨by decide, fun _ _ _ => rfl⟩
theorem qOb_2 : qOb W1N e1 39 2 qF2 := ⟨by decide, fun _ _ _ => rfl⟩
theorem qOb_3 : qOb W1N e1 65 3 qF3 := ⟨by decide, fun _ _ _ => rfl⟩
theorem qOb_4 : qOb W1N e1 47 4 qF4 := ⟨by decide, fun _ _ _ => rfl⟩
theorem qOb_5 : qOb W1N e1 70 5 qF5 := ⟨by decide, fun _ _ _ => rfl⟩
theorem qOb_8 : qOb W2N e2 0 8 qF8 := ⟨by decide, fun _ _ _ => rfl⟩
theorem qAo_13 : qAo W1N e1 13 2 qIm := ⟨by decide, fun _ _ _ => rfl⟩
theorem qAz_38 : qAz W1N e1 38 2 := ⟨by decide, fun _ _ _ => rfl⟩
theorem qAr_40 : qAr W1N e1 40 60 := ⟨by decide, fun _ _ _ => rfl⟩
theorem qAr_41 : qAr W1N e1 41 60 := ⟨by decide, fun _ _ _ => rfl⟩
theorem qAr_42 : qAr W1N e1 42 60 := ⟨by decide, fun _ _ _ => rfl⟩
theorem qAr_43 : qAr W1N e1 43 60 := ⟨by decide, fun _ _ _ => rfl⟩
theorem qAr_68 : qAr W1N e1 68 10 := ⟨by decide, fun _ _ _ => rfl⟩
theorem qAr_69 : qAr W1N e1 69 25 := ⟨by decide, fun _ _ _ => rfl⟩
theorem qAr_71 : qAr W1N e1 71 3 := ⟨by decide, fun _ _ _ => rfl⟩
theorem qAr_72 : qAr W1N e1 72 3 := ⟨by decide, fun _ _ _ => rfl⟩
theorem qAr_73 : qAr W1N e1 73 300 := ⟨by decide, fun _ _ _ => rfl⟩
theorem qAr_74 : qAr W1N e1 74 300 := ⟨by decide, fun _ _ _ => rfl⟩
theorem qMr_1 : qAr W2N e2 1 36 := ⟨by decide, fun _ _ _ => rfl⟩
theorem qMr_2 : qAr W2N e2 2 36 := ⟨by decide, fun _ _ _ => rfl⟩
theorem qMr_3 : qAr W2N e2 3 8 := ⟨by decide, fun _ _ _ => rfl⟩
theorem qMr_4 : qAr W2N e2 4 8 := ⟨by decide, fun _ _ _ => rfl⟩
theorem qMr_5 : qAr W2N e2 5 8 := ⟨by decide, fun _ _ _ => rfl⟩
theorem qMr_6 : qAr W2N e2 6 10 := ⟨by decide, fun _ _ _ => rfl⟩
theorem qMr_7 : qAr W2N e2 7 10 := ⟨by decide, fun _ _ _ => rfl⟩
theorem qMr_8 : qAr W2N e2 8 16 := ⟨by decide, fun _ _ _ => rfl⟩
theorem qMr_9 : qAr W2N e2 9 60 := ⟨by decide, fun _ _ _ => rfl⟩
theorem qMr_10 : qAr W2N e2 10 10 := ⟨by decide, fun _ _ _ => rfl⟩
theorem qMr_11 : qAr W2N e2 11 10 := ⟨by decide, fun _ _ _ => rfl⟩
theorem qMr_12 : qAz W2N e2 12 10000 := ⟨by decide, fun _ _ _ => rfl⟩
theorem qMr_13 : qAr W2N e2 13 100 := ⟨by decide, fun _ _ _ => rfl⟩
theorem qMr_14 : qAr W2N e2 14 25 := ⟨by decide, fun _ _ _ => rfl⟩
theorem qMr_15 : qAr W2N e2 15 220 := ⟨by decide, fun _ _ _ => rfl⟩
theorem qMr_16 : qAz W2N e2 16 2 := ⟨by decide, fun _ _ _ => rfl⟩
