def qNest : List (String × Nat × MethodName × String) := [(RX1, 79, yX7_isVoice, "SongLamps"), (RX1, 83, yX7_has, "SongLamps"), (RX3, 11, yX6_init, "SongLamps"), (RX3, 89, yX7_has, "SongLamps"), (RX3, 93, yX7_leastOf, "SongLamps"), (RX4, 33, yX0_init, "SongLamps"), (RX4, 80, yX7_leastOf, "SongLamps"), (RX4, 115, yX7_has, "SongLamps"), (RX6, 21, yX7_has, "SongLamps"), (RX7, 26, yX2_init, "SongLamps"), (RX7, 33, yX0_init, "SongLamps"), (RX7, 40, yX4_init, "SongLamps"), (RX7, 47, yX6_init, "SongLamps"), (RX7, 54, yX3_init, "SongLamps"), (RX7, 61, yX5_init, "SongLamps")]
/-! BASE: pure programs over a picture of the cells (qM), and the machine's rows over it -/
abbrev qM : Type := Nat → Nat → Int32
abbrev qG : Type := va_G × ClassId × ClassId × ClassId
abbrev qE : Type := qG → (Nat → Nat) → (Nat → Int32) → Nat → va_E
def qOk {α : Type} (x : Option α) (P : α → Prop) : Prop := ∃ a, x = some a ∧ P a
def qOk2 {α β : Type} (x : Option (α × β)) (P : α → β → Prop) : Prop := qOk x (fun o => P o.1 o.2)
def qvl {α β : Type} (x : α) (F : α → Option β) : Option β := F x
def qck {β : Type} (i : Int32) (n : Nat) (F : Option β) : Option β := if i < 0 ∨ n ≤ i.toNatClampNeg then none else F
def qnz {β : Type} (y : Int32) (F : Option β) : Option β := if y = 0 then none else F
def qnl {β : Type} (y : Int64) (F : Option β) : Option β := if y = 0 then none else F
def qbl {β : Type} (y : Int32) (F : Option β) : Option β := if y &&& 1 = y then F else none
def qrd {β : Type} (f : Nat → Int32) (n : Nat) (i : Int32) (F : Int32 → Option β) : Option β := qck i n (F (f i.toNatClampNeg))
def qst (M : qM) (k i : Nat) (v : Int32) : qM := fun a => if a = k then upd (M a) i v else M a
def qcp (M : qM) (k : Nat) (f : Nat → Int32) : qM := fun a => if a = k then f else M a
def qwr {β : Type} (M : qM) (k n : Nat) (i v : Int32) (F : qM → Option β) : Option β := qck i n (F (qst M k i.toNatClampNeg v))
def qb1 {α β : Type} (x : Option α) (F : α → Option β) : Option β := x.bind F
def qb0 {β : Type} (x : Option Unit) (F : Option β) : Option β := x.bind (fun _ => F)
def qb2 {α1 α2 β : Type} (x : Option (α1 × α2)) (F : α1 → α2 → Option β) : Option β := x.bind (fun p => F p.1 p.2)
def qb3 {α1 α2 α3 β : Type} (x : Option (α1 × α2 × α3)) (F : α1 → α2 → α3 → Option β) : Option β := x.bind (fun p => F p.1 p.2.1 p.2.2)
def qb4 {α1 α2 α3 α4 β : Type} (x : Option (α1 × α2 × α3 × α4)) (F : α1 → α2 → α3 → α4 → Option β) : Option β := x.bind (fun p => F p.1 p.2.1 p.2.2.1 p.2.2.2)
def qb5 {α1 α2 α3 α4 α5 β : Type} (x : Option (α1 × α2 × α3 × α4 × α5)) (F : α1 → α2 → α3 → α4 → α5 → Option β) : Option β := x.bind (fun p => F p.1 p.2.1 p.2.2.1 p.2.2.2.1 p.2.2.2.2)
def qb6 {α1 α2 α3 α4 α5 α6 β : Type} (x : Option (α1 × α2 × α3 × α4 × α5 × α6)) (F : α1 → α2 → α3 → α4 → α5 → α6 → Option β) : Option β := x.bind (fun p => F p.1 p.2.1 p.2.2.1 p.2.2.2.1 p.2.2.2.2.1 p.2.2.2.2.2)
/-- a loop's end: by a return (left), or behind it (right) -/
def qex0 {ρ β : Type} (x : Option (ρ ⊕ Unit)) (r : ρ → Option β) (F : Option β) : Option β := x.bind (Sum.elim r (fun _ => F))
def qex1 {ρ ε β : Type} (x : Option (ρ ⊕ ε)) (r : ρ → Option β) (F : ε → Option β) : Option β := x.bind (Sum.elim r F)
def qex2 {ρ α1 α2 β : Type} (x : Option (ρ ⊕ (α1 × α2))) (r : ρ → Option β) (F : α1 → α2 → Option β) : Option β := x.bind (Sum.elim r (fun p => F p.1 p.2))
def qex3 {ρ α1 α2 α3 β : Type} (x : Option (ρ ⊕ (α1 × α2 × α3))) (r : ρ → Option β) (F : α1 → α2 → α3 → Option β) : Option β := x.bind (Sum.elim r (fun p => F p.1 p.2.1 p.2.2))
def qex4 {ρ α1 α2 α3 α4 β : Type} (x : Option (ρ ⊕ (α1 × α2 × α3 × α4))) (r : ρ → Option β) (F : α1 → α2 → α3 → α4 → Option β) : Option β := x.bind (Sum.elim r (fun p => F p.1 p.2.1 p.2.2.1 p.2.2.2))
def qlp {S E : Type} (f : S → Option (S ⊕ E)) : Nat → S → Option E
  | 0, _ => none
  | n + 1, s => (f s).bind (Sum.elim (qlp f n) some)
theorem qOk.s {α : Type} {a : α} {P : α → Prop} (h : qOk (some a) P) : P a := by
  obtain ⟨b, h1, h2⟩ := h
  cases h1
  exact h2
theorem qOk.of {α : Type} {x : Option α} {a : α} {P : α → Prop} (h : x = some a) (hP : P a) : qOk x P := ⟨a, h, hP⟩
theorem qOk.m {α : Type} {x : Option α} {P P' : α → Prop} (h : qOk x P) (hm : ∀ a, P a → P' a) : qOk x P' := by
  obtain ⟨a, h1, h2⟩ := h
  exact ⟨a, h1, hm a h2⟩
theorem qOk.bd {α β : Type} {x : Option α} {F : α → Option β} {P : β → Prop} (h : qOk (x.bind F) P) : qOk x (fun a => qOk (F a) P) := by
  obtain ⟨b, h1, h2⟩ := h
  cases x with
  | none => cases h1
  | some a => exact ⟨a, rfl, b, h1, h2⟩
theorem qOk.t {α : Type} {c : Prop} {D : Decidable c} {x y : Option α} {P : α → Prop} (hc : c) (h : qOk (@ite _ c D x y) P) : qOk x P := by rwa [if_pos hc] at h
theorem qOk.f {α : Type} {c : Prop} {D : Decidable c} {x y : Option α} {P : α → Prop} (hc : ¬ c) (h : qOk (@ite _ c D x y) P) : qOk y P := by rwa [if_neg hc] at h
theorem qOk.ck {β : Type} {i : Int32} {n : Nat} {F : Option β} {P : β → Prop} (h : qOk (qck i n F) P) : vp_in i n ∧ qOk F P := by
  unfold qck at h
  by_cases hc : i < 0 ∨ n ≤ i.toNatClampNeg
  · rw [if_pos hc] at h
    obtain ⟨b, h1, -⟩ := h
    cases h1
  · rw [if_neg hc] at h
    exact ⟨hc, h⟩
theorem qOk.nz {β : Type} {y : Int32} {F : Option β} {P : β → Prop} (h : qOk (qnz y F) P) : ¬ y = 0 ∧ qOk F P := by
  unfold qnz at h
  by_cases hc : y = 0
  · rw [if_pos hc] at h
    obtain ⟨b, h1, -⟩ := h
    cases h1
  · rw [if_neg hc] at h
    exact ⟨hc, h⟩
theorem qOk.nl {β : Type} {y : Int64} {F : Option β} {P : β → Prop} (h : qOk (qnl y F) P) : ¬ y = 0 ∧ qOk F P := by
  unfold qnl at h
  by_cases hc : y = 0
  · rw [if_pos hc] at h
    obtain ⟨b, h1, -⟩ := h
    cases h1
  · rw [if_neg hc] at h
    exact ⟨hc, h⟩
theorem qOk.bl {β : Type} {y : Int32} {F : Option β} {P : β → Prop} (h : qOk (qbl y F) P) : y &&& 1 = y ∧ qOk F P := by
  unfold qbl at h
  by_cases hc : y &&& 1 = y
  · rw [if_pos hc] at h
    exact ⟨hc, h⟩
  · rw [if_neg hc] at h
    obtain ⟨b, h1, -⟩ := h
    cases h1
theorem qOk.v {α β : Type} {x y : α} {F : α → Option β} {P : β → Prop} (h : qOk (qvl x F) P) (e : y = x) : qOk (F y) P := by subst e; exact h
theorem qOk.l0 {S E : Type} {f : S → Option (S ⊕ E)} {s : S} {P : E → Prop} (h : qOk (qlp f 0 s) P) : False := by
  obtain ⟨b, h1, -⟩ := h
  cases h1
theorem qOk.l {S E : Type} {f : S → Option (S ⊕ E)} {n : Nat} {s : S} {P : E → Prop} (h : qOk (qlp f (n + 1) s) P) : qOk (f s) (Sum.elim (fun t => qOk (qlp f n t) P) P) := by
  have h := qOk.bd h
  refine qOk.m h (fun a h => ?_)
  cases a with
  | inl t => exact h
  | inr e =>
    have h : qOk (some e) P := h
    have h2 := qOk.s h
    exact h2
/-- a region and what comes behind it: G is the goal there -/
theorem qj1 {α β : Type} {x : Option α} {F : α → Option β} {P : β → Prop} {G : α → Prop} {Z : Prop} (h : qOk (qb1 x F) P) (k : ∀ a, qOk (F a) P → G a) (z : qOk x G → Z) : Z := z (qOk.m (qOk.bd h) k)
theorem qj0 {β : Type} {x : Option Unit} {F : Option β} {P : β → Prop} {G : Prop} {Z : Prop} (h : qOk (qb0 x F) P) (k : qOk F P → G) (z : qOk x (fun _ => G) → Z) : Z := z (qOk.m (qOk.bd h) (fun _ => k))
theorem qj2 {α1 α2 β : Type} {x : Option (α1 × α2)} {F : α1 → α2 → Option β} {P : β → Prop} {G : α1 → α2 → Prop} {Z : Prop} (h : qOk (qb2 x F) P) (k : ∀ a b, qOk (F a b) P → G a b) (z : qOk x (fun p => G p.1 p.2) → Z) : Z := z (qOk.m (qOk.bd h) (fun _ => k _ _))
theorem qj3 {α1 α2 α3 β : Type} {x : Option (α1 × α2 × α3)} {F : α1 → α2 → α3 → Option β} {P : β → Prop} {G : α1 → α2 → α3 → Prop} {Z : Prop} (h : qOk (qb3 x F) P) (k : ∀ a b c, qOk (F a b c) P → G a b c) (z : qOk x (fun p => G p.1 p.2.1 p.2.2) → Z) : Z := z (qOk.m (qOk.bd h) (fun _ => k _ _ _))
theorem qj4 {α1 α2 α3 α4 β : Type} {x : Option (α1 × α2 × α3 × α4)} {F : α1 → α2 → α3 → α4 → Option β} {P : β → Prop} {G : α1 → α2 → α3 → α4 → Prop} {Z : Prop} (h : qOk (qb4 x F) P) (k : ∀ a b c d, qOk (F a b c d) P → G a b c d) (z : qOk x (fun p => G p.1 p.2.1 p.2.2.1 p.2.2.2) → Z) : Z := z (qOk.m (qOk.bd h) (fun _ => k _ _ _ _))
theorem qj5 {α1 α2 α3 α4 α5 β : Type} {x : Option (α1 × α2 × α3 × α4 × α5)} {F : α1 → α2 → α3 → α4 → α5 → Option β} {P : β → Prop} {G : α1 → α2 → α3 → α4 → α5 → Prop} {Z : Prop} (h : qOk (qb5 x F) P) (k : ∀ a b c d e, qOk (F a b c d e) P → G a b c d e) (z : qOk x (fun p => G p.1 p.2.1 p.2.2.1 p.2.2.2.1 p.2.2.2.2) → Z) : Z := z (qOk.m (qOk.bd h) (fun _ => k _ _ _ _ _))
theorem qj6 {α1 α2 α3 α4 α5 α6 β : Type} {x : Option (α1 × α2 × α3 × α4 × α5 × α6)} {F : α1 → α2 → α3 → α4 → α5 → α6 → Option β} {P : β → Prop} {G : α1 → α2 → α3 → α4 → α5 → α6 → Prop} {Z : Prop} (h : qOk (qb6 x F) P) (k : ∀ a b c d e f, qOk (F a b c d e f) P → G a b c d e f) (z : qOk x (fun p => G p.1 p.2.1 p.2.2.1 p.2.2.2.1 p.2.2.2.2.1 p.2.2.2.2.2) → Z) : Z := z (qOk.m (qOk.bd h) (fun _ => k _ _ _ _ _ _))
/-- a loop that may also return: the return is the method's own end -/
theorem qjx1 {ρ ε β : Type} {x : Option (ρ ⊕ ε)} {r : ρ → Option β} {F : ε → Option β} {P : β → Prop} {G : ε → Prop} {Z : Prop} (h : qOk (qex1 x r F) P) (k : ∀ a, qOk (F a) P → G a) (z : qOk x (Sum.elim (fun a => qOk (r a) P) G) → Z) : Z := by
  refine z (qOk.m (qOk.bd h) (fun a h => ?_))
  cases a with
  | inl t => exact h
  | inr e => exact k e h
theorem qjx0 {ρ β : Type} {x : Option (ρ ⊕ Unit)} {r : ρ → Option β} {F : Option β} {P : β → Prop} {G : Prop} {Z : Prop} (h : qOk (qex0 x r F) P) (k : qOk F P → G) (z : qOk x (Sum.elim (fun a => qOk (r a) P) (fun _ => G)) → Z) : Z := qjx1 (F := fun _ => F) (G := fun _ => G) h (fun _ => k) z
theorem qjx2 {ρ α1 α2 β : Type} {x : Option (ρ ⊕ (α1 × α2))} {r : ρ → Option β} {F : α1 → α2 → Option β} {P : β → Prop} {G : α1 → α2 → Prop} {Z : Prop} (h : qOk (qex2 x r F) P) (k : ∀ a1 a2, qOk (F a1 a2) P → G a1 a2) (z : qOk x (Sum.elim (fun a => qOk (r a) P) (fun p => G p.1 p.2)) → Z) : Z := qjx1 (ε := α1 × α2) (F := fun p => F p.1 p.2) (G := fun p => G p.1 p.2) h (fun p => k _ _) z
theorem qjx3 {ρ α1 α2 α3 β : Type} {x : Option (ρ ⊕ (α1 × α2 × α3))} {r : ρ → Option β} {F : α1 → α2 → α3 → Option β} {P : β → Prop} {G : α1 → α2 → α3 → Prop} {Z : Prop} (h : qOk (qex3 x r F) P) (k : ∀ a1 a2 a3, qOk (F a1 a2 a3) P → G a1 a2 a3) (z : qOk x (Sum.elim (fun a => qOk (r a) P) (fun p => G p.1 p.2.1 p.2.2)) → Z) : Z := qjx1 (ε := α1 × α2 × α3) (F := fun p => F p.1 p.2.1 p.2.2) (G := fun p => G p.1 p.2.1 p.2.2) h (fun p => k _ _ _) z
theorem qjx4 {ρ α1 α2 α3 α4 β : Type} {x : Option (ρ ⊕ (α1 × α2 × α3 × α4))} {r : ρ → Option β} {F : α1 → α2 → α3 → α4 → Option β} {P : β → Prop} {G : α1 → α2 → α3 → α4 → Prop} {Z : Prop} (h : qOk (qex4 x r F) P) (k : ∀ a1 a2 a3 a4, qOk (F a1 a2 a3 a4) P → G a1 a2 a3 a4) (z : qOk x (Sum.elim (fun a => qOk (r a) P) (fun p => G p.1 p.2.1 p.2.2.1 p.2.2.2)) → Z) : Z := qjx1 (ε := α1 × α2 × α3 × α4) (F := fun p => F p.1 p.2.1 p.2.2.1 p.2.2.2) (G := fun p => G p.1 p.2.1 p.2.2.1 p.2.2.2) h (fun p => k _ _ _ _) z
theorem qOk.li {S E : Type} {s : S} {I : S → Prop} {P : E → Prop} (h : qOk (some (Sum.inl s : S ⊕ E)) (Sum.elim I P)) : I s := by
  obtain ⟨b, h1, h2⟩ := h
  cases h1
  exact h2
theorem qOk.le {S E : Type} {e : E} {I : S → Prop} {P : E → Prop} (h : qOk (some (Sum.inr e : S ⊕ E)) (Sum.elim I P)) : P e := by
  obtain ⟨b, h1, h2⟩ := h
  cases h1
  exact h2
theorem qOk.lx {S ρ E : Type} {e : E} {I : S → Prop} {P : ρ → Prop} {G : E → Prop} (h : qOk (some (Sum.inr (Sum.inr e) : S ⊕ (ρ ⊕ E))) (Sum.elim I (Sum.elim P G))) : G e := by
  obtain ⟨b, h1, h2⟩ := h
  cases h1
  exact h2
theorem qOk.lr {S ρ E β : Type} {x : ρ} {I : S → Prop} {r : ρ → Option β} {P : β → Prop} {G : E → Prop} (h : qOk (some (Sum.inr (Sum.inl x) : S ⊕ (ρ ⊕ E))) (Sum.elim I (Sum.elim (fun a => qOk (r a) P) G))) : qOk (r x) P := by
  obtain ⟨b, h1, h2⟩ := h
  cases h1
  exact h2
theorem qloop1 {S E : Type} {f : S → Option (S ⊕ E)} {P : E → Prop} {I : S → Prop} (step : ∀ s, qOk (f s) (Sum.elim I P) → I s) {n : Nat} {s : S} (h : qOk (qlp f n s) P) : I s := by
  induction n generalizing s with
  | zero => exact (qOk.l0 h).elim
  | succ n ih =>
    refine step s (qOk.m (qOk.l h) (fun a h => ?_))
    cases a with
    | inl t => exact ih h
    | inr e => exact h
theorem qloop2 {α1 α2 E : Type} {f : (α1 × α2) → Option ((α1 × α2) ⊕ E)} {P : E → Prop} {I : α1 → α2 → Prop} (step : ∀ a1 a2, qOk (f (a1, a2)) (Sum.elim (fun s => I s.1 s.2) P) → I a1 a2) {n : Nat} {a1 : α1} {a2 : α2} (h : qOk (qlp f n (a1, a2)) P) : I a1 a2 := qloop1 (I := fun s => I s.1 s.2) (fun s h => step _ _ h) h
theorem qloop3 {α1 α2 α3 E : Type} {f : (α1 × α2 × α3) → Option ((α1 × α2 × α3) ⊕ E)} {P : E → Prop} {I : α1 → α2 → α3 → Prop} (step : ∀ a1 a2 a3, qOk (f (a1, a2, a3)) (Sum.elim (fun s => I s.1 s.2.1 s.2.2) P) → I a1 a2 a3) {n : Nat} {a1 : α1} {a2 : α2} {a3 : α3} (h : qOk (qlp f n (a1, a2, a3)) P) : I a1 a2 a3 := qloop1 (I := fun s => I s.1 s.2.1 s.2.2) (fun s h => step _ _ _ h) h
theorem qloop4 {α1 α2 α3 α4 E : Type} {f : (α1 × α2 × α3 × α4) → Option ((α1 × α2 × α3 × α4) ⊕ E)} {P : E → Prop} {I : α1 → α2 → α3 → α4 → Prop} (step : ∀ a1 a2 a3 a4, qOk (f (a1, a2, a3, a4)) (Sum.elim (fun s => I s.1 s.2.1 s.2.2.1 s.2.2.2) P) → I a1 a2 a3 a4) {n : Nat} {a1 : α1} {a2 : α2} {a3 : α3} {a4 : α4} (h : qOk (qlp f n (a1, a2, a3, a4)) P) : I a1 a2 a3 a4 := qloop1 (I := fun s => I s.1 s.2.1 s.2.2.1 s.2.2.2) (fun s h => step _ _ _ _ h) h
theorem qloop5 {α1 α2 α3 α4 α5 E : Type} {f : (α1 × α2 × α3 × α4 × α5) → Option ((α1 × α2 × α3 × α4 × α5) ⊕ E)} {P : E → Prop} {I : α1 → α2 → α3 → α4 → α5 → Prop} (step : ∀ a1 a2 a3 a4 a5, qOk (f (a1, a2, a3, a4, a5)) (Sum.elim (fun s => I s.1 s.2.1 s.2.2.1 s.2.2.2.1 s.2.2.2.2) P) → I a1 a2 a3 a4 a5) {n : Nat} {a1 : α1} {a2 : α2} {a3 : α3} {a4 : α4} {a5 : α5} (h : qOk (qlp f n (a1, a2, a3, a4, a5)) P) : I a1 a2 a3 a4 a5 := qloop1 (I := fun s => I s.1 s.2.1 s.2.2.1 s.2.2.2.1 s.2.2.2.2) (fun s h => step _ _ _ _ _ h) h
theorem qloop6 {α1 α2 α3 α4 α5 α6 E : Type} {f : (α1 × α2 × α3 × α4 × α5 × α6) → Option ((α1 × α2 × α3 × α4 × α5 × α6) ⊕ E)} {P : E → Prop} {I : α1 → α2 → α3 → α4 → α5 → α6 → Prop} (step : ∀ a1 a2 a3 a4 a5 a6, qOk (f (a1, a2, a3, a4, a5, a6)) (Sum.elim (fun s => I s.1 s.2.1 s.2.2.1 s.2.2.2.1 s.2.2.2.2.1 s.2.2.2.2.2) P) → I a1 a2 a3 a4 a5 a6) {n : Nat} {a1 : α1} {a2 : α2} {a3 : α3} {a4 : α4} {a5 : α5} {a6 : α6} (h : qOk (qlp f n (a1, a2, a3, a4, a5, a6)) P) : I a1 a2 a3 a4 a5 a6 := qloop1 (I := fun s => I s.1 s.2.1 s.2.2.1 s.2.2.2.1 s.2.2.2.2.1 s.2.2.2.2.2) (fun s h => step _ _ _ _ _ _ h) h
theorem qloop7 {α1 α2 α3 α4 α5 α6 α7 E : Type} {f : (α1 × α2 × α3 × α4 × α5 × α6 × α7) → Option ((α1 × α2 × α3 × α4 × α5 × α6 × α7) ⊕ E)} {P : E → Prop} {I : α1 → α2 → α3 → α4 → α5 → α6 → α7 → Prop} (step : ∀ a1 a2 a3 a4 a5 a6 a7, qOk (f (a1, a2, a3, a4, a5, a6, a7)) (Sum.elim (fun s => I s.1 s.2.1 s.2.2.1 s.2.2.2.1 s.2.2.2.2.1 s.2.2.2.2.2.1 s.2.2.2.2.2.2) P) → I a1 a2 a3 a4 a5 a6 a7) {n : Nat} {a1 : α1} {a2 : α2} {a3 : α3} {a4 : α4} {a5 : α5} {a6 : α6} {a7 : α7} (h : qOk (qlp f n (a1, a2, a3, a4, a5, a6, a7)) P) : I a1 a2 a3 a4 a5 a6 a7 := qloop1 (I := fun s => I s.1 s.2.1 s.2.2.1 s.2.2.2.1 s.2.2.2.2.1 s.2.2.2.2.2.1 s.2.2.2.2.2.2) (fun s h => step _ _ _ _ _ _ _ h) h
theorem qOk.b2 {α1 α2 β : Type} {x : Option (α1 × α2)} {F : α1 → α2 → Option β} {P : β → Prop} (h : qOk (qb2 x F) P) : qOk2 x (fun a b => qOk (F a b) P) := qOk.bd h
theorem qOk.b1 {α β : Type} {x : Option α} {F : α → Option β} {P : β → Prop} (h : qOk (qb1 x F) P) : qOk x (fun a => qOk (F a) P) := qOk.bd h
theorem qOk2.s {α β : Type} {a : α} {b : β} {P : α → β → Prop} (h : qOk2 (some (a, b)) P) : P a b := by
  obtain ⟨c, h1, h2⟩ := h
  cases h1
  exact h2
/-! the world: N cells, cell k at the address ad k, what it holds by E and by the picture M -/
def qWl (N : Nat) (E : qE) (G : qG) (ad : Nat → Nat) (M : qM) : va_W := (List.range N).map fun k => (ad k, E G ad (M k) k)
def qA (N : Nat) (ad : Nat → Nat) (sz : Nat) : Nat → Prop := fun q => (∃ k, k < N ∧ q = ad k) ∨ sz ≤ q
def qI (N : Nat) (ad : Nat → Nat) : Prop := ∀ i j, i < N → j < N → ad i = ad j → i = j
theorem qWl_get {N : Nat} {E : qE} {G : qG} {ad : Nat → Nat} {M : qM} {k : Nat} (hk : k < N) : (qWl N E G ad M)[k]? = some (ad k, E G ad (M k) k) := by
  unfold qWl
  rw [List.getElem?_map, List.getElem?_range hk]
  rfl
theorem qWl_inv {N : Nat} {E : qE} {G : qG} {ad : Nat → Nat} {M : qM} {k : Nat} {q : Nat × va_E} (h : (qWl N E G ad M)[k]? = some q) : k < N ∧ q = (ad k, E G ad (M k) k) := by
  have hk : k < N := by
    have := (List.getElem?_eq_some_iff.mp h).1
    simpa [qWl] using this
  rw [qWl_get hk] at h
  exact ⟨hk, (Option.some.inj h).symm⟩
theorem qWl_set {N : Nat} {E : qE} {G : qG} {ad : Nat → Nat} {M M' : qM} {k : Nat} {e : va_E} (hk : k < N) (he : E G ad (M' k) k = e) (ho : ∀ j, j ≠ k → M' j = M j) : (qWl N E G ad M).set k (ad k, e) = qWl N E G ad M' := by
  refine List.ext_getElem? (fun j => ?_)
  have hl : (qWl N E G ad M).length = N := by simp [qWl]
  by_cases hj : j = k
  · subst hj
    rw [List.getElem?_set_self (by rw [hl]; exact hk), qWl_get hk, he]
  · rw [List.getElem?_set_ne (Ne.symm hj)]
    by_cases hn : j < N
    · rw [qWl_get hn, qWl_get hn, ho j hj]
    · rw [List.getElem?_eq_none (by rw [hl]; omega), List.getElem?_eq_none (by simp [qWl]; omega)]
theorem qWl_D {N : Nat} {E : qE} {G : qG} {ad : Nat → Nat} {M : qM} {sz : Nat} (hI : qI N ad) : va_D (qA N ad sz) (qWl N E G ad M) := by
  refine ⟨fun i j p q hp hq h => ?_, fun k q hq => ?_⟩
  · obtain ⟨h1, rfl⟩ := qWl_inv hp
    obtain ⟨h2, rfl⟩ := qWl_inv hq
    exact hI i j h1 h2 h
  · obtain ⟨h1, rfl⟩ := qWl_inv hq
    exact Or.inl ⟨k, h1, rfl⟩
def qTy (G : qG) : List (ClassId × FieldType) := [(G.2.1, .int), (G.2.2.1, .boolean), (G.2.2.2, .object RX1)]
def qK (G : qG) (U : State) : Prop := va_K G.1 vwCl (qTy G) U ∧ ∀ w ∈ qNest, va_Nw (.methodLinkNest w.1 w.2.1 w.2.2.1 w.2.2.2) U
def qHp (N : Nat) (E : qE) (G : qG) (ad : Nat → Nat) (M : qM) (H : Heap) : Prop := va_P G.1 vwCl (qWl N E G ad M) H
def qHS (N : Nat) (E : qE) (G : qG) (ad : Nat → Nat) (M : qM) (H0 H : Heap) (locs : List Loc) : Prop := qHp N E G ad M H ∧ va_S (qA N ad H0.size) H0 H locs
def qPre (N : Nat) (E : qE) (G : qG) (ad : Nat → Nat) (M : qM) (sz : Nat) : State → Prop := fun U => U.heap.size = sz ∧ qK G U ∧ qHp N E G ad M U.heap
theorem qK.moved {G : qG} {u U : State} (hW : u.WarmedH U.vm) (h : qK G u) : qK G U := ⟨va_K.moved hW.alike h.1, fun w hw => va_Nw.warmM hW (h.2 w hw)⟩
theorem qK.same {G : qG} {u U : State} (hv : u.vm = U.vm) (h : qK G u) : qK G U := ⟨va_K.moved (by rw [hv]; exact Vm.Alike.refl _) h.1, fun w hw => va_Nw.same rfl hv (h.2 w hw)⟩
theorem qPre.blind {N : Nat} {E : qE} {G : qG} {ad : Nat → Nat} {M : qM} {sz : Nat} {av : List Value} : FrameBlind (va_Pc av (qPre N E G ad M sz)) := by
  intro a U g mk h
  obtain ⟨h1, h2, h3, h4⟩ := h
  exact ⟨h1, h2, qK.same rfl h3, h4⟩
theorem qPre.at {N : Nat} {E : qE} {G : qG} {ad : Nat → Nat} {M : qM} {H0 H : Heap} {locs : List Loc} {s : State} {av : List Value} (hK : qK G s) (hH : qHS N E G ad M H0 H locs) : ∀ U : State, U.heap = H → s.WarmedH U.vm → va_Pc av (qPre N E G ad M H.size) av.toArray U := fun U hU hW => ⟨rfl, by rw [hU], qK.moved hW hK, by rw [hU]; exact hH.1⟩
theorem qPrT.blind {av : List Value} : FrameBlind (va_Pc av (fun _ => True)) := fun _ _ _ _ h => h
theorem qPrT.at {H : Heap} {s : State} {av : List Value} : ∀ U : State, U.heap = H → s.WarmedH U.vm → va_Pc av (fun _ => True) av.toArray U := fun _ _ _ => ⟨rfl, trivial⟩
theorem qPrK.blind {G : qG} {av : List Value} : FrameBlind (va_Pc av (fun U => qK G U)) := fun _ _ _ _ h => ⟨h.1, qK.same rfl h.2⟩
theorem qPrK.at {G : qG} {H : Heap} {s : State} {av : List Value} (hK : qK G s) : ∀ U : State, U.heap = H → s.WarmedH U.vm → va_Pc av (fun U => qK G U) av.toArray U := fun _ _ hW => ⟨rfl, qK.moved hW hK⟩
theorem qnarb {v : Int32} (h : v &&& 1 = v) : narrow .boolean (.int v) = .int v := by
  show Value.int (v &&& 1) = .int v
  rw [h]
theorem qA_sub {N : Nat} {ad : Nat → Nat} {a b : Nat} (h : a ≤ b) (q : Nat) (hq : qA N ad b q) : qA N ad a q := hq.elim Or.inl (fun z => Or.inr (Nat.le_trans h z))
theorem qHpt {N : Nat} {E : qE} {G : qG} {ad : Nat → Nat} {M : qM} {H : Heap} {t : State} (ht : t.heap = H) (h : qHp N E G ad M H) : qHp N E G ad M t.heap := by rw [ht]; exact h
def qAr (N : Nat) (E : qE) (k n : Nat) : Prop := k < N ∧ ∀ G ad g, E G ad g k = .inl (G.2.1, n, .inl g)
def qAz (N : Nat) (E : qE) (k n : Nat) : Prop := k < N ∧ ∀ G ad g, E G ad g k = .inl (G.2.2.1, n, .inl g)
def qAo (N : Nat) (E : qE) (k n : Nat) (c : Nat → Nat) : Prop := k < N ∧ ∀ G ad g, E G ad g k = .inl (G.2.2.2, n, .inr (.inr (.inr (.inr (fun i => some (ad (c i)))))))
def qOb (N : Nat) (E : qE) (k ci : Nat) (fs : (Nat → Nat) → (Nat → Int32) → List Value) : Prop := k < N ∧ ∀ G ad g, E G ad g k = .inr (ci, fs ad g)
theorem qst_s {M : qM} {k i : Nat} {v : Int32} : qst M k i v k = upd (M k) i v := by simp [qst]
theorem qst_n {M : qM} {k i j : Nat} {v : Int32} (h : j ≠ k) : qst M k i v j = M j := by simp [qst, h]
theorem qcp_s {M : qM} {k : Nat} {f : Nat → Int32} : qcp M k f k = f := by simp [qcp]
theorem qcp_n {M : qM} {k j : Nat} {f : Nat → Int32} (h : j ≠ k) : qcp M k f j = M j := by simp [qcp, h]
section QR
variable {p : Program} {l : Launch} {e : Env} {R : Room} {s : State} {m : MethodId} {args : Array Value} {below : List Frame} {meth : Method} {c : Code} {H : Heap} {locs : List Loc} {cells slots : Nat} {Q : State → Prop}
variable {cc : ByteArray} {pc : Nat} {ls : Array Slot} {rest : List Value} {N : Nat} {E : qE} {G : qG} {ad : Nat → Nat} {M : qM} {β : Type} {P : β → Prop}
theorem y_iald (hx : p.tables.exec = Jvm.exec) (hb : c.code = cc) (hK : qK G s) (hH : qHS N E G ad M s.heap H locs) {k n : Nat} (hk : qAr N E k n) {i : Int32} {F : Int32 → Option β} (h : qOk (qrd (M k) n i F) P) (hdg : decode cc pc = .ok (.iaload, 1))
    (kk : ∀ v : Int32, qOk (F v) P → W p l e R s m args below meth c H locs cells slots Q (F0 m (pc + 1) ls (.int v :: rest))) : W p l e R s m args below meth c H locs cells slots Q (F0 m pc ls (.int i :: .ref (ad k) :: rest)) := by
  obtain ⟨hi, h⟩ := qOk.ck h
  exact va_iald hx hb hK.1 hH.1 k 0 (by rw [qWl_get hk.1, hk.2]) rfl hi hdg (kk _ h)
theorem y_zald (hx : p.tables.exec = Jvm.exec) (hb : c.code = cc) (hK : qK G s) (hH : qHS N E G ad M s.heap H locs) {k n : Nat} (hk : qAz N E k n) {i : Int32} {F : Int32 → Option β} (h : qOk (qrd (M k) n i F) P) (hdg : decode cc pc = .ok (.baload, 1))
    (kk : ∀ v : Int32, qOk (F v) P → W p l e R s m args below meth c H locs cells slots Q (F0 m (pc + 1) ls (.int v :: rest))) : W p l e R s m args below meth c H locs cells slots Q (F0 m pc ls (.int i :: .ref (ad k) :: rest)) := by
  obtain ⟨hi, h⟩ := qOk.ck h
  exact va_zald hx hb hK.1 hH.1 k 1 (by rw [qWl_get hk.1, hk.2]) rfl hi hdg (kk _ h)
theorem y_aald (hx : p.tables.exec = Jvm.exec) (hb : c.code = cc) (hK : qK G s) (hH : qHS N E G ad M s.heap H locs) {k n : Nat} {cs : Nat → Nat} (hk : qAo N E k n cs) {i : Int32} {X : Option β} (h : qOk (qck i n X) P) (hdg : decode cc pc = .ok (.aaload, 1))
    (kk : qOk X P → W p l e R s m args below meth c H locs cells slots Q (F0 m (pc + 1) ls (.ref (ad (cs i.toNatClampNeg)) :: rest))) : W p l e R s m args below meth c H locs cells slots Q (F0 m pc ls (.int i :: .ref (ad k) :: rest)) := by
  obtain ⟨hi, h⟩ := qOk.ck h
  exact va_aldq (f := fun i => some (ad (cs i))) hx hb hK.1 hH.1 k 2 (by rw [qWl_get hk.1, hk.2]) rfl hi hdg (kk h)
theorem y_alen (hx : p.tables.exec = Jvm.exec) (hb : c.code = cc) (hK : qK G s) (hH : qHS N E G ad M s.heap H locs) {k n : Nat} (hk : qAr N E k n) (hdg : decode cc pc = .ok (.arraylength, 1))
    (kk : W p l e R s m args below meth c H locs cells slots Q (F0 m (pc + 1) ls (.int (nI n) :: rest))) : W p l e R s m args below meth c H locs cells slots Q (F0 m pc ls (.ref (ad k) :: rest)) :=
  va_alen (x := (n, .inl (M k))) hx hb hK.1 hH.1 k 0 (by rw [qWl_get hk.1, hk.2]) rfl rfl hdg kk
theorem y_iast (hx : p.tables.exec = Jvm.exec) (hb : c.code = cc) (hK : qK G s) (hI : qI N ad) (hH : qHS N E G ad M s.heap H locs) {k n : Nat} (hk : qAr N E k n) {i x : Int32} {F : qM → Option β} (h : qOk (qwr M k n i x F) P) (hdg : decode cc pc = .ok (.iastore, 1))
    (kk : ∀ (M1 : qM) (H1 : Heap) (locs1 : List Loc), qHS N E G ad M1 s.heap H1 locs1 → qOk (F M1) P → W p l e R s m args below meth c H1 locs1 cells slots Q (F0 m (pc + 1) ls rest)) : W p l e R s m args below meth c H locs cells slots Q (F0 m pc ls (.int x :: .int i :: .ref (ad k) :: rest)) := by
  obtain ⟨hi, h⟩ := qOk.ck h
  refine va_iast hx hb hK.1 hH.1 (qWl_D hI) hH.2 k 0 (by rw [qWl_get hk.1, hk.2]) rfl hi hdg (fun H1 locs1 h1 _ h3 => kk _ H1 locs1 ⟨?_, h3⟩ h)
  rw [qWl_set (M' := qst M k i.toNatClampNeg x) hk.1 (by rw [hk.2, qst_s]) (fun j hj => qst_n hj)] at h1
  exact h1
theorem y_zast (hx : p.tables.exec = Jvm.exec) (hb : c.code = cc) (hK : qK G s) (hI : qI N ad) (hH : qHS N E G ad M s.heap H locs) {k n : Nat} (hk : qAz N E k n) {i x : Int32} {F : qM → Option β} (h : qOk (qwr M k n i (vp_nar .boolean x) F) P) (hdg : decode cc pc = .ok (.bastore, 1))
    (kk : ∀ (M1 : qM) (H1 : Heap) (locs1 : List Loc), qHS N E G ad M1 s.heap H1 locs1 → qOk (F M1) P → W p l e R s m args below meth c H1 locs1 cells slots Q (F0 m (pc + 1) ls rest)) : W p l e R s m args below meth c H locs cells slots Q (F0 m pc ls (.int x :: .int i :: .ref (ad k) :: rest)) := by
  obtain ⟨hi, h⟩ := qOk.ck h
  refine va_zast hx hb hK.1 hH.1 (qWl_D hI) hH.2 k 1 (by rw [qWl_get hk.1, hk.2]) rfl hi hdg (fun H1 locs1 h1 _ h3 => kk _ H1 locs1 ⟨?_, h3⟩ h)
  rw [qWl_set (M' := qst M k i.toNatClampNeg (vp_nar .boolean x)) hk.1 (by rw [hk.2, qst_s]) (fun j hj => qst_n hj)] at h1
  exact h1
theorem y_get (hx : p.tables.exec = Jvm.exec) (hb : c.code = cc) {own C : String} {T : u_T} {nf ci index : Nat} {Ts : List Cond} (hts : ∀ w ∈ Ts, w.before args s = true) (hin : ∀ w ∈ u_ws C T nf, w ∈ Ts) (hown : s.vm.findClass own = some m.cls) (hK : qK G s) (hH : qHS N E G ad M s.heap H locs) {k : Nat} {fs : (Nat → Nat) → (Nat → Int32) → List Value} (hk : qOb N E k ci fs) (hc : vwCl[ci]? = some (C, T, nf)) (j : Nat) (hj : j < nf)
    (hlink : (Cond.fieldLink own index (T j).1 (T j).2.1 (T j).2.2.1).before args s = true) {v : Value} (hv : (fs ad (M k))[j]? = some v) (hdg : decode cc pc = .ok (.getfield index, 3))
    (kk : W p l e R s m args below meth c H locs cells slots Q (F0 m (pc + 3) ls (v :: rest))) : W p l e R s m args below meth c H locs cells slots Q (F0 m pc ls (.ref (ad k) :: rest)) :=
  va_get hx hb hts hin hown hK.1 hH.1 k (by rw [qWl_get hk.1, hk.2]) hc j hj hlink (fun _ h9 => h9) hv hdg kk
theorem y_put (hx : p.tables.exec = Jvm.exec) (hb : c.code = cc) {own C : String} {T : u_T} {nf ci index : Nat} {Ts : List Cond} (hts : ∀ w ∈ Ts, w.before args s = true) (hin : ∀ w ∈ u_ws C T nf, w ∈ Ts) (ty0 : Nat → FieldType) (hty : ∀ k, k < nf → parseFieldDescriptor (T k).2.2.1 = some (ty0 k)) (hnm : ∀ a, a < nf → ∀ b, b < nf → a ≠ b → (T a).2.1 ≠ (T b).2.1) (hown : s.vm.findClass own = some m.cls) (hK : qK G s) (hI : qI N ad) (hH : qHS N E G ad M s.heap H locs) {k : Nat} {fs : (Nat → Nat) → (Nat → Int32) → List Value} (hk : qOb N E k ci fs) (hc : vwCl[ci]? = some (C, T, nf)) (j : Nat) (hj : j < nf)
    (hlink : (Cond.fieldLink own index (T j).1 (T j).2.1 (T j).2.2.1).before args s = true) (hfin : (T j).2.2.2 = false) (hd : parseFieldDescriptor (T j).2.2.1 = some .int) {x : Int32} (hl : j < (fs ad (M k)).length) (hset : ∀ g, (fs ad g).set j (.int x) = fs ad (upd g j x)) {F : qM → Option β} (h : qOk (qvl (qst M k j x) F) P) (hdg : decode cc pc = .ok (.putfield index, 3))
    (kk : ∀ (M1 : qM) (H1 : Heap) (locs1 : List Loc), qHS N E G ad M1 s.heap H1 locs1 → qOk (F M1) P → W p l e R s m args below meth c H1 locs1 cells slots Q (F0 m (pc + 3) ls rest)) : W p l e R s m args below meth c H locs cells slots Q (F0 m pc ls (.int x :: .ref (ad k) :: rest)) := by
  refine va_put hx hb hts hin ty0 hty hnm hown hK.1 hH.1 (qWl_D hI) hH.2 k (by rw [qWl_get hk.1, hk.2]) hc j hj hlink (fun _ h9 => h9) hfin hd rfl rfl hl hdg (fun H1 locs1 h1 _ h3 => kk _ H1 locs1 ⟨?_, h3⟩ h)
  rw [qWl_set (M' := qst M k j x) hk.1 (by rw [hk.2, qst_s, hset]) (fun i hi => qst_n hi)] at h1
  exact h1
theorem y_copy (hx : p.tables.exec = Jvm.exec) (hb : c.code = cc) (hml : c.maxLocals = ls.size) {own : String} {index : Nat} (hown : s.vm.findClass own = some m.cls) (hlink : (Cond.methodLink own index arraycopyName).before args s = true) (hnat : (Cond.native arraycopyName).before args s = true) (hstat : (Cond.static arraycopyName).before args s = true) (hini : (Cond.initialized "java/lang/System").before args s = true)
    (hK : qK G s) (hI : qI N ad) (hH : qHS N E G ad M s.heap H locs) {k0 k1 n : Nat} (hk0 : qAr N E k0 n) (hk1 : qAr N E k1 n) {z : Int32} (hz : ¬ z < 0) (hn : z.toNatClampNeg = n) {F : qM → Option β} (h : qOk (qvl (qcp M k1 (va_cpy (M k0) (M k1) 0 0 n)) F) P) (hframes : 1 ≤ R.frames) (hlocals : (rest.map fun v => v.category).sum + (nativeFrameWords "java/lang/System" "arraycopy" 5 + 11) ≤ R.locals) (hdg : decode cc pc = .ok (.invokestatic index, 3))
    (kk : ∀ (M1 : qM) (H1 : Heap) (locs1 : List Loc), qHS N E G ad M1 s.heap H1 locs1 → qOk (F M1) P → W p l e R s m args below meth c H1 locs1 cells slots Q (F0 m (pc + 3) ls rest)) : W p l e R s m args below meth c H locs cells slots Q (F0 m pc ls (.int z :: .int 0 :: .ref (ad k1) :: .int 0 :: .ref (ad k0) :: rest)) := by
  have z0 : (0 : Int32).toNatClampNeg = 0 := rfl
  refine va_copyi hx hb hml hown hlink hnat hstat hini hK.1 hH.1 (qWl_D hI) hH.2 k0 k1 0 0 (by rw [qWl_get hk0.1, hk0.2]) (by rw [qWl_get hk1.1, hk1.2]) rfl rfl rfl (by decide) (by decide) hz (by rw [z0, hn]; omega) (by rw [z0, hn]; omega) (fun i _ => rfl) hframes hlocals hdg (fun H1 locs1 h1 _ h3 => kk _ H1 locs1 ⟨?_, h3⟩ h)
  rw [z0, hn] at h1
  rw [qWl_set (M' := qcp M k1 (va_cpy (M k0) (M k1) 0 0 n)) hk1.1 (by rw [hk1.2, qcp_s]) (fun i hi => qcp_n hi)] at h1
  exact h1
theorem qrecv (hK : qK G s) (hH : qHS N E G ad M s.heap H locs) {k ci : Nat} {fs : (Nat → Nat) → (Nat → Int32) → List Value} (hk : qOb N E k ci fs) {q : vw_C} (hc : vwCl[ci]? = some q) : ∃ cell : Cell, H[ad k]? = some cell ∧ cell.vm.isStatics = false ∧ s.vm.findClass q.1 = some cell.cls :=
  va_recv hK.1 hH.1 hc (by rw [qWl_get hk.1, hk.2])
variable {st0 : List Value} {a : Array Value}
theorem y_ci {F : Int32 → qM → Option β} (hH : qHS N E G ad M s.heap H locs) (hr : va_Run p l e R s m args below meth c H locs cells slots 0 0 (F0 m pc ls st0) rest (va_Qi (fun r u => qOk (F r u) P) (fun u t => qHp N E G ad u t.heap) (qA N ad H.size) a) (qA N ad H.size))
    (kk : ∀ (r : Int32) (M1 : qM) (H1 : Heap) (locs1 : List Loc), qHS N E G ad M1 s.heap H1 locs1 → qOk (F r M1) P → W p l e R s m args below meth c H1 locs1 cells slots Q (F0 m (pc + 3) ls (.int r :: rest))) : W p l e R s m args below meth c H locs cells slots Q (F0 m pc ls st0) :=
  va_calli hr hH.2 (fun q _ h => qA_sub hH.2.1 q h) (fun q h => qA_sub hH.2.1 q h) (fun r u t H1 locs1 ht _ hw hB _ _ hS => kk r u H1 locs1 ⟨by rw [← ht]; exact hB, hS⟩ hw)
theorem y_cv {F : qM → Option β} (hH : qHS N E G ad M s.heap H locs) (hr : va_Run p l e R s m args below meth c H locs cells slots 0 0 (F0 m pc ls st0) rest (va_Qv (fun u => qOk (F u) P) (fun u t => qHp N E G ad u t.heap) (qA N ad H.size) a) (qA N ad H.size))
    (kk : ∀ (M1 : qM) (H1 : Heap) (locs1 : List Loc), qHS N E G ad M1 s.heap H1 locs1 → qOk (F M1) P → W p l e R s m args below meth c H1 locs1 cells slots Q (F0 m (pc + 3) ls rest)) : W p l e R s m args below meth c H locs cells slots Q (F0 m pc ls st0) :=
  va_callv hr hH.2 (fun q _ h => qA_sub hH.2.1 q h) (fun q h => qA_sub hH.2.1 q h) (fun u t H1 locs1 ht _ hw hB _ _ hS => kk u H1 locs1 ⟨by rw [← ht]; exact hB, hS⟩ hw)
/-- a call that changes no cell: heap and picture stay -/
theorem y_cs {F : Int32 → Option β} (hr : va_Run p l e R s m args below meth c H locs cells slots 0 0 (F0 m pc ls st0) rest (vp_Si (fun r => qOk (F r) P) a) (fun _ => False))
    (kk : ∀ r : Int32, qOk (F r) P → W p l e R s m args below meth c H locs cells slots Q (F0 m (pc + 3) ls (.int r :: rest))) : W p l e R s m args below meth c H locs cells slots Q (F0 m pc ls st0) := by
  intro T hT X
  obtain ⟨v, st₀, t, T', L, h0, X', hL, e1, e2, ⟨r, hv, hp, hb⟩, st⟩ := hr T hT X
  cases hv
  have hL0 : L = [] := List.eq_nil_iff_forall_not_mem.mpr fun q hq => hL q hq
  subst hL0
  rw [List.append_nil] at X'
  obtain ⟨t2, a1, b1⟩ := kk r hp T' (by rw [e1, hb, h0]) X'
  exact ⟨t2, st t2 a1, b1⟩
theorem y_cl {F : Int64 → Option β} (hr : va_Run p l e R s m args below meth c H locs cells slots 0 0 (F0 m pc ls st0) rest (vp_Sl (fun r => qOk (F r) P) a) (fun _ => False))
    (kk : ∀ r : Int64, qOk (F r) P → W p l e R s m args below meth c H locs cells slots Q (F0 m (pc + 3) ls (.long r :: rest))) : W p l e R s m args below meth c H locs cells slots Q (F0 m pc ls st0) := by
  intro T hT X
  obtain ⟨v, st₀, t, T', L, h0, X', hL, e1, e2, ⟨r, hv, hp, hb⟩, st⟩ := hr T hT X
  cases hv
  have hL0 : L = [] := List.eq_nil_iff_forall_not_mem.mpr fun q hq => hL q hq
  subst hL0
  rw [List.append_nil] at X'
  obtain ⟨t2, a1, b1⟩ := kk r hp T' (by rw [e1, hb, h0]) X'
  exact ⟨t2, st t2 a1, b1⟩
end QR
