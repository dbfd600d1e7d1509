/-! PURE: what a mirror program comes to -/
theorem qOk_some {α : Type} {a : α} {P : α → Prop} : qOk (some a) P ↔ P a := ⟨qOk.s, fun h => ⟨a, rfl, h⟩⟩
theorem qOk_none {α : Type} {P : α → Prop} : qOk (none : Option α) P ↔ False := ⟨fun ⟨_, h, _⟩ => (by cases h), fun h => h.elim⟩
theorem qOk_vl {α β : Type} {x : α} {F : α → Option β} {P : β → Prop} : qOk (qvl x F) P ↔ qOk (F x) P := Iff.rfl
theorem qOk_ite {α : Type} {c : Prop} {D : Decidable c} {x y : Option α} {P : α → Prop} : qOk (@ite _ c D x y) P ↔ (c → qOk x P) ∧ (¬ c → qOk y P) := by
  by_cases h : c
  · rw [if_pos h]; exact ⟨fun z => ⟨fun _ => z, fun n => absurd h n⟩, fun z => z.1 h⟩
  · rw [if_neg h]; exact ⟨fun z => ⟨fun n => absurd n h, fun _ => z⟩, fun z => z.2 h⟩
theorem qOk_ck {β : Type} {i : Int32} {n : Nat} {F : Option β} {P : β → Prop} : qOk (qck i n F) P ↔ vp_in i n ∧ qOk F P := by
  refine ⟨qOk.ck, fun h => ?_⟩
  unfold qck
  rw [if_neg h.1]; exact h.2
theorem qOk_rd {β : Type} {f : Nat → Int32} {i : Int32} {n : Nat} {F : Int32 → Option β} {P : β → Prop} : qOk (qrd f n i F) P ↔ vp_in i n ∧ qOk (F (f i.toNatClampNeg)) P := qOk_ck
theorem qOk_wr {β : Type} {M : qM} {k : Nat} {i v : Int32} {n : Nat} {F : qM → Option β} {P : β → Prop} : qOk (qwr M k n i v F) P ↔ vp_in i n ∧ qOk (F (qst M k i.toNatClampNeg v)) P := qOk_ck
theorem qOk_nz {β : Type} {y : Int32} {F : Option β} {P : β → Prop} : qOk (qnz y F) P ↔ ¬ y = 0 ∧ qOk F P := by
  refine ⟨qOk.nz, fun h => ?_⟩
  unfold qnz
  rw [if_neg h.1]; exact h.2
theorem qOk_nl {β : Type} {y : Int64} {F : Option β} {P : β → Prop} : qOk (qnl y F) P ↔ ¬ y = 0 ∧ qOk F P := by
  refine ⟨qOk.nl, fun h => ?_⟩
  unfold qnl
  rw [if_neg h.1]; exact h.2
theorem qOk_bl {β : Type} {y : Int32} {F : Option β} {P : β → Prop} : qOk (qbl y F) P ↔ y &&& 1 = y ∧ qOk F P := by
  refine ⟨qOk.bl, fun h => ?_⟩
  unfold qbl
  rw [if_pos h.1]; exact h.2
theorem qOk_bd {α β : Type} {x : Option α} {F : α → Option β} {P : β → Prop} : qOk (x.bind F) P ↔ qOk x (fun a => qOk (F a) P) := by
  refine ⟨qOk.bd, fun h => ?_⟩
  obtain ⟨a, rfl, h⟩ := h
  exact h
theorem qOk_b1 {α β : Type} {x : Option α} {F : α → Option β} {P : β → Prop} : qOk (qb1 x F) P ↔ qOk x (fun a => qOk (F a) P) := qOk_bd
theorem qOk_b0 {β : Type} {x : Option Unit} {F : Option β} {P : β → Prop} : qOk (qb0 x F) P ↔ qOk x (fun _ => qOk F P) := qOk_bd
theorem qOk_b2 {α1 α2 β : Type} {x : Option (α1 × α2)} {F : α1 → α2 → Option β} {P : β → Prop} : qOk (qb2 x F) P ↔ qOk x (fun p => qOk (F p.1 p.2) P) := qOk_bd
theorem qOk_b3 {α1 α2 α3 β : Type} {x : Option (α1 × α2 × α3)} {F : α1 → α2 → α3 → Option β} {P : β → Prop} : qOk (qb3 x F) P ↔ qOk x (fun p => qOk (F p.1 p.2.1 p.2.2) P) := qOk_bd
theorem qOk_b4 {α1 α2 α3 α4 β : Type} {x : Option (α1 × α2 × α3 × α4)} {F : α1 → α2 → α3 → α4 → Option β} {P : β → Prop} : qOk (qb4 x F) P ↔ qOk x (fun p => qOk (F p.1 p.2.1 p.2.2.1 p.2.2.2) P) := qOk_bd
theorem qOk_e0 {ρ β : Type} {x : Option (ρ ⊕ Unit)} {r : ρ → Option β} {F : Option β} {P : β → Prop} : qOk (qex0 x r F) P ↔ qOk x (Sum.elim (fun a => qOk (r a) P) (fun _ => qOk F P)) := by
  refine qOk_bd.trans ⟨fun h => qOk.m h (fun a h => ?_), fun h => qOk.m h (fun a h => ?_)⟩ <;> cases a <;> exact h
theorem qOk_e1 {ρ ε β : Type} {x : Option (ρ ⊕ ε)} {r : ρ → Option β} {F : ε → Option β} {P : β → Prop} : qOk (qex1 x r F) P ↔ qOk x (Sum.elim (fun a => qOk (r a) P) (fun e => qOk (F e) P)) := by
  refine qOk_bd.trans ⟨fun h => qOk.m h (fun a h => ?_), fun h => qOk.m h (fun a h => ?_)⟩ <;> cases a <;> exact h
theorem qOk_e2 {ρ α1 α2 β : Type} {x : Option (ρ ⊕ (α1 × α2))} {r : ρ → Option β} {F : α1 → α2 → Option β} {P : β → Prop} : qOk (qex2 x r F) P ↔ qOk x (Sum.elim (fun a => qOk (r a) P) (fun e => qOk (F e.1 e.2) P)) := by
  refine qOk_bd.trans ⟨fun h => qOk.m h (fun a h => ?_), fun h => qOk.m h (fun a h => ?_)⟩ <;> cases a <;> exact h
theorem qOk_of {α : Type} {x : Option α} {a : α} {P : α → Prop} (h : x = some a) : qOk x P ↔ P a := by rw [h]; exact qOk_some
theorem qOk_eq {α : Type} {x : Option α} {a : α} (h : qOk x (fun b => b = a)) : x = some a := by
  obtain ⟨b, h1, rfl⟩ := h
  exact h1
/-- a loop: by the invariant I k behind k rounds; it may end early -/
theorem qlp_inv {S E : Type} {f : S → Option (S ⊕ E)} {P : E → Prop} (I : Nat → S → Prop) (K : Nat) (hs : ∀ k s, k < K → I k s → qOk (f s) (Sum.elim (I (k + 1)) P)) (he : ∀ s, I K s → qOk (f s) (Sum.elim (fun _ => False) P)) : ∀ (n k : Nat) (s : S), k ≤ K → K - k < n → I k s → qOk (qlp f n s) P := by
  intro n
  induction n with
  | zero => intro k s _ h2 _; omega
  | succ n ih =>
    intro k s h1 h2 h3
    show qOk ((f s).bind (Sum.elim (qlp f n) some)) P
    rw [qOk_bd]
    by_cases hk : k < K
    · refine qOk.m (hs k s hk h3) (fun a h => ?_)
      cases a with
      | inl t => exact ih (k + 1) t hk (by omega) h
      | inr e => exact qOk_some.mpr h
    · have hkK : k = K := by omega
      subst hkK
      refine qOk.m (he s h3) (fun a h => ?_)
      cases a with
      | inl t => exact h.elim
      | inr e => exact qOk_some.mpr h
theorem qlp_for {S E : Type} {f : S → Option (S ⊕ E)} {P : E → Prop} (I : Nat → S → Prop) (K : Nat) (hK : K < 20000) {s : S} (h0 : I 0 s) (hs : ∀ k s, k < K → I k s → qOk (f s) (Sum.elim (I (k + 1)) P)) (he : ∀ s, I K s → qOk (f s) (Sum.elim (fun _ => False) P)) : qOk (qlp f qFu s) P :=
  qlp_inv I K hs he qFu 0 s (Nat.zero_le _) (by show K - 0 < 20000; omega) h0
/-! numbers: an int of a small whole number -/
def iI (z : Int) : Int32 := Int32.ofInt z
theorem iI_toInt {z : Int} (h1 : -2147483648 ≤ z) (h2 : z < 2147483648) : (iI z).toInt = z := by
  exact Int32.toInt_ofInt_of_le (by omega) (by omega)
theorem iI_of (x : Int32) : x = iI x.toInt := (Int32.ofInt_toInt x).symm
theorem iI_add (a b : Int) : iI a + iI b = iI (a + b) := (Int32.ofInt_add a b).symm
theorem iI_sub (a b : Int) : iI a - iI b = iI (a - b) := (Int32.ofInt_sub a b).symm
theorem iI_mul (a b : Int) : iI a * iI b = iI (a * b) := (Int32.ofInt_mul a b).symm
theorem iI_lit (n : Nat) : (OfNat.ofNat n : Int32) = iI n := rfl
theorem iI_nI (n : Nat) : nI n = iI n := rfl
theorem iI_eq {a b : Int} (ha : -2147483648 ≤ a ∧ a < 2147483648) (hb : -2147483648 ≤ b ∧ b < 2147483648) : iI a = iI b ↔ a = b := by
  rw [← Int32.toInt_inj, iI_toInt ha.1 ha.2, iI_toInt hb.1 hb.2]
theorem iI_lt {a b : Int} (ha : -2147483648 ≤ a ∧ a < 2147483648) (hb : -2147483648 ≤ b ∧ b < 2147483648) : iI a < iI b ↔ a < b := by
  rw [Int32.lt_iff_toInt_lt, iI_toInt ha.1 ha.2, iI_toInt hb.1 hb.2]
theorem iI_le {a b : Int} (ha : -2147483648 ≤ a ∧ a < 2147483648) (hb : -2147483648 ≤ b ∧ b < 2147483648) : iI a ≤ iI b ↔ a ≤ b := by
  rw [Int32.le_iff_toInt_le, iI_toInt ha.1 ha.2, iI_toInt hb.1 hb.2]
theorem qIn {k n : Nat} (h : k < n) (hn : n < 2147483648) : vp_in (nI k) n := vp_in_nI h hn
theorem qCl {k : Nat} (h : k < 2147483648) : (nI k).toNatClampNeg = k := nI_clamp h
/-! NUMBERS: nI of small numbers, bits, and the leaves of both programs -/
theorem fa_lit (n : Nat) : (OfNat.ofNat n : Int32) = nI n := rfl
theorem fa_and (a b : Nat) : nI a &&& nI b = nI (a &&& b) := by
  apply Int32.toBitVec_inj.1
  show BitVec.ofNat 32 a &&& BitVec.ofNat 32 b = BitVec.ofNat 32 (a &&& b)
  apply BitVec.eq_of_getLsbD_eq
  intro i hi
  simp [hi]
theorem fa_or (a b : Nat) : nI a ||| nI b = nI (a ||| b) := by
  apply Int32.toBitVec_inj.1
  show BitVec.ofNat 32 a ||| BitVec.ofNat 32 b = BitVec.ofNat 32 (a ||| b)
  apply BitVec.eq_of_getLsbD_eq
  intro i hi
  simp [hi]
theorem fa_xor (a b : Nat) : nI a ^^^ nI b = nI (a ^^^ b) := by
  apply Int32.toBitVec_inj.1
  show BitVec.ofNat 32 a ^^^ BitVec.ofNat 32 b = BitVec.ofNat 32 (a ^^^ b)
  apply BitVec.eq_of_getLsbD_eq
  intro i hi
  simp [hi]
theorem qb1_some {α β : Type} {a : α} {F : α → Option β} : qb1 (some a) F = F a := rfl
theorem qb2_some {α1 α2 β : Type} {a : α1} {b : α2} {F : α1 → α2 → Option β} : qb2 (some (a, b)) F = F a b := rfl
theorem qb3_some {α1 α2 α3 β : Type} {a : α1} {b : α2} {c : α3} {F : α1 → α2 → α3 → Option β} : qb3 (some (a, b, c)) F = F a b c := rfl
theorem qvl_eq {α β : Type} {x : α} {F : α → Option β} : qvl x F = F x := rfl
theorem ite01_0 {p : Prop} {D : Decidable p} : ((@ite _ p D (1 : Int32) 0) = 0) ↔ ¬ p := by
  by_cases h : p
  · rw [if_pos h]; exact ⟨fun z => absurd z (by decide), fun z => absurd h z⟩
  · rw [if_neg h]; exact ⟨fun _ => h, fun _ => rfl⟩
theorem ite01_1 {p : Prop} {D : Decidable p} : ((@ite _ p D (1 : Int32) 0) = 1) ↔ p := by
  by_cases h : p
  · rw [if_pos h]; exact ⟨fun _ => h, fun _ => rfl⟩
  · rw [if_neg h]; exact ⟨fun z => absurd z (by decide), fun z => absurd z h⟩
theorem qbl_01 {β : Type} {p : Prop} {D : Decidable p} {F : Option β} : qbl (@ite _ p D (1 : Int32) 0) F = F := by
  unfold qbl
  by_cases h : p
  · rw [if_pos h, if_pos (by decide)]
  · rw [if_neg h, if_pos (by decide)]
theorem qbl_0 {β : Type} {F : Option β} : qbl 0 F = F := by unfold qbl; rw [if_pos (by decide)]
theorem qbl_1 {β : Type} {F : Option β} : qbl 1 F = F := by unfold qbl; rw [if_pos (by decide)]
theorem qb1_ite {α β : Type} {p : Prop} {D : Decidable p} {x y : Option α} {F : α → Option β} : qb1 (@ite _ p D x y) F = @ite _ p D (qb1 x F) (qb1 y F) := by
  by_cases h : p
  · rw [if_pos h, if_pos h]
  · rw [if_neg h, if_neg h]
theorem qb2_ite {α1 α2 β : Type} {p : Prop} {D : Decidable p} {x y : Option (α1 × α2)} {F : α1 → α2 → Option β} : qb2 (@ite _ p D x y) F = @ite _ p D (qb2 x F) (qb2 y F) := by
  by_cases h : p
  · rw [if_pos h, if_pos h]
  · rw [if_neg h, if_neg h]
theorem qrd_k {β : Type} {f : Nat → Int32} {n k : Nat} {F : Int32 → Option β} (h : k < n) (hn : n < 2147483648) : qrd f n (nI k) F = F (f k) := by
  unfold qrd qck
  rw [if_neg (nI_in h hn), nI_clamp (by omega)]
theorem qwr_k {β : Type} {M : qM} {c n k : Nat} {v : Int32} {F : qM → Option β} (h : k < n) (hn : n < 2147483648) : qwr M c n (nI k) v F = F (qst M c k v) := by
  unfold qwr qck
  rw [if_neg (nI_in h hn), nI_clamp (by omega)]
theorem qck_k {β : Type} {n k : Nat} {F : Option β} (h : k < n) (hn : n < 2147483648) : qck (nI k) n F = F := by
  unfold qck
  rw [if_neg (nI_in h hn)]
theorem nI_inj {a b : Nat} (ha : a < 2147483648) (hb : b < 2147483648) : nI a = nI b ↔ a = b := nI_eq ha hb
theorem nI_m1 {k : Nat} (h : k < 2147483648) : ¬ nI k = -1 := fun e => by
  have := congrArg Int32.toInt e
  rw [nI_toInt h] at this
  have h2 : (-1 : Int32).toInt = -1 := by decide
  omega
theorem nI_m6 {k : Nat} (h : k < 2147483648) : ¬ nI k = -6 := fun e => by
  have := congrArg Int32.toInt e
  rw [nI_toInt h] at this
  have h2 : (-6 : Int32).toInt = -6 := by decide
  omega
/-- an int is below 0, or at n or more, or a number below n -/
theorem ix3 (x : Int32) (n : Nat) (hn : n < 2147483648) : (x < 0 ∧ ∀ k : Nat, x ≠ nI k ∨ 2147483648 ≤ k) ∨ (0 ≤ x ∧ nI n ≤ x) ∨ ∃ k, k < n ∧ x = nI k := by
  rcases pk_ix x hn with h | h | h
  · refine Or.inl ⟨h, fun k => ?_⟩
    by_cases hk : k < 2147483648
    · exact Or.inl (fun e => nI_pos hk (e ▸ h))
    · exact Or.inr (by omega)
  · exact Or.inr (Or.inl ⟨Int32.le_trans (nI_pos' hn) h, h⟩)
  · exact Or.inr (Or.inr h)
theorem sh31 : ∀ i, i < 32 → nI i &&& 31 = nI i := by decide
theorem sm31 : ∀ i, i < 32 → ((nI i).toBitVec.smod 32).toNat = i := by decide
theorem shl1 {i : Nat} (h : i < 31) : (1 : Int32) <<< (nI i &&& 31) = nI (2 ^ i) := by
  rw [sh31 i (by omega)]
  have := pk_shlN (n := 1) (nI i) i (sm31 i (by omega)) (by
    have : 2 ^ i < 2 ^ 31 := Nat.pow_lt_pow_right (by omega) h
    omega)
  rw [Nat.one_mul] at this
  exact this
theorem hasb {m i : Nat} (hm : m < 2147483648) (hi : i < 32) : ((nI m >>> (nI i &&& 31)) &&& 1 = 1) ↔ m.testBit i = true := by
  rw [sh31 i hi, pk_shrN hm (nI i) i (sm31 i hi)]
  have h1 : nI (m / 2 ^ i) &&& 1 = nI (m / 2 ^ i % 2) := pk_andN (Nat.lt_of_le_of_lt (Nat.div_le_self _ _) (by omega)) 1 (by decide)
  rw [h1, show (1 : Int32) = nI 1 from rfl, nI_inj (by omega) (by omega), Nat.testBit_eq_decide_div_mod_eq]
  exact decide_eq_true_iff.symm
theorem X7_has_eq {m i : Nat} (hm : m < 2147483648) (hi : i < 32) : kX7_has (nI m) (nI i) = some (if m.testBit i = true then 1 else 0) := by
  unfold kX7_has
  by_cases h : m.testBit i = true
  · rw [if_pos ((hasb hm hi).mpr h), if_pos h]; rfl
  · rw [if_neg (fun z => h ((hasb hm hi).mp z)), if_neg h]; rfl
theorem X8_has_eq {m i : Nat} (hm : m < 2147483648) (hi : i < 32) : kX8_has (nI m) (nI i) = some (if m.testBit i = true then 1 else 0) := X7_has_eq hm hi
theorem X8_in_eq (x a b : Int32) : kX8_in x a b = some (if a ≤ x ∧ x ≤ b then 1 else 0) := by
  unfold kX8_in
  by_cases h1 : x < a
  · rw [if_pos h1, if_neg (fun z => absurd h1 (Int32.not_lt.mpr z.1))]
    rfl
  · rw [if_neg h1]
    by_cases h2 : b < x
    · rw [if_pos h2, if_neg (fun z => absurd h2 (Int32.not_lt.mpr z.2))]
      rfl
    · rw [if_neg h2, if_pos ⟨Int32.not_lt.mp h1, Int32.not_lt.mp h2⟩]
      rfl
theorem X7_isGallery_eq (x : Int32) : kX7_isGallery x = some (if 0 ≤ x ∧ x < 10 then 1 else 0) := by
  unfold kX7_isGallery
  by_cases h1 : x < 0
  · rw [if_pos h1, if_neg (fun z => absurd h1 (Int32.not_lt.mpr z.1))]
    rfl
  · rw [if_neg h1]
    by_cases h2 : 10 ≤ x
    · rw [if_pos h2, if_neg (fun z => absurd z.2 (Int32.not_lt.mpr h2))]
      rfl
    · rw [if_neg h2, if_pos ⟨Int32.not_lt.mp h1, Int32.not_le.mp h2⟩]
      rfl
theorem X7_isVoice_eq (x : Int32) : kX7_isVoice x = some (if 0 ≤ x ∧ x < 8 then 1 else 0) := by
  unfold kX7_isVoice
  by_cases h1 : x < 0
  · rw [if_pos h1, if_neg (fun z => absurd h1 (Int32.not_lt.mpr z.1))]
    rfl
  · rw [if_neg h1]
    by_cases h2 : 8 ≤ x
    · rw [if_pos h2, if_neg (fun z => absurd z.2 (Int32.not_lt.mpr h2))]
      rfl
    · rw [if_neg h2, if_pos ⟨Int32.not_lt.mp h1, Int32.not_le.mp h2⟩]
      rfl
theorem le9 (x : Int32) : (0 ≤ x ∧ x ≤ 9) ↔ (0 ≤ x ∧ x < 10) := by
  rw [Int32.le_iff_toInt_le, Int32.le_iff_toInt_le, Int32.lt_iff_toInt_lt]
  have h9 : (9 : Int32).toInt = 9 := by decide
  have h10 : (10 : Int32).toInt = 10 := by decide
  omega
theorem X8_isGallery_eq (x : Int32) : kX8_isGallery x = some (if 0 ≤ x ∧ x < 10 then 1 else 0) := by
  unfold kX8_isGallery
  rw [X8_in_eq, qb1_some]
  by_cases h : 0 ≤ x ∧ x < 10
  · rw [if_pos h, if_pos ((le9 x).mpr h)]; rfl
  · rw [if_neg h, if_neg (fun z => h ((le9 x).mp z))]; rfl
/-- how many bits, of ten -/
def bc (m : Nat) : Nat := m % 2 + m / 2 % 2 + m / 4 % 2 + m / 8 % 2 + m / 16 % 2 + m / 32 % 2 + m / 64 % 2 + m / 128 % 2 + m / 256 % 2 + m / 512 % 2
set_option maxRecDepth 100000 in
theorem X8_bits_tab : ∀ m, m < 1024 → kX8_bits (nI m) = some (nI (bc m)) := by decide +kernel
set_option maxRecDepth 100000 in
theorem J6_bits_tab : ∀ m, m < 1024 → kJ6_bitCount_0f7a4 (nI m) = some (nI (bc m)) := by decide +kernel
theorem bc_le (m : Nat) : bc m ≤ 10 := by unfold bc; omega
theorem X8_bits_eq {m : Nat} (h : m < 1024) : kX8_bits (nI m) = some (nI (bc m)) := X8_bits_tab m h
theorem J6_bits_eq {m : Nat} (h : m < 1024) : kJ6_bitCount_0f7a4 (nI m) = some (nI (bc m)) := J6_bits_tab m h
