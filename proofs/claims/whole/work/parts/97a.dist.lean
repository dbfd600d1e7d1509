/-! how far, both ways; what is heard -/
theorem rS_pre {P : Nat → Nat} {X g h : Nat} (hg : g < 10) (hX : X.testBit g = true) (hP : (P g).testBit h = true) : ∀ k s, (rS P X h k).testBit s = true → (rS P X g (k + 1)).testBit s = true
  | 0, s, z => by
    obtain ⟨a, b⟩ := (rS_0 s).mp z
    exact (rS_1 0 s).mpr (Or.inr ⟨a, g, hg, (rS_0 g).mpr ⟨hX, rfl⟩, by rw [← b]; exact hP⟩)
  | k + 1, s, z => by
    rcases (rS_1 k s).mp z with a | ⟨a, u, b, c, d⟩
    · exact rS_mo (k := k + 1) (by omega) (rS_pre hg hX hP k s a)
    · exact (rS_1 (k + 1) s).mpr (Or.inr ⟨a, u, b, rS_pre hg hX hP k u c, d⟩)
theorem rS_sy {P : Nat → Nat} {X : Nat} (hs : ∀ g, g < 10 → ∀ h, h < 10 → (P g).testBit h = (P h).testBit g) : ∀ k s g, s < 10 → g < 10 → (rS P X s k).testBit g = true → (rS P X g k).testBit s = true
  | 0, s, g, h1, h2, z => by
    obtain ⟨a, b⟩ := (rS_0 g).mp z
    rw [b]
    exact (rS_0 g).mpr ⟨a, rfl⟩
  | k + 1, s, g, h1, h2, z => by
    rcases (rS_1 k g).mp z with a | ⟨a, u, b, c, d⟩
    · exact rS_mo (k := k) (by omega) (rS_sy hs k s g h1 h2 a)
    · exact rS_pre h2 a (by rw [hs g h2 u b]; exact d) k s (rS_sy hs k s u h1 b c)
theorem rF_sy {P : Nat → Nat} {X : Nat} (hs : ∀ g, g < 10 → ∀ h, h < 10 → (P g).testBit h = (P h).testBit g) {k s g : Nat} (h1 : s < 10) (h2 : g < 10) (z : rF P X s k g) : rF P X g k s := ⟨rS_sy hs k s g h1 h2 z.1, fun i hi w => z.2 i hi (rS_sy hs i g s h2 h1 w)⟩
theorem rF_u {P : Nat → Nat} {X s g j k : Nat} (h1 : rF P X s j g) (h2 : rF P X s k g) : j = k := by
  rcases Nat.lt_trichotomy j k with z | z | z
  · exact absurd h1.1 (h2.2 j z)
  · exact z
  · exact absurd h2.1 (h1.2 k z)
noncomputable def dst (P : Nat → Nat) (X s g : Nat) : Nat := @dite _ (∃ j, j < 10 ∧ rF P X s j g) (Classical.propDecidable _) (fun h => Classical.choose h) (fun _ => 1000000)
theorem dst_at {P : Nat → Nat} {X s g j : Nat} (hj : j < 10) (h : rF P X s j g) : dst P X s g = j := by
  unfold dst
  rw [dif_pos ⟨j, hj, h⟩]
  exact rF_u (Classical.choose_spec (⟨j, hj, h⟩ : ∃ j, j < 10 ∧ rF P X s j g)).2 h
theorem dst_no {P : Nat → Nat} {X s g : Nat} (h : ∀ j, ¬ rF P X s j g) : dst P X s g = 1000000 := by
  unfold dst
  rw [dif_neg (fun ⟨j, _, z⟩ => h j z)]
theorem dst_sy {P : Nat → Nat} {X : Nat} (hs : ∀ g, g < 10 → ∀ h, h < 10 → (P g).testBit h = (P h).testBit g) {s g : Nat} (h1 : s < 10) (h2 : g < 10) : dst P X s g = dst P X g s := by
  rcases Classical.em (∃ j, j < 10 ∧ rF P X s j g) with ⟨j, hj, z⟩ | z
  · rw [dst_at hj z, dst_at hj (rF_sy hs h1 h2 z)]
  · have w : ¬ ∃ j, j < 10 ∧ rF P X g j s := fun ⟨j, hj, w⟩ => z ⟨j, hj, rF_sy hs h2 h1 w⟩
    unfold dst
    rw [dif_neg z, dif_neg w]
theorem fr_1 {P : Nat → Nat} {X s : Nat} {f : Nat → Int32} (h : qFr P X s (-6) f) {g : Nat} (hg : g < 10) : (dst P X s g < 10 ∧ f g = nI (dst P X s g)) ∨ (dst P X s g = 1000000 ∧ f g = -6) := by
  rcases h g hg with ⟨j, hj, z, e⟩ | ⟨z, e⟩
  · rw [dst_at hj z]
    exact Or.inl ⟨hj, e⟩
  · rw [dst_no (fun j w => z j w.1)]
    exact Or.inr ⟨rfl, e⟩
theorem fr_2 {P : Nat → Nat} {X s : Nat} {f : Nat → Int32} (h : qFr P X s 1000000 f) {g : Nat} (hg : g < 10) : f g = nI (dst P X s g) ∧ (dst P X s g < 10 ∨ dst P X s g = 1000000) := by
  rcases h g hg with ⟨j, hj, z, e⟩ | ⟨z, e⟩
  · rw [dst_at hj z]
    exact ⟨e, Or.inl hj⟩
  · rw [dst_no (fun j w => z j w.1)]
    exact ⟨e, Or.inr rfl⟩
/-- what is heard of a note, so far away: 0 nothing, else the note and 1 -/
def he (d n : Nat) : Nat := if d ≤ n then n - d + 1 else 0
theorem he_le {d n : Nat} (h : n < 24) : he d n < 25 := by
  unfold he
  split <;> omega
/-- notes that are heard as t -/
def hb (d t : Nat) : Nat := if d < 10 then (if t = 0 then 2 ^ d - 1 else if t + d ≤ 24 then 2 ^ (t + d - 1) else 0) else (if t = 0 then 16777215 else 0)
theorem hb_tab : ∀ d, d < 10 → ∀ t, t < 25 → ∀ n, n < 24 → (hb d t).testBit n = decide (he d n = t) := by decide +kernel
theorem hb_tab6 : ∀ t, t < 25 → ∀ n, n < 24 → (hb 1000000 t).testBit n = decide (he 1000000 n = t) := by decide +kernel
theorem hn_tab : ∀ d, d < 10 → ∀ t, t < 25 → kX3_notesHeardAs (nI t - 1) (nI d) = some (nI (hb d t)) := by decide +kernel
theorem hn_tab6 : ∀ t, t < 25 → kX3_notesHeardAs (nI t - 1) (-6) = some (nI (hb 1000000 t)) := by decide +kernel
/-- the sets that come up -/
def fm (e : Nat) : Nat := if e = 0 then 16777215 else if e ≤ 10 then 2 ^ (e - 1) - 1 else 2 ^ (e - 11)
def fam (F : Nat) : Prop := ∃ e, e < 35 ∧ F = fm e
theorem fm_and : ∀ e, e < 35 → ∀ f, f < 35 → ∃ h, h < 35 ∧ fm e &&& fm f = fm h := by decide +kernel
theorem fm_hb : ∀ d, d < 10 → ∀ t, t < 25 → ∃ h, h < 35 ∧ hb d t = fm h := by decide +kernel
theorem fm_hb6 : ∀ t, t < 25 → ∃ h, h < 35 ∧ hb 1000000 t = fm h := by decide +kernel
theorem fam_and {F G : Nat} (h1 : fam F) (h2 : fam G) : fam (F &&& G) := by
  obtain ⟨e, he, rfl⟩ := h1
  obtain ⟨f, hf, rfl⟩ := h2
  exact fm_and e he f hf
theorem fm_lt : ∀ e, e < 35 → fm e < 16777216 := by decide +kernel
theorem fam_lt {F : Nat} (h : fam F) : F < 16777216 := by
  obtain ⟨e, he, rfl⟩ := h
  exact fm_lt e he
def hcn (p : Nat → Bool) : Nat → Nat
  | 0 => 0
  | k + 1 => hcn p k + (if p k = true then 1 else 0)
theorem hcn_le (p : Nat → Bool) : ∀ k, hcn p k ≤ k
  | 0 => Nat.le_refl 0
  | k + 1 => by
    have := hcn_le p k
    show hcn p k + (if p k = true then 1 else 0) ≤ k + 1
    split <;> omega
theorem hcn_y {p : Nat → Bool} {k : Nat} (h : p k = true) : hcn p (k + 1) = hcn p k + 1 := by
  show hcn p k + (if p k = true then 1 else 0) = _
  rw [if_pos h]
theorem hcn_n {p : Nat → Bool} {k : Nat} (h : ¬ p k = true) : hcn p (k + 1) = hcn p k := by
  show hcn p k + (if p k = true then 1 else 0) = _
  rw [if_neg h, Nat.add_zero]
theorem hcn_mo (p : Nat → Bool) {j k : Nat} (h : j ≤ k) : hcn p j ≤ hcn p k := by
  induction k with
  | zero =>
    rw [show j = 0 by omega]
    exact Nat.le_refl _
  | succ k ih =>
    by_cases e : j = k + 1
    · rw [e]
      exact Nat.le_refl _
    · have := ih (by omega)
      have e2 : hcn p (k + 1) = hcn p k + (if p k = true then 1 else 0) := rfl
      omega
theorem hcn_sh {p q : Nat → Bool} {a : Nat} : ∀ m, (∀ n, n < m → p (a + n) = q n) → hcn p (a + m) = hcn p a + hcn q m
  | 0, _ => rfl
  | m + 1, h => by
    show hcn p (a + m) + (if p (a + m) = true then 1 else 0) = hcn p a + (hcn q m + (if q m = true then 1 else 0))
    rw [hcn_sh m (fun n hn => h n (by omega)), h m (by omega), Nat.add_assoc]
theorem hcn_no {p : Nat → Bool} {a : Nat} : ∀ m, (∀ n, n < m → ¬ p (a + n) = true) → hcn p (a + m) = hcn p a
  | 0, _ => rfl
  | m + 1, h => by
    have e : hcn p (a + m + 1) = hcn p (a + m) := hcn_n (h m (by omega))
    rw [show a + (m + 1) = a + m + 1 by omega, e]
    exact hcn_no m (fun n hn => h n (by omega))
/-- at most one place has k before it and counts -/
theorem hcn_u {p : Nat → Bool} {i j : Nat} (h1 : p i = true) (h2 : p j = true) (e : hcn p i = hcn p j) : i = j := by
  rcases Nat.lt_trichotomy i j with z | z | z
  · have a := hcn_y h1
    have b := hcn_mo p (show i + 1 ≤ j by omega)
    omega
  · exact z
  · have a := hcn_y h2
    have b := hcn_mo p (show j + 1 ≤ i by omega)
    omega
def baK (F i : Nat) : Bool := match kX3_bitAt (nI F) (nI i) with
  | some r => (List.range 24).any (fun n => (r == nI n) && F.testBit n && (hcn F.testBit n == i))
  | none => false
set_option maxRecDepth 100000 in
theorem fm_count : ∀ e, e < 35 → kJ6_bitCount_0f7a4 (nI (fm e)) = some (nI (hcn (fm e).testBit 24)) := by decide +kernel
set_option maxRecDepth 100000 in
theorem fm_at : ∀ e, e < 35 → ∀ i, i < hcn (fm e).testBit 24 → baK (fm e) i = true := by decide +kernel
theorem fam_count {F : Nat} (h : fam F) : kJ6_bitCount_0f7a4 (nI F) = some (nI (hcn F.testBit 24)) := by
  obtain ⟨e, he, rfl⟩ := h
  exact fm_count e he
theorem fam_at {F i : Nat} (h : fam F) (hi : i < hcn F.testBit 24) : ∃ n, n < 24 ∧ F.testBit n = true ∧ hcn F.testBit n = i ∧ kX3_bitAt (nI F) (nI i) = some (nI n) := by
  obtain ⟨e, he, rfl⟩ := h
  have t := fm_at e he i hi
  unfold baK at t
  cases hr : kX3_bitAt (nI (fm e)) (nI i) with
  | none =>
    rw [hr] at t
    cases t
  | some r =>
    rw [hr] at t
    simp only at t
    rw [List.any_eq_true] at t
    obtain ⟨n, h1, h2⟩ := t
    rw [Bool.and_eq_true, Bool.and_eq_true] at h2
    obtain ⟨⟨a, b⟩, c⟩ := h2
    exact ⟨n, List.mem_range.mp h1, b, eq_of_beq c, by rw [eq_of_beq a]⟩
