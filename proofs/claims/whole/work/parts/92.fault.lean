/-! SIGNS: how both read the pad -/
def fN (st c : Nat) : Option Nat := if st = 0 then (if 65 ≤ c ∧ c ≤ 72 then some 1 else if c = 42 then some 2 else if c = 46 then some 0 else none) else if st = 1 then (if 97 ≤ c ∧ c ≤ 120 then some 0 else if c = 45 then some 0 else if c = 62 then some 2 else none) else (if 48 ≤ c ∧ c ≤ 57 then some 0 else none)
def fV (v1 v4 : Int32) : Option Int32 := if v1 = 0 then (qb1 (kX8_in v4 65 72) (fun v8 => if v8 = 0 then (if v4 = 42 then (some 1) else (if v4 = 46 then (some 1) else (some 0))) else (some 1))) else (if v1 = 1 then (qb1 (kX8_in v4 97 120) (fun v7 => if v7 = 0 then (if v4 = 45 then (some 1) else (if v4 = 62 then (some 1) else (some 0))) else (some 1))) else (qb1 (kX8_in v4 48 57) (fun v6 => some v6)))
def fW (v1 v4 : Int32) : Option Int32 := if v1 = 0 then (if v4 = 46 then (some 0) else (if v4 = 42 then (some 2) else (some 1))) else (if v1 = 1 then (if v4 = 62 then (some 2) else (some 0)) else (some 0))
def fK (st c : Nat) : Bool := match fN st c with
  | none => fV (nI st) (nI c) == some 0
  | some t => fV (nI st) (nI c) == some 1 && fW (nI st) (nI c) == some (nI t)
set_option maxRecDepth 100000 in
theorem fK_tab : ∀ st, st < 3 → ∀ c, c < 127 → fK st c = true := by decide +kernel
theorem fN_tab {st c : Nat} (hst : st < 3) (hc : c < 127) : (fN st c = none → fV (nI st) (nI c) = some 0) ∧ (∀ t, fN st c = some t → fV (nI st) (nI c) = some 1 ∧ fW (nI st) (nI c) = some (nI t)) := by
  have h := fK_tab st hst c hc
  unfold fK at h
  constructor
  · intro e
    rw [e] at h
    exact eq_of_beq h
  · intro t e
    rw [e] at h
    have h : (fV (nI st) (nI c) == some 1 && fW (nI st) (nI c) == some (nI t)) = true := h
    rw [Bool.and_eq_true] at h
    exact ⟨eq_of_beq h.1, eq_of_beq h.2⟩
theorem fN_lt {st c t : Nat} (h : fN st c = some t) : t < 3 := by
  unfold fN at h
  repeat' split at h
  all_goals (first | cases h; decide | cases h)
def sAt (p : Nat → Nat) : Nat → Option Nat
  | 0 => some 0
  | k + 1 => (sAt p k).bind (fun st => fN st (p k))
theorem sAt_1 {p : Nat → Nat} {k st : Nat} (h : sAt p k = some st) : sAt p (k + 1) = fN st (p k) := by
  show (sAt p k).bind _ = _
  rw [h]
  rfl
theorem sAt_lt {p : Nat → Nat} : ∀ {k st : Nat}, sAt p k = some st → st < 3
  | 0, st, h => by cases h; decide
  | k + 1, st, h => by
    cases e : sAt p k with
    | none =>
      change (sAt p k).bind _ = _ at h
      rw [e] at h
      cases h
    | some t =>
      rw [sAt_1 e] at h
      exact fN_lt h
theorem sAt_pre {p : Nat → Nat} {e st : Nat} (h : sAt p e = some st) : ∀ d, d ≤ e → ∃ t, sAt p (e - d) = some t
  | 0, _ => ⟨st, h⟩
  | d + 1, hd => by
    obtain ⟨t, ht⟩ := sAt_pre h d (by omega)
    obtain ⟨k, hk⟩ : ∃ k, e - d = k + 1 := ⟨e - d - 1, by omega⟩
    rw [hk] at ht
    rw [show e - (d + 1) = k by omega]
    cases q : sAt p k with
    | none =>
      change (sAt p k).bind _ = _ at ht
      rw [q] at ht
      cases ht
    | some t => exact ⟨t, rfl⟩
theorem fo_step {M : qM} {S : Nat} {p : Nat → Nat} (hS : S ≤ 60) (h1 : M 0 11 = nI S) (h2 : ∀ i, i < S → M 9 i = nI (p i) ∧ 33 ≤ p i ∧ p i ≤ 126) {st i : Nat} (hst : st < 3) (hi : i < S) {P : ((Int32 × Int32) ⊕ (Int32 ⊕ Int32)) → Prop} (a : ∀ t, fN st (p i) = some t → P (.inl (nI t, nI (i + 1)))) (b : fN st (p i) = none → P (.inr (.inl (nI i)))) : qOk (kX8_faultOf_L4 M (nI st) (nI i)) P := by
  unfold kX8_faultOf_L4
  obtain ⟨e1, e2, e3⟩ := h2 i hi
  rw [h1, if_neg (nI_ge hi (by omega)), qrd_k (show i < 60 by omega) (by omega), e1]
  obtain ⟨t1, t2⟩ := fN_tab hst (show p i < 127 by omega)
  show qOk (qb1 (fV (nI st) (nI (p i))) (fun v5 => if v5 = 0 then (some (.inr (.inl (nI i)))) else (qb1 (fW (nI st) (nI (p i))) (fun v9 => qvl (nI i + 1) (fun v10 => some (.inl (v9, v10))))))) P
  cases e : fN st (p i) with
  | none =>
    rw [t1 e, qb1_some, if00, qOk_some]
    exact b e
  | some t =>
    obtain ⟨u1, u2⟩ := t2 t e
    rw [u1, qb1_some, if10, u2, qb1_some, qvl_eq, qOk_some, ← nI_succ]
    exact a t e
theorem fo_end {M : qM} {S : Nat} {p : Nat → Nat} (hS : S ≤ 60) (h1 : M 0 11 = nI S) (h2 : ∀ i, i < S → M 9 i = nI (p i) ∧ 33 ≤ p i ∧ p i ≤ 126) {t : Nat} (h : sAt p S = some t) : kX8_faultOf M = some (if t = 0 then -6 else nI S) := by
  apply qOk_eq
  unfold kX8_faultOf
  rw [qOk_e1]
  refine qlp_for (fun k s => ∃ st, s = (nI st, nI k) ∧ sAt p k = some st) S (by omega) ⟨0, rfl, rfl⟩ ?_ ?_
  · rintro k s hk ⟨st, rfl, hs⟩
    refine fo_step hS h1 h2 (sAt_lt hs) hk (fun u hu => ⟨u, rfl, by rw [sAt_1 hs]; exact hu⟩) (fun hn => ?_)
    obtain ⟨y, hy⟩ := sAt_pre h (S - (k + 1)) (by omega)
    rw [show S - (S - (k + 1)) = k + 1 by omega, sAt_1 hs, hn] at hy
    cases hy
  · rintro s ⟨st, rfl, hs⟩
    rw [h] at hs
    cases hs
    have t3 := sAt_lt h
    show qOk (kX8_faultOf_L4 M (nI t) (nI S)) _
    unfold kX8_faultOf_L4
    rw [h1, if_pos (nI_le (Nat.le_refl _) (by omega)), qOk_some]
    show qOk (qb1 (if nI t = 0 then some (-6) else some (nI S)) (fun v11 => some v11)) _
    by_cases c : t = 0
    · rw [if_pos (show nI t = 0 by rw [c]; rfl), qb1_some, qOk_some, if_pos c]
    · rw [if_neg (show ¬ nI t = 0 from fun z => c ((nI_inj (by omega) (by omega)).mp (show nI t = nI 0 from z))), qb1_some, qOk_some, if_neg c]
theorem fo_at {M : qM} {S : Nat} {p : Nat → Nat} (hS : S ≤ 60) (h1 : M 0 11 = nI S) (h2 : ∀ i, i < S → M 9 i = nI (p i) ∧ 33 ≤ p i ∧ p i ≤ 126) {e st : Nat} (he : e < S) (h : sAt p e = some st) (hn : fN st (p e) = none) : kX8_faultOf M = some (nI e) := by
  apply qOk_eq
  unfold kX8_faultOf
  rw [qOk_e1]
  refine qlp_for (fun k s => ∃ st, s = (nI st, nI k) ∧ sAt p k = some st) e (by omega) ⟨0, rfl, rfl⟩ ?_ ?_
  · rintro k s hk ⟨st', rfl, hs⟩
    refine fo_step hS h1 h2 (sAt_lt hs) (by omega) (fun u hu => ⟨u, rfl, by rw [sAt_1 hs]; exact hu⟩) (fun hn => ?_)
    obtain ⟨y, hy⟩ := sAt_pre h (e - (k + 1)) (by omega)
    rw [show e - (e - (k + 1)) = k + 1 by omega, sAt_1 hs, hn] at hy
    cases hy
  · rintro s ⟨st', rfl, hs⟩
    rw [h] at hs
    cases hs
    refine fo_step hS h1 h2 (sAt_lt h) he (fun u hu => by rw [hn] at hu; cases hu) (fun _ => ?_)
    show qOk (some _) _
    rw [qOk_some]
/-- the act at i: what, who, how much, and where the next begins -/
def sg (p : Nat → Nat) (S i : Nat) : Nat := if i < S then p i else 0
def pA (p : Nat → Nat) (S i : Nat) : Option (Nat × Nat × Nat × Nat) := if sg p S i = 46 then some (4, 0, 0, i + 1) else if sg p S i = 42 then (if 48 ≤ sg p S (i + 1) ∧ sg p S (i + 1) ≤ 57 then some (3, 0, sg p S (i + 1) - 48, i + 2) else none) else if 65 ≤ sg p S i ∧ sg p S i ≤ 72 then (if 97 ≤ sg p S (i + 1) ∧ sg p S (i + 1) ≤ 120 then some (0, sg p S i - 65, sg p S (i + 1) - 97, i + 2) else if sg p S (i + 1) = 45 then some (1, sg p S i - 65, 0, i + 2) else if sg p S (i + 1) = 62 then (if 48 ≤ sg p S (i + 2) ∧ sg p S (i + 2) ≤ 57 then some (2, sg p S i - 65, sg p S (i + 2) - 48, i + 3) else none) else none) else none
def pE (p : Nat → Nat) (S i : Nat) : Nat := if sg p S i = 42 then i + 1 else if 65 ≤ sg p S i ∧ sg p S i ≤ 72 then (if sg p S (i + 1) = 62 then i + 2 else i + 1) else i
theorem sg_in {p : Nat → Nat} {S i : Nat} (h : 0 < sg p S i) : i < S ∧ sg p S i = p i := by
  unfold sg at *
  by_cases c : i < S
  · rw [if_pos c]; exact ⟨c, rfl⟩
  · rw [if_neg c] at h; omega
theorem pA_some {p : Nat → Nat} {S i : Nat} (hs : sAt p i = some 0) {k v x j : Nat} (h : pA p S i = some (k, v, x, j)) : i < j ∧ j ≤ S ∧ sAt p j = some 0 := by
  unfold pA at h
  by_cases c1 : sg p S i = 46
  · rw [if_pos c1] at h
    cases h
    obtain ⟨a, b⟩ := sg_in (p := p) (S := S) (i := i) (by omega)
    refine ⟨by omega, by omega, ?_⟩
    rw [sAt_1 hs, ← b, c1]
    rfl
  rw [if_neg c1] at h
  by_cases c2 : sg p S i = 42
  · rw [if_pos c2] at h
    by_cases d : 48 ≤ sg p S (i + 1) ∧ sg p S (i + 1) ≤ 57
    · rw [if_pos d] at h
      cases h
      obtain ⟨a, b⟩ := sg_in (p := p) (S := S) (i := i) (by omega)
      obtain ⟨a2, b2⟩ := sg_in (p := p) (S := S) (i := i + 1) (by omega)
      refine ⟨by omega, by omega, ?_⟩
      have e1 : sAt p (i + 1) = some 2 := by
        rw [sAt_1 hs, ← b, c2]
        rfl
      rw [sAt_1 e1, ← b2]
      exact if_pos d
    · rw [if_neg d] at h
      cases h
  rw [if_neg c2] at h
  by_cases c3 : 65 ≤ sg p S i ∧ sg p S i ≤ 72
  · rw [if_pos c3] at h
    obtain ⟨a, b⟩ := sg_in (p := p) (S := S) (i := i) (by omega)
    have e1 : sAt p (i + 1) = some 1 := by
      rw [sAt_1 hs, ← b]
      exact if_pos c3
    by_cases d1 : 97 ≤ sg p S (i + 1) ∧ sg p S (i + 1) ≤ 120
    · rw [if_pos d1] at h
      cases h
      obtain ⟨a2, b2⟩ := sg_in (p := p) (S := S) (i := i + 1) (by omega)
      refine ⟨by omega, by omega, ?_⟩
      rw [sAt_1 e1, ← b2]
      exact if_pos d1
    rw [if_neg d1] at h
    by_cases d2 : sg p S (i + 1) = 45
    · rw [if_pos d2] at h
      cases h
      obtain ⟨a2, b2⟩ := sg_in (p := p) (S := S) (i := i + 1) (by omega)
      refine ⟨by omega, by omega, ?_⟩
      rw [sAt_1 e1, ← b2, d2]
      rfl
    rw [if_neg d2] at h
    by_cases d3 : sg p S (i + 1) = 62
    · rw [if_pos d3] at h
      by_cases d4 : 48 ≤ sg p S (i + 2) ∧ sg p S (i + 2) ≤ 57
      · rw [if_pos d4] at h
        cases h
        obtain ⟨a2, b2⟩ := sg_in (p := p) (S := S) (i := i + 1) (by omega)
        obtain ⟨a3, b3⟩ := sg_in (p := p) (S := S) (i := i + 2) (by omega)
        refine ⟨by omega, by omega, ?_⟩
        have e2 : sAt p (i + 2) = some 2 := by
          rw [sAt_1 e1, ← b2, d3]
          rfl
        rw [sAt_1 e2, ← b3]
        exact if_pos d4
      · rw [if_neg d4] at h
        cases h
    · rw [if_neg d3] at h
      cases h
  · rw [if_neg c3] at h
    cases h
/-- no act at i: the place of the fault is where the reading stops -/
theorem pA_none {p : Nat → Nat} {S i : Nat} (hi : i < S) (hs : sAt p i = some 0) (h : pA p S i = none) : (pE p S i < S ∧ ∃ st, sAt p (pE p S i) = some st ∧ fN st (p (pE p S i)) = none) ∨ (pE p S i = S ∧ ∃ t, t ≠ 0 ∧ sAt p S = some t) := by
  have b : sg p S i = p i := if_pos hi
  have fin : ∀ e st, e ≤ S → sAt p e = some st → (e = S → st ≠ 0) → (e < S → fN st (sg p S e) = none) → (e < S ∧ ∃ st, sAt p e = some st ∧ fN st (p e) = none) ∨ (e = S ∧ ∃ t, t ≠ 0 ∧ sAt p S = some t) := fun e st h1 h2 h3 h4 => by
    rcases Nat.lt_or_ge e S with q | q
    · refine Or.inl ⟨q, st, h2, ?_⟩
      have := h4 q
      rw [show sg p S e = p e from if_pos q] at this
      exact this
    · have : e = S := by omega
      subst this
      exact Or.inr ⟨rfl, st, h3 rfl, h2⟩
  unfold pA at h
  by_cases c1 : sg p S i = 46
  · rw [if_pos c1] at h
    cases h
  rw [if_neg c1] at h
  by_cases c2 : sg p S i = 42
  · rw [if_pos c2] at h
    rw [show pE p S i = i + 1 from if_pos c2]
    refine fin (i + 1) 2 (by omega) (by rw [sAt_1 hs, ← b, c2]; rfl) (fun _ => by decide) (fun _ => ?_)
    by_cases d : 48 ≤ sg p S (i + 1) ∧ sg p S (i + 1) ≤ 57
    · rw [if_pos d] at h
      cases h
    · exact if_neg d
  rw [if_neg c2] at h
  by_cases c3 : 65 ≤ sg p S i ∧ sg p S i ≤ 72
  · rw [if_pos c3] at h
    have e1 : sAt p (i + 1) = some 1 := by
      rw [sAt_1 hs, ← b]
      exact if_pos c3
    by_cases d1 : 97 ≤ sg p S (i + 1) ∧ sg p S (i + 1) ≤ 120
    · rw [if_pos d1] at h
      cases h
    rw [if_neg d1] at h
    by_cases d2 : sg p S (i + 1) = 45
    · rw [if_pos d2] at h
      cases h
    rw [if_neg d2] at h
    by_cases d3 : sg p S (i + 1) = 62
    · rw [if_pos d3] at h
      rw [show pE p S i = i + 2 from by unfold pE; rw [if_neg c2, if_pos c3, if_pos d3]]
      obtain ⟨a2, b2⟩ := sg_in (p := p) (S := S) (i := i + 1) (by omega)
      refine fin (i + 2) 2 (by omega) (by rw [sAt_1 e1, ← b2, d3]; rfl) (fun _ => by decide) (fun _ => ?_)
      by_cases d : 48 ≤ sg p S (i + 2) ∧ sg p S (i + 2) ≤ 57
      · rw [if_pos d] at h
        cases h
      · exact if_neg d
    · rw [show pE p S i = i + 1 from by unfold pE; rw [if_neg c2, if_pos c3, if_neg d3]]
      refine fin (i + 1) 1 (by omega) e1 (fun _ => by decide) (fun _ => ?_)
      show (if 97 ≤ sg p S (i + 1) ∧ sg p S (i + 1) ≤ 120 then some 0 else if sg p S (i + 1) = 45 then some 0 else if sg p S (i + 1) = 62 then some 2 else none) = none
      rw [if_neg d1, if_neg d2, if_neg d3]
  · rw [show pE p S i = i from by unfold pE; rw [if_neg c2, if_neg c3]]
    refine fin i 0 (by omega) hs (fun e => by omega) (fun _ => ?_)
    show (if 65 ≤ sg p S i ∧ sg p S i ≤ 72 then some 1 else if sg p S i = 42 then some 2 else if sg p S i = 46 then some 0 else none) = none
    rw [if_neg c3, if_neg c2, if_neg c1]
