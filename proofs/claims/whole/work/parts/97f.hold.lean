/-! hold: the most beats from a state of rests (three digits) -/
def dg (x v : Nat) : Nat := if v = 0 then x / 100 else if v = 1 then x / 10 % 10 else x % 10
theorem dg_le {x v : Nat} (h : x < 1000) : dg x v ≤ 9 := by
  unfold dg
  repeat' split
  all_goals omega
/-- rests behind the song of v -/
def nf (s r : Nat → Nat) (x v u : Nat) : Nat := if u = v then r v else dg x u - s v
def nx (s r : Nat → Nat) (x v : Nat) : Nat := 100 * nf s r x v 0 + 10 * nf s r x v 1 + nf s r x v 2
def hOk (s r : Nat → Nat) : Prop := (∀ v, v < 3 → 1 ≤ s v ∧ s v ≤ 9) ∧ ∀ v, v < 3 → r v ≤ 9
theorem nf_le {s r : Nat → Nat} (h : hOk s r) {x v u : Nat} (hx : x < 1000) (hv : v < 3) : nf s r x v u ≤ 9 := by
  unfold nf
  have a := h.2 v hv
  have b := dg_le (v := u) hx
  split <;> omega
theorem nx_lt {s r : Nat → Nat} (h : hOk s r) {x v : Nat} (hx : x < 1000) (hv : v < 3) : nx s r x v < 1000 := by
  unfold nx
  have a := nf_le h (u := 0) hx hv
  have b := nf_le h (u := 1) hx hv
  have c := nf_le h (u := 2) hx hv
  omega
def bV3 (s : Nat → Nat) (x : Nat) (G : Nat → Nat) : Nat := min 99 (mx (fun v => if dg x v = 0 then s v + G v else 0) 3)
theorem mx_at {f : Nat → Nat} : ∀ n, mx f n = 0 ∨ ∃ j, j < n ∧ mx f n = f j
  | 0 => Or.inl rfl
  | n + 1 => by
    show max (mx f n) (f n) = 0 ∨ ∃ j, j < n + 1 ∧ max (mx f n) (f n) = f j
    rcases Nat.le_total (mx f n) (f n) with z | z
    · rw [Nat.max_eq_right z]
      exact Or.inr ⟨n, by omega, rfl⟩
    · rw [Nat.max_eq_left z]
      rcases mx_at n with w | ⟨j, hj, w⟩
      · exact Or.inl w
      · exact Or.inr ⟨j, by omega, w⟩
theorem bV3_le99 {s : Nat → Nat} {x : Nat} {G : Nat → Nat} : bV3 s x G ≤ 99 := Nat.min_le_left _ _
theorem bV3_ge {s : Nat → Nat} {x : Nat} {G : Nat → Nat} {v : Nat} (hv : v < 3) (hd : dg x v = 0) : min 99 (s v + G v) ≤ bV3 s x G := by
  have a := mx_ge (f := fun v => if dg x v = 0 then s v + G v else 0) hv
  have a2 : (if dg x v = 0 then s v + G v else 0) ≤ mx (fun v => if dg x v = 0 then s v + G v else 0) 3 := a
  rw [if_pos hd] at a2
  exact Nat.le_min.mpr ⟨Nat.min_le_left _ _, Nat.le_trans (Nat.min_le_right _ _) a2⟩
theorem bV3_at (s : Nat → Nat) (x : Nat) (G : Nat → Nat) : bV3 s x G = 0 ∨ ∃ v, v < 3 ∧ dg x v = 0 ∧ bV3 s x G = min 99 (s v + G v) := by
  unfold bV3
  rcases mx_at (f := fun v => if dg x v = 0 then s v + G v else 0) 3 with z | ⟨v, hv, z⟩
  · rw [z]
    exact Or.inl rfl
  · by_cases d : dg x v = 0
    · have z2 : mx (fun v => if dg x v = 0 then s v + G v else 0) 3 = s v + G v := by rw [z]; exact if_pos d
      rw [z2]
      exact Or.inr ⟨v, hv, d, rfl⟩
    · have z2 : mx (fun v => if dg x v = 0 then s v + G v else 0) 3 = 0 := by rw [z]; exact if_neg d
      rw [z2]
      exact Or.inl rfl
theorem bV3_mo {s : Nat → Nat} {x : Nat} {G H : Nat → Nat} (h : ∀ v, v < 3 → dg x v = 0 → G v ≤ H v) : bV3 s x G ≤ bV3 s x H := by
  rcases bV3_at s x G with z | ⟨v, hv, d, z⟩
  · rw [z]
    exact Nat.zero_le _
  · rw [z]
    have a := bV3_ge (s := s) (G := H) hv d
    have b := h v hv d
    omega
def vV (s r : Nat → Nat) : Nat → Nat → Nat
  | 0, _ => 0
  | k + 1, x => bV3 s x (fun v => vV s r k (nx s r x v))
theorem vV_99 {s r : Nat → Nat} : ∀ k x, vV s r k x ≤ 99
  | 0, _ => Nat.zero_le _
  | _ + 1, _ => bV3_le99
theorem vV_mo {s r : Nat → Nat} : ∀ k x, vV s r k x ≤ vV s r (k + 1) x
  | 0, _ => Nat.zero_le _
  | k + 1, _ => bV3_mo (fun v _ _ => vV_mo k _)
theorem vV_gr {s r : Nat → Nat} (h : hOk s r) : ∀ k x, vV s r k x < vV s r (k + 1) x → min 99 k ≤ vV s r k x
  | 0, _, _ => Nat.min_le_right _ _
  | k + 1, x, z => by
    rcases bV3_at s x (fun v => vV s r (k + 1) (nx s r x v)) with e | ⟨v, hv, d, e⟩
    · have e2 : vV s r (k + 1 + 1) x = 0 := e
      omega
    · have e2 : vV s r (k + 1 + 1) x = min 99 (s v + vV s r (k + 1) (nx s r x v)) := e
      have a : min 99 (s v + vV s r k (nx s r x v)) ≤ vV s r (k + 1) x := bV3_ge (G := fun v => vV s r k (nx s r x v)) hv d
      have b : vV s r k (nx s r x v) < vV s r (k + 1) (nx s r x v) := by omega
      have c := vV_gr h k (nx s r x v) b
      have sv := (h.1 v hv).1
      omega
abbrev vI (s r : Nat → Nat) (x : Nat) : Nat := vV s r 99 x
theorem vI_up {s r : Nat → Nat} (h : hOk s r) (x : Nat) : vV s r 100 x ≤ vI s r x := by
  rcases Nat.lt_or_ge (vV s r 99 x) (vV s r 100 x) with z | z
  · have a := vV_gr h 99 x z
    have b := vV_99 (s := s) (r := r) 100 x
    omega
  · exact z
theorem vI_ge {s r : Nat → Nat} (h : hOk s r) {x v : Nat} (hv : v < 3) (hd : dg x v = 0) : min 99 (s v + vI s r (nx s r x v)) ≤ vI s r x :=
  Nat.le_trans (bV3_ge (G := fun v => vV s r 99 (nx s r x v)) hv hd) (vI_up h x)
theorem vI_at {s r : Nat → Nat} (x : Nat) : vI s r x = 0 ∨ ∃ v, v < 3 ∧ dg x v = 0 ∧ vI s r x ≤ min 99 (s v + vI s r (nx s r x v)) := by
  rcases bV3_at s x (fun v => vV s r 98 (nx s r x v)) with z | ⟨v, hv, d, z⟩
  · exact Or.inl z
  · refine Or.inr ⟨v, hv, d, ?_⟩
    have z2 : vV s r 99 x = min 99 (s v + vV s r 98 (nx s r x v)) := z
    have a : vV s r 98 (nx s r x v) ≤ vV s r 99 (nx s r x v) := vV_mo 98 _
    show vV s r 99 x ≤ min 99 (s v + vV s r 99 (nx s r x v))
    omega
/-! the class's states -/
def fo (v : Nat) : Nat := if v = 0 then 1 else 0
def so (v : Nat) : Nat := if v = 2 then 1 else 2
def tr (r : Nat → Nat) (c : Nat) : Nat := if c / 100 = 0 then 100 * r 0 + 10 * (c / 10 % 10) + c % 10 else if c / 100 = 1 then 100 * (c / 10 % 10) + 10 * r 1 + c % 10 else 100 * (c / 10 % 10) + 10 * (c % 10) + r 2
theorem tr_lt {r : Nat → Nat} (h : ∀ v, v < 3 → r v ≤ 9) {c : Nat} (hc : c < 300) : tr r c < 1000 := by
  have h0 := h 0 (by omega)
  have h1 := h 1 (by omega)
  have h2 := h 2 (by omega)
  unfold tr
  repeat' split
  all_goals omega
theorem dg_tr {r : Nat → Nat} (h : ∀ v, v < 3 → r v ≤ 9) {c v : Nat} (hc : c < 300) (hv : v < 3) : dg (tr r c) v = if v = c / 100 then r v else if v = fo (c / 100) then c / 10 % 10 else c % 10 := by
  have h0 := h 0 (by omega)
  have h1 := h 1 (by omega)
  have h2 := h 2 (by omega)
  unfold dg tr fo
  rcases (show v = 0 ∨ v = 1 ∨ v = 2 by omega) with z | z | z <;> subst z <;> repeat' split
  all_goals omega
def cs (s r : Nat → Nat) (c v : Nat) : Nat := 100 * v + 10 * (dg (tr r c) (fo v) - s v) + (dg (tr r c) (so v) - s v)
theorem cs_lt {s r : Nat → Nat} (h : hOk s r) {c v : Nat} (hc : c < 300) (hv : v < 3) : cs s r c v < 300 := by
  unfold cs
  have a := dg_le (v := fo v) (tr_lt h.2 hc)
  have b := dg_le (v := so v) (tr_lt h.2 hc)
  omega
theorem tr_v0 {r : Nat → Nat} {p q : Nat} (hp : p ≤ 9) (hq : q ≤ 9) : tr r (10 * p + q) = 100 * r 0 + 10 * p + q := by
  unfold tr
  rw [if_pos (by omega)]
  omega
theorem tr_v1 {r : Nat → Nat} {p q : Nat} (hp : p ≤ 9) (hq : q ≤ 9) : tr r (100 + 10 * p + q) = 100 * p + 10 * r 1 + q := by
  unfold tr
  rw [if_neg (by omega), if_pos (by omega)]
  omega
theorem tr_v2 {r : Nat → Nat} {p q : Nat} (hp : p ≤ 9) (hq : q ≤ 9) : tr r (200 + 10 * p + q) = 100 * p + 10 * q + r 2 := by
  unfold tr
  rw [if_neg (by omega), if_neg (by omega)]
  omega
theorem tr_cs {s r : Nat → Nat} (h : hOk s r) {c v : Nat} (hc : c < 300) (hv : v < 3) : tr r (cs s r c v) = nx s r (tr r c) v := by
  have a := dg_le (v := 0) (tr_lt h.2 hc)
  have b := dg_le (v := 1) (tr_lt h.2 hc)
  have d := dg_le (v := 2) (tr_lt h.2 hc)
  rcases (show v = 0 ∨ v = 1 ∨ v = 2 by omega) with z | z | z
  · subst z
    have e : cs s r c 0 = 10 * (dg (tr r c) 1 - s 0) + (dg (tr r c) 2 - s 0) := by
      show 100 * 0 + 10 * (dg (tr r c) 1 - s 0) + (dg (tr r c) 2 - s 0) = _
      omega
    have f : nx s r (tr r c) 0 = 100 * r 0 + 10 * (dg (tr r c) 1 - s 0) + (dg (tr r c) 2 - s 0) := rfl
    rw [e, f, tr_v0 (by omega) (by omega)]
  · subst z
    have e : cs s r c 1 = 100 + 10 * (dg (tr r c) 0 - s 1) + (dg (tr r c) 2 - s 1) := by
      show 100 * 1 + 10 * (dg (tr r c) 0 - s 1) + (dg (tr r c) 2 - s 1) = _
      omega
    have f : nx s r (tr r c) 1 = 100 * (dg (tr r c) 0 - s 1) + 10 * r 1 + (dg (tr r c) 2 - s 1) := rfl
    rw [e, f, tr_v1 (by omega) (by omega)]
  · subst z
    have e : cs s r c 2 = 200 + 10 * (dg (tr r c) 0 - s 2) + (dg (tr r c) 1 - s 2) := by
      show 100 * 2 + 10 * (dg (tr r c) 0 - s 2) + (dg (tr r c) 1 - s 2) = _
      omega
    have f : nx s r (tr r c) 2 = 100 * (dg (tr r c) 0 - s 2) + 10 * (dg (tr r c) 1 - s 2) + r 2 := rfl
    rw [e, f, tr_v2 (by omega) (by omega)]
theorem tr_0 {s r : Nat → Nat} {v : Nat} (hv : v < 3) : tr r (100 * v) = nx s r 0 v := by
  rcases (show v = 0 ∨ v = 1 ∨ v = 2 by omega) with z | z | z <;> subst z
  · have f : nx s r 0 0 = 100 * r 0 + 10 * (0 - s 0) + (0 - s 0) := rfl
    rw [f, Nat.zero_sub]
    rfl
  · have f : nx s r 0 1 = 100 * (0 - s 1) + 10 * r 1 + (0 - s 1) := rfl
    rw [f, Nat.zero_sub]
    rfl
  · have f : nx s r 0 2 = 100 * (0 - s 2) + 10 * (0 - s 2) + r 2 := rfl
    rw [f, Nat.zero_sub]
    rfl
theorem fo_tab : ∀ v, v < 3 → kX5_firstOther (nI v) = some (nI (fo v)) := by decide +kernel
theorem so_tab : ∀ v, v < 3 → kX5_secondOther (nI v) = some (nI (so v)) := by decide +kernel
theorem fo_lt (v : Nat) : fo v < 3 := by unfold fo; split <;> omega
theorem so_lt (v : Nat) : so v < 3 := by unfold so; split <;> omega
theorem sp_tab : ∀ a, a < 10 → ∀ b, b < 10 → (if (0 : Int32) < nI a - nI b then nI a - nI b else 0) = nI (a - b) := by decide +kernel
theorem dg_I {x : Nat} (hx : x < 1000) : nI x / 100 = nI (x / 100) ∧ nI x / 10 - nI x / 10 / 10 * 10 = nI (x / 10 % 10) ∧ nI x - nI x / 10 * 10 = nI (x % 10) := by
  refine ⟨pk_div (d := 100) (by omega) (by omega) (by omega), ?_, pk_rem (d := 10) (by omega) (by omega) (by omega)⟩
  rw [show nI x / 10 = nI (x / 10) from pk_div (d := 10) (by omega) (by omega) (by omega)]
  exact pk_rem (d := 10) (by omega) (by omega) (by omega)
def qSR (M : qM) (s r : Nat → Nat) : Prop := (∀ v, v < 3 → M 71 v = nI (s v)) ∧ ∀ v, v < 3 → M 72 v = nI (r v)
theorem restLeft_eq {M : qM} {s r : Nat → Nat} (h : hOk s r) (hM : qSR M s r) {c v : Nat} (hc : c < 300) (hv : v < 3) : kX5_restLeft M (nI c) (nI v) = some (nI (dg (tr r c) v)) := by
  unfold kX5_restLeft
  obtain ⟨e1, e2, e3⟩ := dg_I (show c < 1000 by omega)
  have hl : c / 100 < 3 := by omega
  have f3 := fo_lt (c / 100)
  rw [e2, e3, e1, qvl_eq, dg_tr h.2 hc hv]
  by_cases d : v = c / 100
  · rw [if_pos (show nI v = nI (c / 100) by rw [← d]), qrd_k hv (by omega), hM.2 v hv, if_pos d]
  · rw [if_neg (nIne d (by omega) (by omega)), fo_tab _ hl, qb1_some, if_neg d]
    by_cases f : v = fo (c / 100)
    · rw [if_pos (show nI v = nI (fo (c / 100)) by rw [← f]), qb1_some, if_pos f]
    · rw [if_neg (nIne f (by omega) (by omega)), qb1_some, if_neg f]
theorem stateBehind_eq {M : qM} {s r : Nat → Nat} (h : hOk s r) (hM : qSR M s r) {c v : Nat} (hc : c < 300) (hv : v < 3) : kX5_stateBehind M (nI c) (nI v) = some (if dg (tr r c) v = 0 then nI (cs s r c v) else -6) := by
  unfold kX5_stateBehind
  have t := tr_lt h.2 hc
  have d1 := dg_le (v := v) t
  have d2 := dg_le (v := fo v) t
  have d3 := dg_le (v := so v) t
  have sv := (h.1 v hv).2
  rw [restLeft_eq h hM hc hv, qb1_some]
  by_cases d : dg (tr r c) v = 0
  · rw [if_pos (show nI (dg (tr r c) v) ≤ 0 by rw [d]; decide), fo_tab v hv, qb1_some, restLeft_eq h hM hc (fo_lt v), qb1_some, qrd_k hv (by omega), hM.1 v hv, sp_tab _ (by omega) _ (by omega), qvl_eq, so_tab v hv, qb1_some, restLeft_eq h hM hc (so_lt v), qb1_some, qrd_k hv (by omega), hM.1 v hv, sp_tab _ (by omega) _ (by omega), qvl_eq, if_pos d, show (100 : Int32) * nI v = nI (100 * v) from pk_mul 100 v, show (10 : Int32) * nI (dg (tr r c) (fo v) - s v) = nI (10 * (dg (tr r c) (fo v) - s v)) from pk_mul 10 _, nI_add, nI_add]
    rfl
  · rw [if_neg (nI_nle (by omega) (by omega)), if_neg d]
