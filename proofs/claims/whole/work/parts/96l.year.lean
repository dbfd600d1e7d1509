/-! a year -/
def kd (q : Nat) : Nat := if q < 3 then 0 else if q = 3 then 1 else if q < 6 then 2 else if q = 6 then 3 else 4
def nm (k : Nat) : Nat := if k = 0 then 24 else 10
theorem kd_tab : ∀ q, q < 8 → kX4_drawnKind (nI q) = some (nI (kd q)) := by decide +kernel
theorem nm_tab : ∀ k, k < 5 → (if nI k = 0 then some (24 : Int32) else some 10) = some (nI (nm k)) ∧ 0 < nm k ∧ nm k ≤ 24 := by decide +kernel
theorem kd_lt (q : Nat) : kd q < 5 := by
  unfold kd
  repeat' split
  all_goals omega
def dX (s : Nat) : Nat → Nat
  | 0 => s
  | i + 1 => (75 * dX s i + 74) % 65537
theorem dX_lt {s : Nat} (hs : s ≤ 9999) : ∀ i, dX s i < 65537
  | 0 => by show s < 65537; omega
  | i + 1 => Nat.mod_lt _ (by omega)
def yS (A : qN) (k v x : Nat) : qN := if yW A k v x = 0 then yA A k v x else A
def yR (s : Nat) (A : qN) : Nat → qN
  | 0 => A
  | i + 1 => yS (yR s A i) (kd (dX s (i + 1) / 8 % 8)) (dX s (i + 1) % 8) (dX s (i + 1) / 64 % nm (kd (dX s (i + 1) / 8 % 8)))
theorem kd_V {Y : Nat} : aV (kd (Y / 8 % 8)) (Y % 8) (Y / 64 % nm (kd (Y / 8 % 8))) := by
  have hv : Y % 8 < 8 := Nat.mod_lt _ (by omega)
  obtain ⟨q, hq⟩ : ∃ q, q = Y / 8 % 8 := ⟨_, rfl⟩
  rw [← hq]
  have h8 : q < 8 := by omega
  rcases (show q < 3 ∨ q = 3 ∨ (3 < q ∧ q < 6) ∨ q = 6 ∨ q = 7 by omega) with c | c | c | c | c
  · have e : kd q = 0 := if_pos c
    rw [e]
    exact Or.inl ⟨rfl, hv, Nat.mod_lt _ (by decide)⟩
  · have e : kd q = 1 := by rw [c]; rfl
    rw [e]
    exact Or.inr (Or.inl ⟨rfl, hv⟩)
  · have e : kd q = 2 := by
      rcases (show q = 4 ∨ q = 5 by omega) with z | z <;> rw [z] <;> rfl
    rw [e]
    exact Or.inr (Or.inr (Or.inl ⟨rfl, hv, Nat.mod_lt _ (by decide)⟩))
  · have e : kd q = 3 := by rw [c]; rfl
    rw [e]
    exact Or.inr (Or.inr (Or.inr (Or.inl ⟨rfl, Nat.mod_lt _ (by decide)⟩)))
  · have e : kd q = 4 := by rw [c]; rfl
    rw [e]
    exact Or.inr (Or.inr (Or.inr (Or.inr rfl)))
theorem yS_W {A : qN} (h : qW A) {k v x : Nat} (ha : aV k v x) : qW (yS A k v x) := by
  unfold yS
  by_cases c : yW A k v x = 0
  · rw [if_pos c]
    exact yA_W h ha c
  · rw [if_neg c]
    exact h
theorem yR_W {A : qN} {s : Nat} (h : qW A) : ∀ i, qW (yR s A i)
  | 0 => h
  | i + 1 => yS_W (yR_W h i) kd_V
theorem X4_act_n {M : qM} {A : qN} (h : qC 48 M A) {k v x : Nat} (ha : aV k v x) (hk : k ≠ 4) : qOk (kX4_act M (nI k) (nI v) (nI x)) (fun N => (∀ c, c < 48 ∨ 60 ≤ c → N c = M c) ∧ qC 48 N (yA A k v x)) := by
  unfold kX4_act
  rw [qOk_b1]
  rcases ha with ⟨rfl, hv, hx⟩ | ⟨rfl, hv⟩ | ⟨rfl, hv, hx⟩ | ⟨rfl, hx⟩ | rfl
  · rw [if_pos (show nI 0 = (0 : Int32) from rfl), qwr_k hv (by omega), qOk_some, qOk_some]
    refine ⟨fun c hc => by rw [qst_n (by omega)], ?_⟩
    have := h.set_no v (x + 1)
    rw [nI_pred] at this
    exact this
  · rw [if_neg (show ¬ nI 1 = (0 : Int32) from by decide), if_pos (show nI 1 = (1 : Int32) from rfl), qwr_k hv (by omega), qOk_some, qOk_some]
    refine ⟨fun c hc => by rw [qst_n (by omega)], ?_⟩
    exact h.set_no v 0
  · rw [if_neg (show ¬ nI 2 = (0 : Int32) from by decide), if_neg (show ¬ nI 2 = (1 : Int32) from by decide), if_pos (show nI 2 = (2 : Int32) from rfl), qwr_k hv (by omega), qOk_some, qOk_some]
    exact ⟨fun c hc => by rw [qst_n (by omega)], h.set_pl v x⟩
  · rw [if_neg (show ¬ nI 3 = (0 : Int32) from by decide), if_neg (show ¬ nI 3 = (1 : Int32) from by decide), if_neg (show ¬ nI 3 = (2 : Int32) from by decide), if_pos (show nI 3 = (3 : Int32) from rfl), h.cl, shl1 (by omega), fa_xor, qvl_eq, qOk_some, qOk_some]
    exact ⟨fun c hc => by rw [qst_n (by omega)], h.set_cl _⟩
  · exact absurd rfl hk
theorem draw_I {X : Nat} (hX : X < 65537) : ((75 : Int32) * nI X + 74) - ((75 : Int32) * nI X + 74) / 65537 * 65537 = nI ((75 * X + 74) % 65537) := by
  rw [show (75 : Int32) * nI X = nI (75 * X) from pk_mul 75 X, show nI (75 * X) + 74 = nI (75 * X + 74) from nI_add _ 74]
  exact pk_rem (d := 65537) (by omega) (by omega) (by omega)
theorem q8_I {Y : Nat} (hY : Y < 65537) : nI Y - nI Y / 8 * 8 = nI (Y % 8) := pk_rem (d := 8) (by omega) (by omega) (by omega)
theorem d8_I {Y : Nat} (hY : Y < 65537) : nI Y / 8 = nI (Y / 8) := pk_div (d := 8) (by omega) (by omega) (by omega)
theorem d64_I {Y : Nat} (hY : Y < 65537) : nI Y / 64 = nI (Y / 64) := pk_div (d := 64) (by omega) (by omega) (by omega)
theorem drawActs_eq {M : qM} {A : qN} {s m : Nat} (h : qC 1 M A) (hw : qW A) (hs : s ≤ 9999) (hm : m ≤ 99) : qOk (kX4_drawActs M 1 (nI s) (nI m)) (fun N => (∀ c, c < 48 → N c = M c) ∧ qC 48 N (yR s A m)) := by
  unfold kX4_drawActs
  rw [qOk_b1]
  refine qOk.m (X1_become_eq (b0 := 48) (b1 := 1) (Or.inr (by omega)) h hw) (fun M1 ⟨m1, m2⟩ => ?_)
  rw [qOk_b1]
  refine qlp_for (fun i st => ∃ N, st = (nI (dX s i), nI i, N) ∧ (∀ c, c < 48 → N c = M c) ∧ qC 48 N (yR s A i)) m (by omega) ⟨M1, rfl, fun c hc => m1 c (by omega), m2⟩ ?_ ?_
  · rintro i st hi ⟨N, rfl, n1, n2⟩
    show qOk (kX4_drawActs_L14 (nI m) (nI (dX s i)) (nI i) N) _
    unfold kX4_drawActs_L14
    have hWi : qW (yR s A i) := yR_W hw i
    have hY : dX s (i + 1) < 65537 := dX_lt hs (i + 1)
    rw [if_neg (nI_ge hi (by omega)), draw_I (dX_lt hs i), show (75 * dX s i + 74) % 65537 = dX s (i + 1) from rfl, qvl_eq]
    obtain ⟨Y, eY⟩ : ∃ Y, Y = dX s (i + 1) := ⟨_, rfl⟩
    have eS : yR s A (i + 1) = yS (yR s A i) (kd (Y / 8 % 8)) (Y % 8) (Y / 64 % nm (kd (Y / 8 % 8))) := by rw [eY]; rfl
    have ha : aV (kd (Y / 8 % 8)) (Y % 8) (Y / 64 % nm (kd (Y / 8 % 8))) := kd_V
    rw [← eY] at hY
    rw [← eY]
    obtain ⟨k, ek⟩ : ∃ k, k = kd (Y / 8 % 8) := ⟨_, rfl⟩
    have kl : k < 5 := by rw [ek]; exact kd_lt _
    obtain ⟨t1, t2, t3⟩ := nm_tab k kl
    rw [q8_I hY, d8_I hY, d64_I hY, show nI (Y / 8) - nI (Y / 8) / 8 * 8 = nI (Y / 8 % 8) from pk_rem (d := 8) (by omega) (by omega) (by omega), kd_tab _ (by omega), qb1_some, ← ek, t1, qb1_some]
    rw [← ek] at ha eS
    unfold qnz
    rw [if_neg (nI_ne0 t2 (by omega)), show nI (Y / 64) - nI (Y / 64) / nI (nm k) * nI (nm k) = nI (Y / 64 % nm k) from pk_rem (by omega) t2 (by omega), qvl_eq, X4_whyNot_eq n2 hWi ha, qb1_some]
    have lW := yW_lt (yR s A i) k (Y % 8) (Y / 64 % nm k)
    by_cases c : yW (yR s A i) k (Y % 8) (Y / 64 % nm k) = 0
    · have e1 : yR s A (i + 1) = yA (yR s A i) k (Y % 8) (Y / 64 % nm k) := by rw [eS]; exact if_pos c
      rw [if_pos (show nI (yW (yR s A i) k (Y % 8) (Y / 64 % nm k)) = 0 by rw [c]; rfl), qOk_b1, qOk_b1]
      by_cases d : k = 4
      · rw [if_pos (show nI k = 4 by rw [d]; rfl), qOk_b1]
        refine qOk.m (X0_shineOn_eq n2 hWi (Or.inr (by omega))) (fun Q ⟨q1, q2, _⟩ => ?_)
        rw [qOk_some, qOk_b1]
        have cQ : qC 48 Q (yR s A i) := n2.same (fun k a b => q1 k (by omega) (by omega) (by omega))
        refine qOk.m (X4_act_eq cQ hWi q2 ha) (fun O ⟨o1, o2⟩ => ?_)
        rw [qOk_some, qvl_eq, qOk_some]
        exact ⟨O, by rw [nI_succ i, eY], fun c hc => by rw [o1 c (by omega), q1 c (by omega) (by omega) (by omega), n1 c hc], by rw [e1]; exact o2⟩
      · rw [if_neg (show ¬ nI k = 4 from nIne (b := 4) d (by omega) (by omega)), qOk_some, qOk_b1]
        refine qOk.m (X4_act_n n2 ha d) (fun O ⟨o1, o2⟩ => ?_)
        rw [qOk_some, qvl_eq, qOk_some]
        exact ⟨O, by rw [nI_succ i, eY], fun c hc => by rw [o1 c (by omega), n1 c hc], by rw [e1]; exact o2⟩
    · have e1 : yR s A (i + 1) = yR s A i := by rw [eS]; exact if_neg c
      rw [if_neg (show ¬ nI (yW (yR s A i) k (Y % 8) (Y / 64 % nm k)) = 0 from fun z => c ((nI_inj (by omega) (by omega)).mp (show _ = nI 0 from z))), qb1_some, qvl_eq, qOk_some]
      exact ⟨N, by rw [nI_succ i, eY], n1, by rw [e1]; exact n2⟩
  · rintro st ⟨N, rfl, n1, n2⟩
    show qOk (kX4_drawActs_L14 (nI m) (nI (dX s m)) (nI m) N) _
    unfold kX4_drawActs_L14
    rw [if_pos (nI_le (Nat.le_refl m) (by omega)), qOk_some]
    show qOk (some N) _
    rw [qOk_some]
    exact ⟨n1, n2⟩
