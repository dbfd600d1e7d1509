/-! listen: the reference, and both -/
theorem li_38 {M : qM} : qOk (qlp (S := Int32 × qM) (E := (qM)) (fun s => kX8_listen_L38 s.1 s.2) qFu (0, M)) (fun N => (∀ c, c ≠ 14 → N c = M c) ∧ ∀ j, j < 25 → N 14 j = 0) := by
  refine qlp_for (fun k s => ∃ N, s = (nI k, N) ∧ (∀ c, c ≠ 14 → N c = M c) ∧ ∀ j, j < k → N 14 j = 0) 25 (by omega) ⟨M, rfl, fun _ _ => rfl, fun j hj => by omega⟩ ?_ ?_
  · rintro k s hk ⟨N, rfl, n1, n2⟩
    show qOk (kX8_listen_L38 (nI k) N) _
    unfold kX8_listen_L38
    rw [if_neg (show ¬ (25 : Int32) ≤ nI k from nI_ge (b := 25) hk (by decide)), qwr_k hk (by omega), qvl_eq, qOk_some]
    refine ⟨_, by rw [nI_succ k], fun c hc => by rw [qst_n hc, n1 c hc], fun j hj => ?_⟩
    rw [qst_at]
    by_cases e : j = k
    · rw [if_pos e]
    · rw [if_neg e]
      exact n2 j (by omega)
  · rintro s ⟨N, rfl, n1, n2⟩
    show qOk (kX8_listen_L38 (nI 25) N) _
    unfold kX8_listen_L38
    rw [if_pos (show (25 : Int32) ≤ nI 25 from by decide), qOk_some]
    exact ⟨n1, n2⟩
theorem li_62 {M : qM} {A : qN} (h : qDm M A) (hw : qW A) (ha : qAp2 M A) {g : Nat} (hg : g < 10) (h0 : ∀ j, j < 25 → M 14 j = 0) : qOk (qlp (S := Int32 × Int32 × qM) (E := (Int32 × qM)) (fun s => kX8_listen_L62 (nI g) s.1 s.2.1 s.2.2) qFu (0, 0, M)) (fun o => o.1 = nI (wG A g) ∧ ∀ c, c ≠ 14 → o.2 c = M c) := by
  refine qlp_for (fun k s => ∃ N, s = (nI (mx (fun j => hcn (hp A g j) k) 25), nI k, N) ∧ (∀ c, c ≠ 14 → N c = M c) ∧ ∀ j, j < 25 → N 14 j = nI (hcn (hp A g j) k)) 1000 (by omega) ⟨M, ?_, fun _ _ => rfl, fun j hj => by rw [h0 j hj]; rfl⟩ ?_ ?_
  · have : mx (fun j => hcn (hp A g j) 0) 25 = 0 := Nat.le_zero.mp (mx_le (fun j _ => Nat.le_refl 0))
    rw [this]
    rfl
  · rintro k s hk ⟨N, rfl, n1, n2⟩
    show qOk (kX8_listen_L62 (nI g) (nI (mx (fun j => hcn (hp A g j) k) 25)) (nI k) N) _
    unfold kX8_listen_L62
    have hN : qDm N A := h.sm (fun c hc => n1 c (by omega))
    have hA : qAp2 N A := fun g hg j hj => by rw [n1 13 (by decide)]; exact ha g hg j hj
    rw [if_neg (show ¬ (1000 : Int32) ≤ nI k from nI_ge (b := 1000) hk (by decide)), isLost_eq hN hw hA hk, qb1_some]
    by_cases c : Lb A k = true
    · have kn : k % 100 < 24 := by
        have z := c
        unfold Lb at z
        rw [Bool.and_eq_true] at z
        exact of_decide_eq_true z.1
      have hx := he_le (d := dA A (k / 100) g) kn
      have ey : dA A (k / 100) g = dA A g (k / 100) := dA_sy hw (by omega) hg
      have y1 := hcn_y (hp_y (A := A) (g := g) (j := he (dA A (k / 100) g) (k % 100)) (l := k) c (by rw [ey]))
      have b1 := hcn_le (hp A g (he (dA A (k / 100) g) (k % 100))) (k + 1)
      have b2 := mx_le (f := fun j => hcn (hp A g j) k) (c := k) (n := 25) (fun j _ => hcn_le _ _)
      have eo : ∀ j, j < 25 → j ≠ he (dA A (k / 100) g) (k % 100) → hcn (hp A g j) (k + 1) = hcn (hp A g j) k := fun j _ hj => hcn_n (hp_x (by rw [← ey]; exact fun z => hj z.symm))
      have em : mx (fun j => hcn (hp A g j) (k + 1)) 25 = max (mx (fun j => hcn (hp A g j) k) 25) (hcn (hp A g (he (dA A (k / 100) g) (k % 100))) (k + 1)) := mx_up (f := fun j => hcn (hp A g j) k) (f' := fun j => hcn (hp A g j) (k + 1)) hx eo (by rw [y1]; omega)
      have eq14 : ∀ (O : qM) (i : Nat) (y : Int32), qst O 14 i y 14 i = y := fun O i y => by rw [qst_at, if_pos rfl]
      rw [if_pos c, if10, noteIn_eq hA hk hg, qb1_some, Int32.sub_add_cancel, qvl_eq, qrd_k hx (by omega), n2 _ hx, nI_1, ← y1, qwr_k hx (by omega), qrd_k hx (by omega), eq14]
      have fin : ∀ v : Int32, v = nI (mx (fun j => hcn (hp A g j) (k + 1)) 25) → qOk (qb2 (some (v, qst N 14 (he (dA A (k / 100) g) (k % 100)) (nI (hcn (hp A g (he (dA A (k / 100) g) (k % 100))) (k + 1))))) (fun v21 M22 => qvl (nI k + 1) (fun v30 => some (.inl (v21, v30, M22) : (Int32 × Int32 × qM) ⊕ (Int32 × qM))))) (Sum.elim (fun s => ∃ N, s = (nI (mx (fun j => hcn (hp A g j) (k + 1)) 25), nI (k + 1), N) ∧ (∀ c, c ≠ 14 → N c = M c) ∧ ∀ j, j < 25 → N 14 j = nI (hcn (hp A g j) (k + 1))) (fun o => o.1 = nI (wG A g) ∧ ∀ c, c ≠ 14 → o.2 c = M c)) := fun v hv => by
        rw [qb2_some, qvl_eq, qOk_some]
        refine ⟨_, by rw [hv, nI_succ k], fun c hc => by rw [qst_n hc, n1 c hc], fun j hj => ?_⟩
        rw [qst_at]
        by_cases e : j = he (dA A (k / 100) g) (k % 100)
        · rw [if_pos e, e]
        · rw [if_neg e, n2 j hj, eo j hj e]
      by_cases d : hcn (hp A g (he (dA A (k / 100) g) (k % 100))) (k + 1) ≤ mx (fun j => hcn (hp A g j) k) 25
      · rw [if_pos (nI_le d (by omega)), qb1_some]
        exact fin _ (by rw [em, Nat.max_eq_left d])
      · rw [if_neg (nI_ge (by omega) (by omega)), qrd_k hx (by omega), eq14, qb1_some]
        exact fin _ (by rw [em, Nat.max_eq_right (by omega)])
    · have eo : ∀ j, j < 25 → hcn (hp A g j) (k + 1) = hcn (hp A g j) k := fun j _ => hcn_n (hp_no c)
      rw [if_neg c, if00, qb2_some, qvl_eq, qOk_some]
      refine ⟨N, ?_, n1, fun j hj => by rw [eo j hj]; exact n2 j hj⟩
      rw [nI_succ k, mx_cg (f := fun j => hcn (hp A g j) k) (f' := fun j => hcn (hp A g j) (k + 1)) eo]
  · rintro s ⟨N, rfl, n1, n2⟩
    show qOk (kX8_listen_L62 (nI g) (nI (mx (fun j => hcn (hp A g j) 1000) 25)) (nI 1000) N) _
    unfold kX8_listen_L62
    rw [if_pos (show (1000 : Int32) ≤ nI 1000 from by decide), qOk_some]
    exact ⟨rfl, n1⟩
theorem wG_0 {A : qN} (h : hcn (Lb A) 1000 = 0) (g : Nat) : wG A g = 0 := by
  refine Nat.le_zero.mp (mx_le (fun j _ => ?_))
  have e : hcn (hp A g j) (0 + 1000) = hcn (hp A g j) 0 := hcn_no 1000 (fun n hn => hp_no (fun z => by
    rw [Nat.zero_add] at z
    have a := hcn_y z
    have b := hcn_mo (Lb A) (show n + 1 ≤ 1000 by omega)
    omega))
  rw [Nat.zero_add] at e
  show hcn (hp A g j) 1000 ≤ 0
  rw [e]
  exact Nat.le_refl 0
theorem hcn_ex {p : Nat → Bool} : ∀ k, hcn p k ≠ 0 → ∃ l, l < k ∧ p l = true
  | 0, h => absurd rfl h
  | k + 1, h => by
    by_cases c : p k = true
    · exact ⟨k, by omega, c⟩
    · rw [hcn_n c] at h
      obtain ⟨l, a, b⟩ := hcn_ex k h
      exact ⟨l, by omega, b⟩
theorem wG_p {A : qN} (h : hcn (Lb A) 1000 ≠ 0) (g : Nat) : 0 < wG A g := by
  obtain ⟨l, a, b⟩ := hcn_ex 1000 h
  have kn : l % 100 < 24 := by
    have z := b
    unfold Lb at z
    rw [Bool.and_eq_true] at z
    exact of_decide_eq_true z.1
  have y := hcn_y (hp_y (g := g) b rfl)
  have m := hcn_mo (hp A g (he (dA A g (l / 100)) (l % 100))) (show l + 1 ≤ 1000 by omega)
  have q := mx_ge (f := fun j => hcn (hp A g j) 1000) (n := 25) (j := he (dA A g (l / 100)) (l % 100)) (he_le kn)
  show 0 < mx (fun j => hcn (hp A g j) 1000) 25
  have q2 : hcn (hp A g (he (dA A g (l / 100)) (l % 100))) 1000 ≤ mx (fun j => hcn (hp A g j) 1000) 25 := q
  omega
/-- what the reference has found, of the first k galleries -/
noncomputable def rB (A : qN) (k : Nat) : Int32 × Int32 := if hcn (Lb A) 1000 = 0 then (-6, 1000000) else match k with
  | 0 => (-6, 1000000)
  | k + 1 => (nI (bm (wG A) k).1, nI (bm (wG A) k).2)
theorem li_25 {M : qM} {A : qN} (h : qDm M A) (hw : qW A) (ha : qAp2 M A) : qOk (qlp (S := Int32 × Int32 × Int32 × qM) (E := (Int32 × Int32 × qM)) (fun s => kX8_listen_L25 s.1 s.2.1 s.2.2.1 s.2.2.2) qFu ((-6), 1000000, 0, M)) (fun o => o.1 = (rB A 10).1 ∧ o.2.1 = (rB A 10).2 ∧ ∀ c, c ≠ 14 → o.2.2 c = M c) := by
  refine qlp_for (fun k s => ∃ N, s = ((rB A k).1, (rB A k).2, nI k, N) ∧ ∀ c, c ≠ 14 → N c = M c) 10 (by omega) ⟨M, ?_, fun _ _ => rfl⟩ ?_ ?_
  · unfold rB
    by_cases z : hcn (Lb A) 1000 = 0
    · rw [if_pos z]; rfl
    · rw [if_neg z]; rfl
  · rintro k s hk ⟨N, rfl, n1⟩
    show qOk (kX8_listen_L25 (rB A k).1 (rB A k).2 (nI k) N) _
    unfold kX8_listen_L25
    rw [if_neg (show ¬ (10 : Int32) ≤ nI k from nI_ge (b := 10) hk (by decide)), qOk_b1]
    refine qOk.m (li_38 (M := N)) (fun Q ⟨q1, q2⟩ => ?_)
    have hQ : qDm Q A := h.sm (fun c hc => by rw [q1 c (by omega), n1 c (by omega)])
    have hA : qAp2 Q A := fun g hg j hj => by rw [q1 13 (by decide), n1 13 (by decide)]; exact ha g hg j hj
    rw [qOk_b2]
    refine qOk.m (li_62 hQ hw hA hk q2) (fun o ⟨o1, o2⟩ => ?_)
    have wl := wG_le (A := A) k
    have uo : ∀ c, c ≠ 14 → o.2 c = M c := fun c hc => by rw [o2 c hc, q1 c hc, n1 c hc]
    rw [o1]
    by_cases z : hcn (Lb A) 1000 = 0
    · have e : ∀ k, rB A k = (-6, 1000000) := fun k => if_pos z
      rw [wG_0 z k, if_pos (show nI 0 ≤ 0 from by decide), qb1_some, if00, qb1_some, if00, qb1_some, qvl_eq, nI_1, qOk_some, e k]
      exact ⟨o.2, by rw [e (k + 1)], uo⟩
    · have wp := wG_p z k
      have e : ∀ k, rB A (k + 1) = (nI (bm (wG A) k).1, nI (bm (wG A) k).2) := fun k => if_neg z
      rw [if_neg (nI_nle wp (by omega))]
      cases k with
      | zero =>
        have e0 : rB A 0 = (-6, 1000000) := if_neg z
        rw [e0]
        dsimp only
        rw [if_neg (show ¬ (1000000 : Int32) ≤ nI (wG A 0) from nI_ge (b := 1000000) (by omega) (by decide)), qb1_some, if10, qb1_some, if10, qb1_some, qvl_eq, nI_1, qOk_some]
        exact ⟨o.2, by rw [e 0]; rfl, uo⟩
      | succ k =>
        have bl := bm_le (wG A) wG_le k
        rw [e k]
        dsimp only
        by_cases d : wG A (k + 1) < (bm (wG A) k).2
        · have e2 : bm (wG A) (k + 1) = (k + 1, wG A (k + 1)) := if_pos d
          rw [if_neg (nI_ge d (by omega)), qb1_some, if10, qb1_some, if10, qb1_some, qvl_eq, nI_1, qOk_some]
          exact ⟨o.2, by rw [e (k + 1), e2], uo⟩
        · have e2 : bm (wG A) (k + 1) = bm (wG A) k := if_neg d
          rw [if_pos (nI_le (by omega) (by omega)), qb1_some, if00, qb1_some, if00, qb1_some, qvl_eq, nI_1, qOk_some]
          exact ⟨o.2, by rw [e (k + 1), e2], uo⟩
  · rintro s ⟨N, rfl, n1⟩
    show qOk (kX8_listen_L25 (rB A 10).1 (rB A 10).2 (nI 10) N) _
    unfold kX8_listen_L25
    rw [if_pos (show (10 : Int32) ≤ nI 10 from by decide), qOk_some]
    exact ⟨rfl, rfl, n1⟩
theorem t_listen : qT_listen qR := by
  intro M1 M2 hR x1
  have hR0 := hR
  obtain ⟨⟨A, hc, hd, hw⟩, -, -, -⟩ := hR
  unfold kX7_listen kX8_listen
  rcases rg x1 0 1 (by omega) (by omega) with ⟨a1, a2⟩ | ⟨a1, -, a2, a3⟩ | ⟨y, -, hy, e, a1, -, a2, a3⟩
  · rw [if_pos (show x1 < 0 from a1), show kX8_in x1 0 1 = some 0 from a2, qb1_some, if00, qOk2_some, qOk2_some]
    exact ⟨rfl, hR0⟩
  · rw [if_neg (show ¬ x1 < 0 from a1), if_neg (show ¬ x1 ≤ 1 from a2), show kX8_in x1 0 1 = some 0 from a3, qb1_some, if00, qOk2_some, qOk2_some]
    exact ⟨rfl, hR0⟩
  rw [if_neg (show ¬ x1 < 0 from a1), if_pos (show x1 ≤ 1 from a2), show kX8_in x1 0 1 = some 1 from a3, qb1_some, if10, qOk2_b1]
  clear a1 a2 a3
  subst e
  refine qOk.m (findFits_eq hc hw) (fun N1 ⟨n1, n2⟩ => ?_)
  have k1 : qK1 M1 N1 := ⟨fun k hk => n1 k (by omega) (by omega), by rw [n1 39 (by omega) (by omega)], n1 40 (by omega) (by omega)⟩
  have hcN : qC 1 N1 A := hc.same (fun k _ _ => n1 k (by omega) (by omega))
  have tl := hcn_le (Lb A) 1000
  have ref : ∀ (O1 : qM) (r1 : Int32), qK1 M1 O1 → (if (rB A 10).1 < 0 then some (rB A 10).1 else (if nI y = 0 then some (rB A 10).1 else some (rB A 10).2)) = some r1 → qOk2 (qb1 (kX8_layApart M2) (fun M2 => qb3 (qlp (S := Int32 × Int32 × Int32 × qM) (E := (Int32 × Int32 × qM)) (fun s => kX8_listen_L25 s.1 s.2.1 s.2.2.1 s.2.2.2) qFu ((-6), 1000000, 0, M2)) (fun v7 v8 M9 => qb1 (α := Int32) (if v7 < 0 then (some v7) else (if nI y = 0 then (some v7) else (some v8))) (fun v35 => some (v35, M9))))) (fun r2 N2 => r2 = r1 ∧ qR O1 N2) := fun O1 r1 hk hr => by
    rw [qOk2_b1]
    refine qOk.m (layApart_eq hd hw) (fun Q ⟨q1, q2⟩ => ?_)
    have hQ : qDm Q A := hd.sm (fun c hc => q1 c (by omega) (by omega))
    show qOk _ _
    rw [qOk_b3]
    refine qOk.m (li_25 hQ hw q2) (fun o ⟨o1, o2, o3⟩ => ?_)
    rw [o1, o2, hr, qb1_some, qOk_some]
    exact ⟨rfl, hR0.kept hk (ap_K (fun c a b d => (show o.2.2 c = M2 c by rw [o3 c d, q1 c a b])))⟩
  rw [fitCount_eq hw n2, qb1_some]
  by_cases z : hcn (Lb A) 1000 = 0
  · rw [if_pos (show nI (hcn (Lb A) 1000) = 0 by rw [z]; rfl), qOk2_some]
    refine ref _ _ k1 ?_
    have e : rB A 10 = (-6, 1000000) := if_pos z
    rw [e, if_pos (show (-6 : Int32) < 0 by decide)]
  · have e : rB A 10 = (nI (bm (wG A) 9).1, nI (bm (wG A) 9).2) := if_neg z
    have bl := bm_le (wG A) wG_le 9
    rw [if_neg (show ¬ nI (hcn (Lb A) 1000) = 0 from fun w => z ((nI_inj (by omega) (by omega)).mp (show _ = nI 0 from w))), qOk2_b1]
    refine qOk.m (choose_eq hcN hw n2) (fun O1 ⟨o1, o2, o3⟩ => ?_)
    have k2 : qK1 M1 O1 := k1.tr ⟨fun k hk => o1 k (by omega) (by omega) (by omega), by rw [o1 39 (by omega) (by omega) (by omega)], o1 40 (by omega) (by omega) (by omega)⟩
    rcases (show y = 0 ∨ y = 1 by omega) with q | q
    · subst q
      rw [if_pos (show nI 0 = (0 : Int32) from rfl), qb1_some, qOk2_some]
      refine ref _ _ k2 ?_
      rw [e, if_neg (nI_pos (by omega)), if_pos (show nI 0 = (0 : Int32) from rfl), o2]
    · subst q
      rw [if_neg (show ¬ nI 1 = (0 : Int32) from by decide), qb1_some, qOk2_some]
      refine ref _ _ k2 ?_
      rw [e, if_neg (nI_pos (by omega)), if_neg (show ¬ nI 1 = (0 : Int32) from by decide), o3]
