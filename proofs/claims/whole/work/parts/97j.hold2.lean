/-! hold: both -/
def hm (T : Nat → Nat) : Nat → Nat × Nat
  | 0 => (0, 0)
  | k + 1 => if T k ≤ (hm T k).1 then hm T k else (T k, k)
theorem hm_y {T : Nat → Nat} {k : Nat} (h : T k ≤ (hm T k).1) : hm T (k + 1) = hm T k := if_pos h
theorem hm_n {T : Nat → Nat} {k : Nat} (h : ¬ T k ≤ (hm T k).1) : hm T (k + 1) = (T k, k) := if_neg h
theorem hm_le {T : Nat → Nat} {c : Nat} (h : ∀ k, T k ≤ c) : ∀ k, (hm T k).1 ≤ c
  | 0 => Nat.zero_le _
  | k + 1 => by
    by_cases d : T k ≤ (hm T k).1
    · rw [hm_y d]
      exact hm_le h k
    · rw [hm_n d]
      exact h k
theorem hm_1 {T : Nat → Nat} (h : 0 < T 0) : ∀ k, (hm T (k + 1)).1 = T (hm T (k + 1)).2 ∧ (hm T (k + 1)).2 ≤ k
  | 0 => by
    rw [hm_n (show ¬ T 0 ≤ (hm T 0).1 from Nat.not_le.mpr h)]
    exact ⟨rfl, Nat.le_refl _⟩
  | k + 1 => by
    have := hm_1 h k
    by_cases d : T (k + 1) ≤ (hm T (k + 1)).1
    · rw [hm_y d]
      exact ⟨this.1, by omega⟩
    · rw [hm_n d]
      exact ⟨rfl, Nat.le_refl _⟩
theorem hT3_le {x y v : Nat} : hT3 x y v ≤ 99 := Nat.min_le_left _ _
theorem beatsFrom_eq {M : qM} {x y v : Nat} (h : hOk (dg x) (dg y)) (hM : qSR M (dg x) (dg y)) (h73 : ∀ v, v < 3 → M 73 (100 * v) = nI (vI (dg x) (dg y) (nx (dg x) (dg y) 0 v))) (hv : v < 3) : kX5_beatsFrom M (nI v) = some (nI (hT3 x y v)) := by
  unfold kX5_beatsFrom
  have a := (h.1 v hv).2
  have b := vV_99 (s := dg x) (r := dg y) 99 (nx (dg x) (dg y) 0 v)
  have b2 : vI (dg x) (dg y) (nx (dg x) (dg y) 0 v) ≤ 99 := b
  rw [qrd_k hv (by omega), hM.1 v hv, show (100 : Int32) * nI v = nI (100 * v) from pk_mul 100 v, qrd_k (show 100 * v < 300 by omega) (by omega), h73 v hv, nI_add, min_I (by omega)]
  rfl
theorem bestFirst_eq {M : qM} {x y : Nat} (h : hOk (dg x) (dg y)) (hM : qSR M (dg x) (dg y)) (h73 : ∀ v, v < 3 → M 73 (100 * v) = nI (vI (dg x) (dg y) (nx (dg x) (dg y) 0 v))) : kX5_bestFirst M = some (nI (hm (hT3 x y) 3).2) := by
  unfold kX5_bestFirst
  have p0 : 0 < hT3 x y 0 := by
    have := (h.1 0 (by omega)).1
    unfold hT3
    omega
  refine qOk_eq ?_
  rw [qOk_b1]
  refine qlp_for (fun k st => st = (nI (hm (hT3 x y) (k + 1)).2, nI (k + 1))) 2 (by omega) ?_ ?_ ?_
  · rw [hm_n (show ¬ hT3 x y 0 ≤ (hm (hT3 x y) 0).1 from Nat.not_le.mpr p0)]
    rfl
  · rintro k st hk rfl
    show qOk (kX5_bestFirst_L4 M (nI (hm (hT3 x y) (k + 1)).2) (nI (k + 1))) _
    unfold kX5_bestFirst_L4
    obtain ⟨c1, c2⟩ := hm_1 p0 k
    have l1 := hT3_le (x := x) (y := y) (v := k + 1)
    have l2 := hT3_le (x := x) (y := y) (v := (hm (hT3 x y) (k + 1)).2)
    rw [if_neg (show ¬ (3 : Int32) ≤ nI (k + 1) from nI_ge (b := 3) (by omega) (by decide)), beatsFrom_eq h hM h73 (show k + 1 < 3 by omega), qb1_some, beatsFrom_eq h hM h73 (show (hm (hT3 x y) (k + 1)).2 < 3 by omega), qb1_some]
    by_cases d : hT3 x y (k + 1) ≤ (hm (hT3 x y) (k + 1)).1
    · rw [if_pos (nI_le (by omega) (by omega)), qb1_some, nI_1, qvl_eq, qOk_some]
      show (_, _) = (_, _)
      rw [hm_y d]
    · rw [if_neg (nI_ge (by omega) (by omega)), qb1_some, nI_1, qvl_eq, qOk_some]
      show (_, _) = (_, _)
      rw [hm_n d]
  · rintro st rfl
    show qOk (kX5_bestFirst_L4 M (nI (hm (hT3 x y) (2 + 1)).2) (nI (2 + 1))) _
    unfold kX5_bestFirst_L4
    rw [if_pos (show (3 : Int32) ≤ nI (2 + 1) from by decide), qOk_some]
    show qOk (some (nI (hm (hT3 x y) 3).2)) _
    rw [qOk_some]
theorem hold_61 {M : qM} {x y : Nat} (hx : x < 1000) (hy : y < 1000) (h : hOk (dg x) (dg y)) : qOk (qlp (S := Int32 × Int32 × Int32 × qM) (E := (Int32 × Int32 × qM)) (fun st => kX8_hold_L61 (nI x) (nI y) st.1 st.2.1 st.2.2.1 st.2.2.2) qFu (0, 0, 0, M)) (fun o => o.1 = nI (hm (hT3 x y) 3).1 ∧ o.2.1 = nI (hm (hT3 x y) 3).2 ∧ ∀ c, c ≠ 12 → o.2.2 c = M c) := by
  refine qlp_for (fun k st => ∃ N, st = (nI (hm (hT3 x y) k).1, nI (hm (hT3 x y) k).2, nI k, N) ∧ ∀ c, c ≠ 12 → N c = M c) 3 (by omega) ⟨M, rfl, fun _ _ => rfl⟩ ?_ ?_
  · rintro k st hk ⟨N, rfl, n1⟩
    show qOk (kX8_hold_L61 (nI x) (nI y) (nI (hm (hT3 x y) k).1) (nI (hm (hT3 x y) k).2) (nI k) N) _
    unfold kX8_hold_L61
    have l1 := hT3_le (x := x) (y := y) (v := k)
    have l2 := hm_le (T := hT3 x y) (c := 99) (fun _ => hT3_le) k
    rw [if_neg (show ¬ (3 : Int32) ≤ nI k from nI_ge (b := 3) hk (by decide)), qOk_b2']
    refine qOk2.m (heldBy_eq hx hy h hk) (fun o O ⟨o1, o2⟩ => ?_)
    rw [o1]
    by_cases d : hT3 x y k ≤ (hm (hT3 x y) k).1
    · rw [if_pos (nI_le d (by omega)), qb1_some, if_pos (nI_le d (by omega)), qb1_some, nI_1, qvl_eq, qOk_some]
      exact ⟨O, by rw [hm_y d], fun c hc => by rw [o2 c hc, n1 c hc]⟩
    · rw [if_neg (nI_ge (by omega) (by omega)), qb1_some, if_neg (nI_ge (by omega) (by omega)), qb1_some, nI_1, qvl_eq, qOk_some]
      exact ⟨O, by rw [hm_n d], fun c hc => by rw [o2 c hc, n1 c hc]⟩
  · rintro st ⟨N, rfl, n1⟩
    show qOk (kX8_hold_L61 (nI x) (nI y) (nI (hm (hT3 x y) 3).1) (nI (hm (hT3 x y) 3).2) (nI 3) N) _
    unfold kX8_hold_L61
    rw [if_pos (show (3 : Int32) ≤ nI 3 from by decide), qOk_some]
    exact ⟨rfl, rfl, n1⟩
theorem t_hold : qT_hold qR := by
  intro M1 M2 hR x1 x2 x3
  have hR0 := hR
  unfold kX7_hold kX8_hold
  rcases rg x1 111 999 (by omega) (by omega) with ⟨a1, a2⟩ | ⟨a1, a2, -, a3⟩ | ⟨x, hx1, hx2, e, a1, a2, -, a3⟩
  · rw [if_pos (show x1 < 111 from a1), show kX8_in x1 111 999 = some 0 from a2, qb1_some, if00, qOk2_some, qOk2_some]
    exact ⟨rfl, hR0⟩
  · rw [if_neg (show ¬ x1 < 111 from a1), if_pos (show (999 : Int32) < x1 from a2), show kX8_in x1 111 999 = some 0 from a3, qb1_some, if00, qOk2_some, qOk2_some]
    exact ⟨rfl, hR0⟩
  rw [if_neg (show ¬ x1 < 111 from a1), if_neg (show ¬ (999 : Int32) < x1 from a2), show kX8_in x1 111 999 = some 1 from a3, qb1_some, if10]
  clear a1 a2 a3
  subst e
  obtain ⟨e1, e2, e3⟩ := dg_I (show x < 1000 by omega)
  rw [e3, e2]
  by_cases c1 : x % 10 = 0
  · rw [if_pos (show nI (x % 10) = 0 by rw [c1]; rfl), if_pos (show nI (x % 10) = 0 by rw [c1]; rfl), qOk2_some, qOk2_some]
    exact ⟨rfl, hR0⟩
  have n1 : ¬ nI (x % 10) = 0 := fun z => c1 ((nI_inj (by omega) (by omega)).mp (show _ = nI 0 from z))
  rw [if_neg n1, if_neg n1]
  by_cases c2 : x / 10 % 10 = 0
  · rw [if_pos (show nI (x / 10 % 10) = 0 by rw [c2]; rfl), if_pos (show nI (x / 10 % 10) = 0 by rw [c2]; rfl), qOk2_some, qOk2_some]
    exact ⟨rfl, hR0⟩
  have n2 : ¬ nI (x / 10 % 10) = 0 := fun z => c2 ((nI_inj (by omega) (by omega)).mp (show _ = nI 0 from z))
  rw [if_neg n2, if_neg n2]
  rcases rg x2 0 999 (by omega) (by omega) with ⟨a1, a2⟩ | ⟨a1, a2, -, a3⟩ | ⟨y, -, hy, e, a1, a2, -, a3⟩
  · rw [if_pos (show x2 < 0 from a1), show kX8_in x2 0 999 = some 0 from a2, qb1_some, if00, qOk2_some, qOk2_some]
    exact ⟨rfl, hR0⟩
  · rw [if_neg (show ¬ x2 < 0 from a1), if_pos (show (999 : Int32) < x2 from a2), show kX8_in x2 0 999 = some 0 from a3, qb1_some, if00, qOk2_some, qOk2_some]
    exact ⟨rfl, hR0⟩
  rw [if_neg (show ¬ x2 < 0 from a1), if_neg (show ¬ (999 : Int32) < x2 from a2), show kX8_in x2 0 999 = some 1 from a3, qb1_some, if10]
  clear a1 a2 a3
  subst e
  rcases rg x3 0 1 (by omega) (by omega) with ⟨a1, a2⟩ | ⟨a1, -, a2, a3⟩ | ⟨z, -, hz, e, a1, -, a2, a3⟩
  · rw [if_pos (show x3 < 0 from a1), show kX8_in x3 0 1 = some 0 from a2, qb1_some, if00, qOk2_some, qOk2_some]
    exact ⟨rfl, hR0⟩
  · rw [if_neg (show ¬ x3 < 0 from a1), if_neg (show ¬ x3 ≤ 1 from a2), show kX8_in x3 0 1 = some 0 from a3, qb1_some, if00, qOk2_some, qOk2_some]
    exact ⟨rfl, hR0⟩
  rw [if_neg (show ¬ x3 < 0 from a1), if_pos (show x3 ≤ 1 from a2), show kX8_in x3 0 1 = some 1 from a3, qb1_some, if10]
  clear a1 a2 a3
  subst e
  have h : hOk (dg x) (dg y) := by
    refine ⟨fun v hv => ?_, fun v hv => dg_le (by omega)⟩
    unfold dg
    rcases (show v = 0 ∨ v = 1 ∨ v = 2 by omega) with q | q | q <;> subst q
    · rw [if_pos rfl]
      omega
    · rw [if_neg (by decide), if_pos rfl]
      omega
    · rw [if_neg (by decide), if_neg (by decide)]
      omega
  have p0 : 0 < hT3 x y 0 := by
    have := (h.1 0 (by omega)).1
    unfold hT3
    omega
  have c34 := hm_1 p0 2
  have c3 : (hm (hT3 x y) 3).1 = hT3 x y (hm (hT3 x y) 3).2 := c34.1
  have c4 : (hm (hT3 x y) 3).2 ≤ 2 := c34.2
  have ref : ∀ (r1 : Int32) (O1 : qM), qK1 M1 O1 → (if nI z = 0 then some (nI (hm (hT3 x y) 3).1) else some (nI (hm (hT3 x y) 3).2)) = some r1 → qOk2 (qb3 (qlp (S := Int32 × Int32 × Int32 × qM) (E := (Int32 × Int32 × qM)) (fun st => kX8_hold_L61 (nI x) (nI y) st.1 st.2.1 st.2.2.1 st.2.2.2) qFu (0, 0, 0, M2)) (fun v8 v9 M10 => qb1 (α := Int32) (if nI z = 0 then (some v8) else (some v9)) (fun v16 => some (v16, M10)))) (fun r2 N2 => r2 = r1 ∧ qR O1 N2) := fun r1 O1 hk hr => by
    show qOk _ _
    rw [qOk_b3]
    refine qOk.m (hold_61 (by omega) (by omega) h) (fun o ⟨o1, o2, o3⟩ => ?_)
    rw [o1, o2, hr, qb1_some, qOk_some]
    exact ⟨rfl, hR0.kept hk ⟨o3 1 (by decide), o3 3 (by decide), o3 4 (by decide), o3 5 (by decide), o3 6 (by decide), o3 7 (by decide), o3 8 (by decide), o3 9 (by decide), o3 15 (by decide), o3 16 (by decide), congrFun (o3 0 (by decide)) 2, congrFun (o3 0 (by decide)) 8, congrFun (o3 0 (by decide)) 9, congrFun (o3 0 (by decide)) 11⟩⟩
  rw [qOk2_b1]
  refine qOk.m (settle_eq (by omega) (by omega) h) (fun N ⟨u1, u2, u3⟩ => ?_)
  have k1 : qK1 M1 N := ⟨fun k hk => u1 k (by omega), by rw [u1 39 (by omega)], u1 40 (by omega)⟩
  rw [bestFirst_eq h u2 u3, qb1_some]
  rcases (show z = 0 ∨ z = 1 by omega) with q | q
  · subst q
    rw [if_pos (show nI 0 = (0 : Int32) from rfl), beatsFrom_eq h u2 u3 (show (hm (hT3 x y) 3).2 < 3 by omega), qb1_some, qb1_some, qOk2_some]
    refine ref _ _ k1 ?_
    rw [if_pos (show nI 0 = (0 : Int32) from rfl), c3]
  · subst q
    rw [if_neg (show ¬ nI 1 = (0 : Int32) from by decide), qb1_some, qOk2_some]
    refine ref _ _ k1 ?_
    rw [if_neg (show ¬ nI 1 = (0 : Int32) from by decide)]
