/-! done, behind, seam, then -/
theorem done_L12 {M : qM} : qOk (qlp (S := Int32 × qM) (E := (qM)) (fun s => kX8_done_L12 s.1 s.2) qFu (0, M)) (fun N => (∀ c, c ≠ 1 → N c = M c) ∧ ∀ j, j < 36 → N 1 j = M 2 j) := by
  refine qlp_for (fun k s => ∃ N, s = (nI k, N) ∧ (∀ c, c ≠ 1 → N c = M c) ∧ ∀ j, j < k → N 1 j = M 2 j) 36 (by omega) ⟨M, rfl, fun _ _ => rfl, fun j hj => by omega⟩ ?_ ?_
  · rintro k s hk ⟨N, rfl, n1, n2⟩
    show qOk (kX8_done_L12 (nI k) N) _
    unfold kX8_done_L12
    rw [if_neg (show ¬ (36 : Int32) ≤ nI k from nI_ge (b := 36) hk (by decide)), qrd_k hk (by omega), qwr_k hk (by omega), qvl_eq, qOk_some]
    refine ⟨_, by rw [nI_succ], fun c hc => by rw [qst_n hc, n1 c hc], fun j hj => ?_⟩
    rw [qst_at]
    by_cases e : j = k
    · rw [if_pos e, e, n1 2 (by decide)]
    · rw [if_neg e]
      exact n2 j (by omega)
  · rintro s ⟨N, rfl, n1, n2⟩
    show qOk (kX8_done_L12 (nI 36) N) _
    unfold kX8_done_L12
    rw [if_pos (show (36 : Int32) ≤ nI 36 from by decide), qOk_some]
    exact ⟨n1, n2⟩
theorem t_done : qT_done qR := by
  intro M1 M2 hR
  have hR0 := hR
  unfold kX7_done kX8_done
  rw [qOk2_b2]
  refine qOk2.m (canB hR0) (fun r1 N1 ⟨k1, hb⟩ => ?_)
  obtain ⟨-, ⟨S, p, s1, s2, s3, s4⟩, i0, i1⟩ := hR
  obtain ⟨⟨r2, N2⟩, eb, k2, hh⟩ := hb
  change kX8_barOfShifts M2 = some (r2, N2) at eb
  change qK2 M2 N2 at k2
  rw [eb, qb2_some]
  rcases hh with ⟨a1, a2⟩ | ⟨a1, a2, B, K, b1, b2, b3, b4, b5, b6, b7, b8, b9⟩
  · change r1 = 0 at a1
    change r2 = -5 at a2
    rw [a1, a2, if00, if_neg (by decide), qOk2_some, qOk2_some]
    exact ⟨rfl, hR0.kept k1 k2⟩
  · change r1 = 1 at a1
    change r2 = 0 at a2
    change qC 48 N1 B at b2
    change qDn N2 B at b3
    change N1 39 5 = nI K at b6
    change N2 0 17 = nI K at b7
    rw [a1, a2, if10, if_pos (by decide), qOk2_b1]
    refine qOk.m (X1_become_eq (b0 := 1) (b1 := 48) (Or.inl (by omega)) b2 b4) (fun O1 ⟨o1, o2⟩ => ?_)
    rw [qvl_eq, qOk2_some, qOk2_b1]
    refine qOk.m (done_L12 (M := N2)) (fun O2 ⟨u1, u2⟩ => ?_)
    rw [qvl_eq, qOk2_some]
    obtain ⟨g1, g2, g3⟩ := k1
    obtain ⟨l1, l3, l4, l5, l6, l7, l8, l9, l15, l16, m2, m8, m9, m11⟩ := k2
    refine ⟨?_, ⟨B, o2.same (fun k _ _ => by rw [qst_n (by omega)]), ?_, b4⟩, ⟨0, p, by omega, by rw [qst_at, if_pos rfl]; rfl, by rw [qst_at, if_pos rfl]; rfl, fun i hi => by omega⟩, ?_, ?_⟩
    · rw [qst_at, if_neg (by decide), qst_at, if_neg (by decide), u1 0 (by decide), b7, o1 39 (by omega), b6]
    · show qDm (qst O2 0 11 0) B
      unfold qDm
      rw [qst_n (show (1 : Nat) ≠ 0 by decide), qst_n (show (3 : Nat) ≠ 0 by decide), qst_n (show (4 : Nat) ≠ 0 by decide), qst_n (show (5 : Nat) ≠ 0 by decide), qst_n (show (6 : Nat) ≠ 0 by decide), qst_n (show (7 : Nat) ≠ 0 by decide), qst_n (show (8 : Nat) ≠ 0 by decide), qst_at, if_neg (by decide), qst_at, if_neg (by decide), qst_at, if_neg (by decide), u1 3 (by decide), u1 4 (by decide), u1 5 (by decide), u1 6 (by decide), u1 7 (by decide), u1 8 (by decide), u1 0 (by decide)]
      exact b3.bk_same u2
    · refine i0.kp (by omega) (fun k _ _ => ?_) ?_ ?_ (fun j _ _ => ?_)
      · rw [qst_n (by omega), o1 k (by omega)]
        exact g1 k (by omega)
      · rw [qst_n (by omega), o1 38 (by omega)]
        exact congrFun (g1 38 (by omega)) 0
      · rw [qst_n (by omega), u1 16 (by decide)]
        exact congrFun l16 0
      · rw [qst_n (by omega), u1 15 (by decide)]
        exact congrFun l15 j
    · refine i1.kp (by omega) (fun k _ _ => ?_) ?_ ?_ (fun j _ _ => ?_)
      · rw [qst_n (by omega), o1 k (by omega)]
        exact g1 k (by omega)
      · rw [qst_n (by omega), o1 38 (by omega)]
        exact congrFun (g1 38 (by omega)) 1
      · rw [qst_n (by omega), u1 16 (by decide)]
        exact congrFun l16 1
      · rw [qst_n (by omega), u1 15 (by decide)]
        exact congrFun l15 j
theorem noteOrNone_eq {b : Nat} {M : qM} {A : qN} (h : qC b M A) (hw : qW A) {v : Nat} (hv : v < 8) : kX1_noteOrNone b M (nI v) = some (if A 5 v = 0 then -6 else nI (A 5 v - 1)) := by
  unfold kX1_noteOrNone
  rw [X1_isSinging_eq h hw hv, qb1_some]
  by_cases c : A 5 v = 0
  · rw [if_neg (show ¬ 0 < A 5 v by omega), if00, qb1_some, if_pos c]
  · rw [if_pos (show 0 < A 5 v by omega), if10, qrd_k hv (by omega), qb1_some, h.no v hv, if_neg c]
    have := nI_pred (A 5 v - 1)
    rw [show A 5 v - 1 + 1 = A 5 v by omega] at this
    rw [this]
theorem t_behind : qT_behind qR := by
  intro M1 M2 hR x1 x2
  have hR0 := hR
  obtain ⟨⟨A, hc, hd, hw⟩, -, -, -⟩ := hR
  unfold kX7_behind kX8_behind
  rcases thr hc.th hd.th hw.th x1 with ⟨a1, a2⟩ | ⟨v, hv, e, ht, a1, a2⟩
  · rw [a1, a2, qb1_some, qb1_some, if00, if00, qOk2_some, qOk2_some]
    exact ⟨rfl, hR0⟩
  rw [a1, a2, qb1_some, qb1_some, if10, if10]
  clear a1 a2
  subst e
  rcases rg x2 0 2 (by omega) (by omega) with ⟨a1, a2⟩ | ⟨a1, -, a2, a3⟩ | ⟨y, -, hy, e, a1, -, a2, a3⟩
  · rw [if_pos (show x2 < 0 from a1), show kX8_in x2 0 2 = some 0 from a2, qb1_some, if00, qOk2_some, qOk2_some]
    exact ⟨rfl, hR0⟩
  · rw [if_neg (show ¬ x2 < 0 from a1), if_neg (show ¬ x2 ≤ 2 from a2), show kX8_in x2 0 2 = some 0 from a3, qb1_some, if00, qOk2_some, qOk2_some]
    exact ⟨rfl, hR0⟩
  rw [if_neg (show ¬ x2 < 0 from a1), if_pos (show x2 ≤ 2 from a2), show kX8_in x2 0 2 = some 1 from a3, qb1_some, if10, qOk2_b2]
  clear a1 a2 a3
  subst e
  refine qOk2.m (canB hR0) (fun r1 N1 ⟨k1, hb⟩ => ?_)
  obtain ⟨⟨r2, N2⟩, eb, k2, hh⟩ := hb
  change kX8_barOfShifts M2 = some (r2, N2) at eb
  change qK2 M2 N2 at k2
  rw [eb, qb2_some]
  have hk : qR N1 N2 := hR0.kept k1 k2
  rcases hh with ⟨a1, a2⟩ | ⟨a1, a2, B, K, b1, b2, b3, b4, b5, b6, b7, b8, b9⟩
  · change r1 = 0 at a1
    change r2 = -5 at a2
    rw [a1, a2, if00, if_neg (by decide), qb1_some, qOk2_some, qOk2_some]
    exact ⟨rfl, hk⟩
  · change r1 = 1 at a1
    change r2 = 0 at a2
    change qC 48 N1 B at b2
    change qDn N2 B at b3
    have tB : (B 11 0).testBit v = true := by
      have z1 : N2 0 2 = nI (B 11 0) := b3.th
      have z2 : N2 0 2 = nI (A 11 0) := k2.2.2.2.2.2.2.2.2.2.2.1.trans hd.th
      have z3 : B 11 0 = A 11 0 := (nI_inj (by omega) (by have := hw.th; omega)).mp (z1.symm.trans z2)
      rw [z3]
      exact ht
    rw [a1, a2, if10, if_pos (show (0 : Int32) ≤ 0 by decide)]
    rcases (show y = 0 ∨ y = 1 ∨ y = 2 by omega) with z | z | z
    · subst z
      rw [if_pos (show nI 0 = (0 : Int32) from rfl), noteOrNone_eq b2 b4 hv, qb1_some, qOk2_some, show (8 : Int32) * nI 0 + nI v = nI v by rw [show (8 : Int32) = nI 8 from rfl, pk_mul, nI_add, show 8 * 0 + v = v by omega], qrd_k (show v < 36 by omega) (by omega), qb1_some, qOk2_some]
      exact ⟨b3.no v hv tB, hk⟩
    · subst z
      rw [if_neg (show ¬ nI 1 = (0 : Int32) from by decide), if_pos (show nI 1 = (1 : Int32) from rfl), qrd_k hv (by omega), qb1_some, qOk2_some, show (8 : Int32) * nI 1 + nI v = nI (8 + v) by rw [show (8 : Int32) = nI 8 from rfl, pk_mul, nI_add], qrd_k (show 8 + v < 36 by omega) (by omega), qb1_some, qOk2_some]
      exact ⟨(b3.br v hv).trans (b2.br v hv).symm, hk⟩
    · subst z
      rw [if_neg (show ¬ nI 2 = (0 : Int32) from by decide), if_neg (show ¬ nI 2 = (1 : Int32) from by decide), qrd_k hv (by omega), qb1_some, qOk2_some, show (8 : Int32) * nI 2 + nI v = nI (16 + v) by rw [show (8 : Int32) = nI 8 from rfl, pk_mul, nI_add], qrd_k (show 16 + v < 36 by omega) (by omega), qb1_some, qOk2_some]
      exact ⟨(b3.pl v hv).trans (b2.pl v hv).symm, hk⟩
theorem t_seam : qT_seam qR := by
  intro M1 M2 hR x1 x2
  have hR0 := hR
  unfold kX7_seam kX8_seam
  rcases gal x1 with ⟨a1, a2⟩ | ⟨g, hg, e, a1, a2⟩
  · rw [a1, a2, qb1_some, qb1_some, if00, if00, qOk2_some, qOk2_some]
    exact ⟨rfl, hR0⟩
  rw [a1, a2, qb1_some, qb1_some, if10, if10]
  clear a1 a2
  subst e
  rcases rg x2 0 1 (by omega) (by omega) with ⟨a1, a2⟩ | ⟨a1, -, a2, a3⟩ | ⟨y, -, hy, e, a1, -, a2, a3⟩
  · rw [if_pos (show x2 < 0 from a1), show kX8_in x2 0 1 = some 0 from a2, qb1_some, if00, qOk2_some, qOk2_some]
    exact ⟨rfl, hR0⟩
  · rw [if_neg (show ¬ x2 < 0 from a1), if_neg (show ¬ x2 ≤ 1 from a2), show kX8_in x2 0 1 = some 0 from a3, qb1_some, if00, qOk2_some, qOk2_some]
    exact ⟨rfl, hR0⟩
  rw [if_neg (show ¬ x2 < 0 from a1), if_pos (show x2 ≤ 1 from a2), show kX8_in x2 0 1 = some 1 from a3, qb1_some, if10, qOk2_b2]
  clear a1 a2 a3
  subst e
  refine qOk2.m (canB hR0) (fun r1 N1 ⟨k1, hb⟩ => ?_)
  obtain ⟨⟨r2, N2⟩, eb, k2, hh⟩ := hb
  change kX8_barOfShifts M2 = some (r2, N2) at eb
  change qK2 M2 N2 at k2
  rw [eb, qb2_some]
  have hk : qR N1 N2 := hR0.kept k1 k2
  rcases hh with ⟨a1, a2⟩ | ⟨a1, a2, B, K, b1, b2, b3, b4, b5, b6, b7, b8, b9⟩
  · change r1 = 0 at a1
    change r2 = -5 at a2
    rw [a1, a2, if00, if_neg (by decide), qOk2_some, qOk2_some]
    exact ⟨rfl, hk⟩
  · change r1 = 1 at a1
    change r2 = 0 at a2
    change qC 48 N1 B at b2
    change qDn N2 B at b3
    rw [a1, a2, if10, if_pos (show (0 : Int32) ≤ 0 by decide)]
    rcases (show y = 0 ∨ y = 1 by omega) with z | z
    · subst z
      rw [if_neg (show ¬ nI 0 = (1 : Int32) from by decide), qOk2_b1]
      refine qOk.m (X0_shineOn_eq b2 b4 (Or.inl (by omega))) (fun O1 ⟨o1, o2, _⟩ => ?_)
      rw [qrd_k hg (by omega), qOk2_some, if_pos (show nI 0 = (0 : Int32) from rfl), X8_lightOf_eq b3 b4 hg, qb1_some, qb1_some, qOk2_some]
      exact ⟨(o2 g hg).symm, hk.kept ⟨fun c hc => o1 c (by omega) (by omega) (by omega), by rw [o1 39 (by omega) (by omega) (by omega)], o1 40 (by omega) (by omega) (by omega)⟩ qK2.rf⟩
    · subst z
      rw [if_pos (show nI 1 = (1 : Int32) from rfl), qrd_k hg (by omega), qOk2_some, if_neg (show ¬ nI 1 = (0 : Int32) from by decide), show (24 : Int32) + nI g = nI (24 + g) from nI_add 24 g, qrd_k (show 24 + g < 36 by omega) (by omega), qb1_some, qOk2_some]
      exact ⟨(b3.co g hg).trans (b2.co g hg).symm, hk⟩
def sCo (A : qN) : Nat → Nat
  | 0 => 0
  | k + 1 => sCo A k + A 10 k
theorem coalInAll_eq {b : Nat} {M : qM} {A : qN} (h : qC b M A) : kX1_coalInAll b M = some (nI (sCo A 10)) := by
  unfold kX1_coalInAll
  refine qOk_eq ?_
  rw [qOk_b1]
  refine qlp_for (fun k s => s = (nI (sCo A k), nI k)) 10 (by omega) rfl ?_ ?_
  · rintro k s hk rfl
    show qOk (kX1_coalInAll_L4 M b (nI (sCo A k)) (nI k)) _
    unfold kX1_coalInAll_L4
    rw [if_neg (show ¬ (10 : Int32) ≤ nI k from nI_ge (b := 10) hk (by decide)), qrd_k hk (by omega), h.co k hk, nI_add, qvl_eq, qvl_eq, nI_1, qOk_some]
    rfl
  · rintro s rfl
    show qOk (kX1_coalInAll_L4 M b (nI (sCo A 10)) (nI 10)) _
    unfold kX1_coalInAll_L4
    rw [if_pos (show (10 : Int32) ≤ nI 10 from by decide), qOk_some]
    show qOk (some (nI (sCo A 10))) _
    rw [qOk_some]
theorem X8_coal_eq {M : qM} {A : qN} (h : qDn M A) : kX8_coal M = some (nI (sCo A 10)) := by
  unfold kX8_coal
  refine qOk_eq ?_
  rw [qOk_b1]
  refine qlp_for (fun k s => s = (nI (sCo A k), nI k)) 10 (by omega) rfl ?_ ?_
  · rintro k s hk rfl
    show qOk (kX8_coal_L4 M (nI (sCo A k)) (nI k)) _
    unfold kX8_coal_L4
    rw [if_neg (show ¬ (10 : Int32) ≤ nI k from nI_ge (b := 10) hk (by decide)), show (24 : Int32) + nI k = nI (24 + k) from nI_add 24 k, qrd_k (show 24 + k < 36 by omega) (by omega), h.co k hk, nI_add, qvl_eq, qvl_eq, nI_1, qOk_some]
    rfl
  · rintro s rfl
    show qOk (kX8_coal_L4 M (nI (sCo A 10)) (nI 10)) _
    unfold kX8_coal_L4
    rw [if_pos (show (10 : Int32) ≤ nI 10 from by decide), qOk_some]
    show qOk (some (nI (sCo A 10))) _
    rw [qOk_some]
theorem t_then : qT_then qR := by
  intro M1 M2 hR x1
  have hR0 := hR
  unfold kX7_then kX8_then
  rcases rg x1 0 4 (by omega) (by omega) with ⟨a1, a2⟩ | ⟨a1, -, a2, a3⟩ | ⟨y, -, hy, e, a1, -, a2, a3⟩
  · rw [if_pos (show x1 < 0 from a1), show kX8_in x1 0 4 = some 0 from a2, qb1_some, if00, qOk2_some, qOk2_some]
    exact ⟨rfl, hR0⟩
  · rw [if_neg (show ¬ x1 < 0 from a1), if_neg (show ¬ x1 ≤ 4 from a2), show kX8_in x1 0 4 = some 0 from a3, qb1_some, if00, qOk2_some, qOk2_some]
    exact ⟨rfl, hR0⟩
  rw [if_neg (show ¬ x1 < 0 from a1), if_pos (show x1 ≤ 4 from a2), show kX8_in x1 0 4 = some 1 from a3, qb1_some, if10, qOk2_b2]
  clear a1 a2 a3
  subst e
  refine qOk2.m (canB hR0) (fun r1 N1 ⟨k1, hb⟩ => ?_)
  obtain ⟨⟨r2, N2⟩, eb, k2, hh⟩ := hb
  change kX8_barOfShifts M2 = some (r2, N2) at eb
  change qK2 M2 N2 at k2
  rw [eb, qb2_some]
  have hk : qR N1 N2 := hR0.kept k1 k2
  rcases hh with ⟨a1, a2⟩ | ⟨a1, a2, B, K, b1, b2, b3, b4, b5, b6, b7, b8, b9⟩
  · change r1 = 0 at a1
    change r2 = -5 at a2
    rw [a1, a2, if00, if_neg (by decide), qOk2_some, qOk2_some]
    exact ⟨rfl, hk⟩
  · change r1 = 1 at a1
    change r2 = 0 at a2
    change qC 48 N1 B at b2
    change qDn N2 B at b3
    change N2 0 13 = N1 47 3 at b8
    change N2 0 14 = N1 47 4 at b9
    rw [a1, a2, if10, if_pos (show (0 : Int32) ≤ 0 by decide)]
    rcases (show y = 0 ∨ y = 1 ∨ y = 2 ∨ y = 3 ∨ y = 4 by omega) with z | z | z | z | z
    · subst z
      rw [if_pos (show nI 0 = (0 : Int32) from rfl), if_pos (show nI 0 = (0 : Int32) from rfl), qOk2_b1]
      refine qOk.m (X0_shineOn_eq b2 b4 (Or.inl (by omega))) (fun O1 ⟨o1, _, o3⟩ => ?_)
      rw [qOk2_some, X8_lamps_eq b3 b4, qb1_some, qOk2_some]
      exact ⟨o3.symm, hk.kept ⟨fun c hc => o1 c (by omega) (by omega) (by omega), by rw [o1 39 (by omega) (by omega) (by omega)], o1 40 (by omega) (by omega) (by omega)⟩ qK2.rf⟩
    · subst z
      rw [if_neg (show ¬ nI 1 = (0 : Int32) from by decide), if_neg (show ¬ nI 1 = (0 : Int32) from by decide), if_pos (show nI 1 = (1 : Int32) from rfl), if_pos (show nI 1 = (1 : Int32) from rfl), qOk2_some, show (35 : Int32) = nI 35 from rfl, qrd_k (show 35 < 36 by omega) (by omega), qOk2_some]
      exact ⟨b3.be.trans b2.be.symm, hk⟩
    · subst z
      rw [if_neg (show ¬ nI 2 = (0 : Int32) from by decide), if_neg (show ¬ nI 2 = (0 : Int32) from by decide), if_neg (show ¬ nI 2 = (1 : Int32) from by decide), if_neg (show ¬ nI 2 = (1 : Int32) from by decide), if_pos (show nI 2 = (2 : Int32) from rfl), if_pos (show nI 2 = (2 : Int32) from rfl), coalInAll_eq b2, qb1_some, qOk2_some, X8_coal_eq b3, qb1_some, qOk2_some]
      exact ⟨rfl, hk⟩
    · subst z
      rw [if_neg (show ¬ nI 3 = (0 : Int32) from by decide), if_neg (show ¬ nI 3 = (0 : Int32) from by decide), if_neg (show ¬ nI 3 = (1 : Int32) from by decide), if_neg (show ¬ nI 3 = (1 : Int32) from by decide), if_neg (show ¬ nI 3 = (2 : Int32) from by decide), if_neg (show ¬ nI 3 = (2 : Int32) from by decide), if_pos (show nI 3 = (3 : Int32) from rfl), if_pos (show nI 3 = (3 : Int32) from rfl), qOk2_some, qb1_some, qOk2_some]
      exact ⟨b8, hk⟩
    · subst z
      rw [if_neg (show ¬ nI 4 = (0 : Int32) from by decide), if_neg (show ¬ nI 4 = (0 : Int32) from by decide), if_neg (show ¬ nI 4 = (1 : Int32) from by decide), if_neg (show ¬ nI 4 = (1 : Int32) from by decide), if_neg (show ¬ nI 4 = (2 : Int32) from by decide), if_neg (show ¬ nI 4 = (2 : Int32) from by decide), if_neg (show ¬ nI 4 = (3 : Int32) from by decide), if_neg (show ¬ nI 4 = (3 : Int32) from by decide), qOk2_some, qb1_some, qOk2_some]
      exact ⟨b9, hk⟩
