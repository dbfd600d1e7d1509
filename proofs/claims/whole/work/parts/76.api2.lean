theorem aU_id {A : qN} {i j : Nat} : aU A i j (A i j) = A := by
  funext a b
  unfold aU
  by_cases h : a = i
  · subst h
    rw [if_pos rfl]
    by_cases h2 : b = j
    · subst h2; simp
    · simp [h2]
  · rw [if_neg h]
theorem t_breath : qT_breath qR := by
  intro M1 M2 hR x1 x2
  have hR0 := hR
  obtain ⟨⟨A, hc, hd, hw⟩, -, -, -⟩ := hR
  unfold kX7_breath kX8_breath
  rcases thr hc.th hd.th hw.th x1 with ⟨e1, e2⟩ | ⟨v, hv, rfl, ht, e1, e2⟩
  · rw [e1, e2, qb1_some, qb1_some, if00, if00, qOk2_some, qOk2_some]
    exact ⟨rfl, hR0⟩
  · rw [e1, e2, qb1_some, qb1_some, if10, if10, qrd_k hv (by omega), qrd_k hv (by omega), qrd_k hv (by omega), hc.lu v hv, hd.lu v hv, X8_in_eq, qb1_some, show (8 : Int32) + nI v = nI (8 + v) from nI_add 8 v]
    have pl := hw.lu v hv
    have pb := hw.br v hv
    by_cases c1 : x2 < 0
    · rw [if_pos c1, if_neg (show ¬ ((0 : Int32) ≤ x2 ∧ x2 ≤ nI (A 2 v)) from fun z => absurd c1 (Int32.not_lt.mpr z.1)), if00, qOk2_some, qOk2_some]
      exact ⟨rfl, hR0⟩
    · rw [if_neg c1]
      by_cases c2 : x2 ≤ nI (A 2 v)
      · rw [if_pos c2, if_pos (show (0 : Int32) ≤ x2 ∧ x2 ≤ nI (A 2 v) from ⟨Int32.not_lt.mp c1, c2⟩), if10]
        obtain ⟨q, q1, q2, rfl⟩ := rng x2 0 (A 2 v) (by omega) c1 c2 (by omega)
        rw [qrd_k (show 8 + v < 36 by omega) (by omega), hc.br v hv, hd.br v hv, qwr_k hv (by omega), qwr_k (show 8 + v < 36 by omega) (by omega)]
        have wf : ∀ t, t ≤ A 5 v → (0 < t → 0 < q) → qW (aU (aU A 1 v q) 5 v t) := by
          intro t t1 t2
          refine ⟨hw.pl, fun w hw8 => ?_, hw.lu, hw.lo, hw.hi, fun w hw8 => ?_, fun w hw8 hp => ?_, hw.ps, hw.ec, hw.th, hw.ga, hw.cl, hw.be, hw.si, hw.sp, hw.sn⟩
          · show aU A 1 v q 1 w ≤ A 2 w
            by_cases e : w = v
            · subst e; rw [aU_s]; exact q2
            · rw [aU_n e]; exact hw.br w hw8
          · by_cases e : w = v
            · subst e; rw [aU_s]; exact Nat.le_trans t1 (hw.to w hw8)
            · rw [aU_n e]; exact hw.to w hw8
          · by_cases e : w = v
            · subst e
              rw [aU_s] at hp
              refine ⟨?_, ht⟩
              show 0 < aU A 1 w q 1 w
              rw [aU_s]; exact t2 hp
            · rw [aU_n e] at hp
              refine ⟨?_, (hw.sg w hw8 hp).2⟩
              show 0 < aU A 1 v q 1 w
              rw [aU_n e]; exact (hw.sg w hw8 hp).1
        by_cases z : q = 0
        · subst z
          rw [if_pos (show nI 0 = (0 : Int32) from rfl), if_pos (show nI 0 = (0 : Int32) from rfl), qwr_k hv (by omega), qb1_some, qb1_some, qwr_k (show v < 36 by omega) (by omega), qOk2_some, qOk2_some]
          refine ⟨rfl, hR0.main (fun k k1 k2 => by rw [qst_n (by omega), qst_n (by omega)]) rfl rfl rfl rfl rfl rfl (A := aU (aU A 1 v 0) 5 v 0) ((hc.set_br v 0).set_no v 0) ((hd.set_br hv 0).set_no hv 0 (fun _ => rfl)) (wf 0 (Nat.zero_le _) (fun h => by omega))⟩
        · rw [if_neg (show ¬ nI q = (0 : Int32) from fun y => z ((nI_inj (b := 0) (by omega) (by omega)).mp y)), if_neg (show ¬ nI q = (0 : Int32) from fun y => z ((nI_inj (b := 0) (by omega) (by omega)).mp y)), qb1_some, qrd_k (show v < 36 by omega) (by omega), qb1_some, qwr_k (show v < 36 by omega) (by omega), qOk2_some, qOk2_some]
          refine ⟨rfl, hR0.main (fun k k1 k2 => by rw [qst_n (by omega)]) rfl rfl rfl rfl rfl rfl (A := aU (aU A 1 v q) 5 v (A 5 v)) ?_ ((hd.set_br hv q).set_no hv (A 5 v) (fun h => (hd.set_br hv q).no v hv h)) (wf _ (Nat.le_refl _) (fun _ => by omega))⟩
          have := hc.set_br v q
          rw [show aU (aU A 1 v q) 5 v (A 5 v) = aU A 1 v q from aU_id (A := aU A 1 v q)]
          exact this
      · rw [if_neg c2, if_neg (show ¬ ((0 : Int32) ≤ x2 ∧ x2 ≤ nI (A 2 v)) from fun z => c2 z.2), if00, qOk2_some, qOk2_some]
        exact ⟨rfl, hR0⟩
theorem vo_c {β : Type} {x2 x3 x4 : Int32} {E X : Option β} : (if x2 < 0 then E else (if 24 ≤ x3 then E else (if x3 < x2 then E else (if x4 < 0 then E else (if x4 ≤ 99 then X else E))))) = if (0 ≤ x2 ∧ x3 ≤ 23 ∧ x2 ≤ x3) ∧ 0 ≤ x4 ∧ x4 ≤ 99 then X else E := by
  have e : ∀ x : Int32, 24 ≤ x ↔ ¬ x ≤ 23 := by
    intro x
    rw [Int32.le_iff_toInt_le, Int32.le_iff_toInt_le]
    have h23 : (23 : Int32).toInt = 23 := by decide
    have h24 : (24 : Int32).toInt = 24 := by decide
    omega
  by_cases c1 : x2 < 0
  · rw [if_pos c1, if_neg (fun z => absurd c1 (Int32.not_lt.mpr z.1.1))]
  · rw [if_neg c1]
    by_cases c2 : 24 ≤ x3
    · rw [if_pos c2, if_neg (fun z => (e x3).mp c2 z.1.2.1)]
    · rw [if_neg c2]
      have c2 : x3 ≤ 23 := Decidable.not_not.mp (fun z => c2 ((e x3).mpr z))
      by_cases c3 : x3 < x2
      · rw [if_pos c3, if_neg (fun z => absurd c3 (Int32.not_lt.mpr z.1.2.2))]
      · rw [if_neg c3]
        by_cases c4 : x4 < 0
        · rw [if_pos c4, if_neg (fun z => absurd c4 (Int32.not_lt.mpr z.2.1))]
        · rw [if_neg c4]
          by_cases c5 : x4 ≤ 99
          · rw [if_pos c5, if_pos ⟨⟨Int32.not_lt.mp c1, c2, Int32.not_lt.mp c3⟩, Int32.not_lt.mp c4, c5⟩]
          · rw [if_neg c5, if_neg (fun z => c5 z.2.2)]
theorem vo_m {β : Type} {x2 x3 x4 : Int32} {E X : Option β} : (qb1 (kX8_in x2 0 23) (fun v3 => if v3 = 0 then E else (qb1 (kX8_in x3 x2 23) (fun v4 => if v4 = 0 then E else (qb1 (kX8_in x4 0 99) (fun v5 => if v5 = 0 then E else X)))))) = if (0 ≤ x2 ∧ x3 ≤ 23 ∧ x2 ≤ x3) ∧ 0 ≤ x4 ∧ x4 ≤ 99 then X else E := by
  rw [X8_in_eq, X8_in_eq, X8_in_eq, qb1_some, qb1_some, qb1_some]
  by_cases c1 : 0 ≤ x2 ∧ x2 ≤ 23
  · rw [if_pos c1, if10]
    by_cases c2 : x2 ≤ x3 ∧ x3 ≤ 23
    · rw [if_pos c2, if10]
      by_cases c3 : 0 ≤ x4 ∧ x4 ≤ 99
      · rw [if_pos c3, if10, if_pos ⟨⟨c1.1, c2.2, c2.1⟩, c3⟩]
      · rw [if_neg c3, if00, if_neg (fun z => c3 z.2)]
    · rw [if_neg c2, if00, if_neg (fun z => c2 ⟨z.1.2.2, z.1.2.1⟩)]
  · rw [if_neg c1, if00, if_neg (fun z => c1 ⟨z.1.1, Int32.le_trans z.1.2.2 z.1.2.1⟩)]
theorem t_voice : qT_voice qR := by
  intro M1 M2 hR x1 x2 x3 x4 x5
  have hR0 := hR
  obtain ⟨⟨A, hc, hd, hw⟩, -, -, -⟩ := hR
  unfold kX7_voice kX8_voice
  rcases voi x1 with ⟨e1, e2⟩ | ⟨v, hv, rfl, e1, e2⟩
  · rw [e1, e2, qb1_some, qb1_some, if00, if00, qOk2_some, qOk2_some]
    exact ⟨rfl, hR0⟩
  · rw [e1, e2, qb1_some, qb1_some, if10, if10]
    rcases gal x5 with ⟨e1, e2⟩ | ⟨g, hg, rfl, e1, e2⟩
    · rw [e1, e2, qb1_some, qb1_some, if00, if00, qOk2_some, qOk2_some]
      exact ⟨rfl, hR0⟩
    · rw [e1, e2, qb1_some, qb1_some, if10, if10, vo_c, vo_m]
      by_cases P : (0 ≤ x2 ∧ x3 ≤ 23 ∧ x2 ≤ x3) ∧ 0 ≤ x4 ∧ x4 ≤ 99
      · rw [if_pos P, if_pos P]
        obtain ⟨hi, -, hi2, rfl⟩ := rng x3 0 23 (by omega) (Int32.not_lt.mpr (Int32.le_trans P.1.1 P.1.2.2)) P.1.2.1 (by omega)
        obtain ⟨lo, -, lo2, rfl⟩ := rng x2 0 hi (by omega) (Int32.not_lt.mpr P.1.1) P.1.2.2 (by omega)
        obtain ⟨lu, -, lu2, rfl⟩ := rng x4 0 99 (by omega) (Int32.not_lt.mpr P.2.1) P.2.2 (by omega)
        obtain ⟨b1, -, -⟩ := clr_tab8 v hv (A 11 0) hw.th
        rw [hc.th, hd.th, set_I _ (by omega), qvl_eq, qvl_eq, qwr_k hv (by omega), qwr_k hv (by omega), qwr_k hv (by omega), qwr_k hv (by omega), qwr_k hv (by omega), qwr_k hv (by omega), qwr_k hv (by omega), qwr_k hv (by omega), qwr_k hv (by omega), qwr_k (show v < 36 by omega) (by omega), show (8 : Int32) + nI v = nI (8 + v) from nI_add 8 v, show (16 : Int32) + nI v = nI (16 + v) from nI_add 16 v, qwr_k (show 8 + v < 36 by omega) (by omega), qwr_k (show 16 + v < 36 by omega) (by omega)]
        have C := ((((((hc.set_th (A 11 0 ||| 2 ^ v)).set_lo v lo).set_hi v hi).set_lu v lu).set_br v lu).set_pl v g).set_no v 0
        have z1 : qst (qst (qst (qst (qst (qst (qst M1 1 5 (nI (A 11 0 ||| 2 ^ v))) (1 + 4) v (nI lo)) (1 + 5) v (nI hi)) (1 + 6) v (nI lu)) (1 + 7) v (nI lu)) (1 + 8) v (nI g)) (1 + 9) v (-1) 1 5 = nI (A 11 0 ||| 2 ^ v) := rfl
        have z2 : qst (qst (qst (qst (qst (qst (qst M2 0 2 (nI (A 11 0 ||| 2 ^ v))) 3 v (nI lo)) 4 v (nI hi)) 5 v (nI lu)) 1 v (-6)) 1 (8 + v) (nI lu)) 1 (16 + v) (nI g) 0 2 = nI (A 11 0 ||| 2 ^ v) := rfl
        rw [z1, z2, J6_bits_eq (by omega), X8_bits_eq (by omega), qb1_some, qb1_some, qOk2_some, qOk2_some]
        refine ⟨rfl, hR0.main (fun k k1 k2 => by rw [qst_n (by omega), qst_n (by omega), qst_n (by omega), qst_n (by omega), qst_n (by omega), qst_n (by omega), qst_n (by omega)]) rfl rfl rfl rfl rfl rfl C ?_ ?_⟩
        · refine ⟨fun w hw8 => ?_, fun w hw8 => ?_, fun w hw8 => ?_, fun w hw8 => ?_, fun w hw8 => ?_, fun w hw8 hb => ?_, hd.ps, hd.ec, fun w hw8 => ?_, hd.ga, ?_, rfl, ?_, hd.si, hd.sp, hd.sn⟩
          · show upd (M2 3) v (nI lo) w = nI (if w = v then lo else A 3 w)
            by_cases e : w = v
            · subst e; rw [upd_s, if_pos rfl]
            · rw [upd_n e, if_neg e]; exact hd.lo w hw8
          · show upd (M2 4) v (nI hi) w = nI (if w = v then hi else A 4 w)
            by_cases e : w = v
            · subst e; rw [upd_s, if_pos rfl]
            · rw [upd_n e, if_neg e]; exact hd.hi w hw8
          · show upd (M2 5) v (nI lu) w = nI (if w = v then lu else A 2 w)
            by_cases e : w = v
            · subst e; rw [upd_s, if_pos rfl]
            · rw [upd_n e, if_neg e]; exact hd.lu w hw8
          · show upd (upd (upd (M2 1) v (-6)) (8 + v) (nI lu)) (16 + v) (nI g) (8 + w) = nI (if w = v then lu else A 1 w)
            rw [upd_n (by omega)]
            by_cases e : w = v
            · subst e; rw [upd_s, if_pos rfl]
            · rw [upd_n (by omega), upd_n (by omega), if_neg e]; exact hd.br w hw8
          · show upd (upd (upd (M2 1) v (-6)) (8 + v) (nI lu)) (16 + v) (nI g) (16 + w) = nI (if w = v then g else A 0 w)
            by_cases e : w = v
            · subst e; rw [upd_s, if_pos rfl]
            · rw [upd_n (by omega), upd_n (by omega), upd_n (by omega), if_neg e]; exact hd.pl w hw8
          · show upd (upd (upd (M2 1) v (-6)) (8 + v) (nI lu)) (16 + v) (nI g) w = if (if w = v then 0 else A 5 w) = 0 then -6 else nI ((if w = v then 0 else A 5 w) - 1)
            rw [upd_n (by omega), upd_n (by omega)]
            by_cases e : w = v
            · subst e; rw [upd_s, if_pos rfl, if_pos rfl]
            · rw [upd_n e, if_neg e]
              refine hd.no w hw8 ?_
              have hb : (A 11 0 ||| 2 ^ v).testBit w = true := hb
              rw [set_tb, decide_eq_false (fun y => e y.symm), Bool.or_false] at hb
              exact hb
          · show upd (upd (upd (M2 1) v (-6)) (8 + v) (nI lu)) (16 + v) (nI g) (24 + w) = nI (A 10 w)
            rw [upd_n (by omega), upd_n (by omega), upd_n (by omega)]
            exact hd.co w hw8
          · show upd (upd (upd (M2 1) v (-6)) (8 + v) (nI lu)) (16 + v) (nI g) 34 = _
            rw [upd_n (by omega), upd_n (by omega), upd_n (by omega)]
            exact hd.cl
          · show upd (upd (upd (M2 1) v (-6)) (8 + v) (nI lu)) (16 + v) (nI g) 35 = _
            rw [upd_n (by omega), upd_n (by omega), upd_n (by omega)]
            exact hd.be
        · refine ⟨fun w hw8 => ?_, fun w hw8 => ?_, fun w hw8 => ?_, fun w hw8 => ?_, fun w hw8 => ?_, fun w hw8 => ?_, fun w hw8 hp => ?_, hw.ps, hw.ec, b1, hw.ga, hw.cl, hw.be, hw.si, hw.sp, hw.sn⟩
          · show (if w = v then g else A 0 w) < 10
            have := hw.pl w hw8
            split <;> omega
          · show (if w = v then lu else A 1 w) ≤ (if w = v then lu else A 2 w)
            have := hw.br w hw8
            split <;> omega
          · show (if w = v then lu else A 2 w) ≤ 99
            have := hw.lu w hw8
            split <;> omega
          · show (if w = v then lo else A 3 w) ≤ 23
            have := hw.lo w hw8
            split <;> omega
          · show (if w = v then hi else A 4 w) ≤ 23
            have := hw.hi w hw8
            split <;> omega
          · show (if w = v then 0 else A 5 w) ≤ 24
            have := hw.to w hw8
            split <;> omega
          · have hp : 0 < (if w = v then 0 else A 5 w) := hp
            show 0 < (if w = v then lu else A 1 w) ∧ (A 11 0 ||| 2 ^ v).testBit w = true
            by_cases e : w = v
            · rw [if_pos e] at hp; omega
            · rw [if_neg e] at hp
              rw [if_neg e, set_tb, (hw.sg w hw8 hp).2]
              exact ⟨(hw.sg w hw8 hp).1, rfl⟩
      · rw [if_neg P, if_neg P, qOk2_some, qOk2_some]
        exact ⟨rfl, hR0⟩
