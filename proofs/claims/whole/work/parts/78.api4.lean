theorem tone_pred {t : Nat} (h : 0 < t) : nI t - 1 = nI (t - 1) := by
  obtain ⟨n, rfl⟩ : ∃ n, t = n + 1 := ⟨t - 1, by omega⟩
  exact nI_pred n
theorem X1_noteOrNone_eq {b : Nat} {M : qM} {A : qN} (h : qC b M A) (hw : qW A) {v : Nat} (hv : v < 8) : kX1_noteOrNone b M (nI v) = some (if A 5 v = 0 then -6 else nI (A 5 v - 1)) := by
  unfold kX1_noteOrNone
  rw [X1_isSinging_eq h hw hv, qb1_some, qrd_k hv (by omega), h.no v hv]
  by_cases e : A 5 v = 0
  · rw [if_neg (show ¬ 0 < A 5 v by omega), if00, qb1_some, if_pos e]
  · rw [if_pos (show 0 < A 5 v by omega), if10, qb1_some, if_neg e, tone_pred (by omega)]
theorem ne_lit {k n : Nat} (hk : k < 2147483648) (hn : n < 2147483648) (h : k ≠ n) : ¬ nI k = nI n := fun z => h ((nI_inj hk hn).mp z)
theorem t_told : qT_told qR := by
  intro M1 M2 hR x1
  have hR0 := hR
  obtain ⟨⟨A, hc, hd, hw⟩, ⟨S, p, s1, s2, s3, s4⟩, -, -⟩ := hR
  unfold kX7_told kX8_told
  by_cases c0 : x1 < 0
  · have h0 : x1.toInt < 0 := by
      have := Int32.lt_iff_toInt_lt.mp c0
      have hz : (0 : Int32).toInt = 0 := by decide
      omega
    have ne : ∀ n : Nat, n < 100 → ¬ x1 = nI n := fun n hn e => by
      rw [e, nI_toInt (by omega)] at h0
      omega
    have lt : ∀ n : Nat, n < 2147483648 → x1 < nI n := fun n hn => by
      rw [Int32.lt_iff_toInt_lt, nI_toInt hn]
      omega
    rw [if_pos c0, if_pos (show x1 < (100 : Int32) from lt 100 (by omega)), if_pos (show x1 < (10 : Int32) from lt 10 (by omega)), if_neg (show ¬ x1 = (0 : Int32) from ne 0 (by omega)), if_neg (show ¬ x1 = (1 : Int32) from ne 1 (by omega)), if_neg (show ¬ x1 = (2 : Int32) from ne 2 (by omega)), if_neg (show ¬ x1 = (3 : Int32) from ne 3 (by omega)), if_neg (show ¬ x1 = (4 : Int32) from ne 4 (by omega)), if_neg (show ¬ x1 = (5 : Int32) from ne 5 (by omega)), if_neg (show ¬ x1 = (6 : Int32) from ne 6 (by omega)), qb1_some, qOk2_some, qOk2_some]
    exact ⟨rfl, hR0⟩
  · obtain ⟨k, hk, rfl⟩ := nI_of c0
    have hk : k < 2147483648 := hk
    rw [if_neg c0]
    by_cases k200 : k < 200
    · rw [if_pos (show nI k < (200 : Int32) from nI_lt k200 (by decide))]
      by_cases k100 : k < 100
      · rw [if_pos (show nI k < (100 : Int32) from nI_lt k100 (by decide)), if_pos (show nI k < (100 : Int32) from nI_lt k100 (by decide))]
        by_cases k10 : k < 10
        · rw [if_pos (show nI k < (10 : Int32) from nI_lt k10 (by decide)), if_pos (show nI k < (10 : Int32) from nI_lt k10 (by decide))]
          unfold kX7_toldOfAll
          have nl : ∀ n : Nat, n < 10 → k ≠ n → ¬ nI k = nI n := fun n hn h => ne_lit (by omega) (by omega) h
          by_cases q0 : k = 0
          · subst q0
            rw [if_pos (show nI 0 = (0 : Int32) from rfl), if_pos (show nI 0 = (0 : Int32) from rfl), qb2_some, qOk2_some, qOk2_some, s2, s3]
            exact ⟨rfl, hR0⟩
          by_cases q1 : k = 1
          · subst q1
            rw [if_neg (show ¬ nI 1 = (0 : Int32) from by decide), if_neg (show ¬ nI 1 = (0 : Int32) from by decide), if_pos (show nI 1 = (1 : Int32) from rfl), if_pos (show nI 1 = (1 : Int32) from rfl), qb2_some, qOk2_some, qOk2_some, hc.th, hd.th]
            exact ⟨rfl, hR0⟩
          by_cases q2 : k = 2
          · subst q2
            rw [if_neg (show ¬ nI 2 = (0 : Int32) from by decide), if_neg (show ¬ nI 2 = (0 : Int32) from by decide), if_neg (show ¬ nI 2 = (1 : Int32) from by decide), if_neg (show ¬ nI 2 = (1 : Int32) from by decide), if_pos (show nI 2 = (2 : Int32) from rfl), if_pos (show nI 2 = (2 : Int32) from rfl), qOk2_b2, qOk2_b1]
            refine qOk.m (X0_shineOn_eq hc hw (Or.inr (by omega))) (fun N1 hN => ?_)
            obtain ⟨f1, f2, f3⟩ := hN
            rw [qOk2_some, qOk2_some, qOk2_b1]
            refine qOk.m (X8_asNow_eq M2) (fun N2 hN => ?_)
            obtain ⟨g1, g2, g3, -, -⟩ := hN
            rw [X8_lamps_eq (asNow_D hd g1 g2 g3) hw, qb1_some, qOk2_some]
            exact ⟨f3.symm, hR0.kept ⟨fun c hc => f1 c (by omega) (by omega) (by omega), by rw [f1 39 (by omega) (by omega) (by omega)], f1 40 (by omega) (by omega) (by omega)⟩ (asNow_K g1 g3)⟩
          by_cases q3 : k = 3
          · subst q3
            rw [if_neg (show ¬ nI 3 = (0 : Int32) from by decide), if_neg (show ¬ nI 3 = (0 : Int32) from by decide), if_neg (show ¬ nI 3 = (1 : Int32) from by decide), if_neg (show ¬ nI 3 = (1 : Int32) from by decide), if_neg (show ¬ nI 3 = (2 : Int32) from by decide), if_neg (show ¬ nI 3 = (2 : Int32) from by decide), if_pos (show nI 3 = (3 : Int32) from rfl), if_pos (show nI 3 = (3 : Int32) from rfl), qb2_some, qOk2_some, show (35 : Int32) = nI 35 from rfl, qrd_k (show 35 < 36 by omega) (by omega), qOk2_some, hc.be]
            exact ⟨hd.be, hR0⟩
          by_cases q4 : k = 4
          · subst q4
            rw [if_neg (show ¬ nI 4 = (0 : Int32) from by decide), if_neg (show ¬ nI 4 = (0 : Int32) from by decide), if_neg (show ¬ nI 4 = (1 : Int32) from by decide), if_neg (show ¬ nI 4 = (1 : Int32) from by decide), if_neg (show ¬ nI 4 = (2 : Int32) from by decide), if_neg (show ¬ nI 4 = (2 : Int32) from by decide), if_neg (show ¬ nI 4 = (3 : Int32) from by decide), if_neg (show ¬ nI 4 = (3 : Int32) from by decide), if_pos (show nI 4 = (4 : Int32) from rfl), if_pos (show nI 4 = (4 : Int32) from rfl), qb2_some, qOk2_some, show (34 : Int32) = nI 34 from rfl, qrd_k (show 34 < 36 by omega) (by omega), qOk2_some, hc.cl]
            exact ⟨hd.cl, hR0⟩
          by_cases q5 : k = 5
          · subst q5
            rw [if_neg (show ¬ nI 5 = (0 : Int32) from by decide), if_neg (show ¬ nI 5 = (0 : Int32) from by decide), if_neg (show ¬ nI 5 = (1 : Int32) from by decide), if_neg (show ¬ nI 5 = (1 : Int32) from by decide), if_neg (show ¬ nI 5 = (2 : Int32) from by decide), if_neg (show ¬ nI 5 = (2 : Int32) from by decide), if_neg (show ¬ nI 5 = (3 : Int32) from by decide), if_neg (show ¬ nI 5 = (3 : Int32) from by decide), if_neg (show ¬ nI 5 = (4 : Int32) from by decide), if_neg (show ¬ nI 5 = (4 : Int32) from by decide), if_pos (show nI 5 = (5 : Int32) from rfl), if_pos (show nI 5 = (5 : Int32) from rfl), qb2_some, qOk2_some, qOk2_some, hc.ga, hd.ga]
            exact ⟨rfl, hR0⟩
          by_cases q6 : k = 6
          · subst q6
            rw [if_neg (show ¬ nI 6 = (0 : Int32) from by decide), if_neg (show ¬ nI 6 = (0 : Int32) from by decide), if_neg (show ¬ nI 6 = (1 : Int32) from by decide), if_neg (show ¬ nI 6 = (1 : Int32) from by decide), if_neg (show ¬ nI 6 = (2 : Int32) from by decide), if_neg (show ¬ nI 6 = (2 : Int32) from by decide), if_neg (show ¬ nI 6 = (3 : Int32) from by decide), if_neg (show ¬ nI 6 = (3 : Int32) from by decide), if_neg (show ¬ nI 6 = (4 : Int32) from by decide), if_neg (show ¬ nI 6 = (4 : Int32) from by decide), if_neg (show ¬ nI 6 = (5 : Int32) from by decide), if_neg (show ¬ nI 6 = (5 : Int32) from by decide), if_pos (show nI 6 = (6 : Int32) from rfl), if_pos (show nI 6 = (6 : Int32) from rfl), qb1_some, qb2_some, qOk2_some, qOk2_some, hc.si, hd.si]
            exact ⟨rfl, hR0⟩
          rw [if_neg (show ¬ nI k = (0 : Int32) from nl 0 (by omega) q0), if_neg (show ¬ nI k = (0 : Int32) from nl 0 (by omega) q0), if_neg (show ¬ nI k = (1 : Int32) from nl 1 (by omega) q1), if_neg (show ¬ nI k = (1 : Int32) from nl 1 (by omega) q1), if_neg (show ¬ nI k = (2 : Int32) from nl 2 (by omega) q2), if_neg (show ¬ nI k = (2 : Int32) from nl 2 (by omega) q2), if_neg (show ¬ nI k = (3 : Int32) from nl 3 (by omega) q3), if_neg (show ¬ nI k = (3 : Int32) from nl 3 (by omega) q3), if_neg (show ¬ nI k = (4 : Int32) from nl 4 (by omega) q4), if_neg (show ¬ nI k = (4 : Int32) from nl 4 (by omega) q4), if_neg (show ¬ nI k = (5 : Int32) from nl 5 (by omega) q5), if_neg (show ¬ nI k = (5 : Int32) from nl 5 (by omega) q5), if_neg (show ¬ nI k = (6 : Int32) from nl 6 (by omega) q6), if_neg (show ¬ nI k = (6 : Int32) from nl 6 (by omega) q6), qb1_some, qb2_some, qOk2_some, qOk2_some]
          exact ⟨rfl, hR0⟩
        · have n10 : ¬ nI k < (10 : Int32) := nI_nlt (b := 10) (by omega) (by omega)
          rw [if_neg n10, if_neg n10]
          have d1 : nI k / 10 - 1 = nI (k / 10 - 1) := by
            rw [show nI k / 10 = nI (k / 10) from pk_div (d := 10) hk (by omega) (by omega)]
            exact tone_pred (by omega)
          have d2 : nI k - nI k / 10 * 10 = nI (k % 10) := pk_rem (d := 10) hk (by omega) (by omega)
          rw [d1, d2]
          have j10 : k % 10 < 10 := Nat.mod_lt _ (by omega)
          generalize k % 10 = j at *
          generalize k / 10 - 1 = v at *
          unfold kX7_toldOfVoice kX8_toldVoice
          rcases thr hc.th hd.th hw.th (nI v) with ⟨e1, e2⟩ | ⟨v', hv, e, ht, e1, e2⟩
          · rw [e1, e2, qb1_some, qb1_some, if00, if00, qb1_some, qb1_some, qOk2_some, qOk2_some]
            exact ⟨rfl, hR0⟩
          · rw [e] at e1 e2 ⊢
            rw [e1, e2, qb1_some, qb1_some, if10, if10]
            have nl : ∀ n : Nat, n < 10 → j ≠ n → ¬ nI j = nI n := fun n hn h => ne_lit (by omega) (by omega) h
            have a8 : (8 : Int32) + nI v' = nI (8 + v') := nI_add 8 v'
            have a16 : (16 : Int32) + nI v' = nI (16 + v') := nI_add 16 v'
            simp only [a8, a16, qrd_k hv (show 8 < 2147483648 by omega), qrd_k (show v' < 36 by omega) (show 36 < 2147483648 by omega), qrd_k (show 8 + v' < 36 by omega) (show 36 < 2147483648 by omega), qrd_k (show 16 + v' < 36 by omega) (show 36 < 2147483648 by omega), hc.lo v' hv, hc.hi v' hv, hc.br v' hv, hc.lu v' hv, hc.pl v' hv, hd.lo v' hv, hd.hi v' hv, hd.br v' hv, hd.lu v' hv, hd.pl v' hv, hd.no v' hv ht, X1_noteOrNone_eq hc hw hv, qb1_some]
            by_cases q0 : j = 0
            · subst q0
              rw [if_pos (show nI 0 = (0 : Int32) from rfl), if_pos (show nI 0 = (0 : Int32) from rfl), qb1_some, qb1_some, qOk2_some, qOk2_some]
              exact ⟨rfl, hR0⟩
            by_cases q1 : j = 1
            · subst q1
              rw [if_neg (show ¬ nI 1 = (0 : Int32) from by decide), if_neg (show ¬ nI 1 = (0 : Int32) from by decide), if_pos (show nI 1 = (1 : Int32) from rfl), if_pos (show nI 1 = (1 : Int32) from rfl), qb1_some, qb1_some, qOk2_some, qOk2_some]
              exact ⟨rfl, hR0⟩
            by_cases q2 : j = 2
            · subst q2
              rw [if_neg (show ¬ nI 2 = (0 : Int32) from by decide), if_neg (show ¬ nI 2 = (0 : Int32) from by decide), if_neg (show ¬ nI 2 = (1 : Int32) from by decide), if_neg (show ¬ nI 2 = (1 : Int32) from by decide), if_pos (show nI 2 = (2 : Int32) from rfl), if_pos (show nI 2 = (2 : Int32) from rfl), qb1_some, qb1_some, qOk2_some, qOk2_some]
              exact ⟨rfl, hR0⟩
            by_cases q3 : j = 3
            · subst q3
              rw [if_neg (show ¬ nI 3 = (0 : Int32) from by decide), if_neg (show ¬ nI 3 = (0 : Int32) from by decide), if_neg (show ¬ nI 3 = (1 : Int32) from by decide), if_neg (show ¬ nI 3 = (1 : Int32) from by decide), if_neg (show ¬ nI 3 = (2 : Int32) from by decide), if_neg (show ¬ nI 3 = (2 : Int32) from by decide), if_pos (show nI 3 = (3 : Int32) from rfl), if_pos (show nI 3 = (3 : Int32) from rfl), qb1_some, qb1_some, qOk2_some, qOk2_some]
              exact ⟨rfl, hR0⟩
            by_cases q4 : j = 4
            · subst q4
              rw [if_neg (show ¬ nI 4 = (0 : Int32) from by decide), if_neg (show ¬ nI 4 = (0 : Int32) from by decide), if_neg (show ¬ nI 4 = (1 : Int32) from by decide), if_neg (show ¬ nI 4 = (1 : Int32) from by decide), if_neg (show ¬ nI 4 = (2 : Int32) from by decide), if_neg (show ¬ nI 4 = (2 : Int32) from by decide), if_neg (show ¬ nI 4 = (3 : Int32) from by decide), if_neg (show ¬ nI 4 = (3 : Int32) from by decide), if_pos (show nI 4 = (4 : Int32) from rfl), if_pos (show nI 4 = (4 : Int32) from rfl), qb1_some, qb1_some, qOk2_some, qOk2_some]
              exact ⟨rfl, hR0⟩
            by_cases q5 : j = 5
            · subst q5
              rw [if_neg (show ¬ nI 5 = (0 : Int32) from by decide), if_neg (show ¬ nI 5 = (0 : Int32) from by decide), if_neg (show ¬ nI 5 = (1 : Int32) from by decide), if_neg (show ¬ nI 5 = (1 : Int32) from by decide), if_neg (show ¬ nI 5 = (2 : Int32) from by decide), if_neg (show ¬ nI 5 = (2 : Int32) from by decide), if_neg (show ¬ nI 5 = (3 : Int32) from by decide), if_neg (show ¬ nI 5 = (3 : Int32) from by decide), if_neg (show ¬ nI 5 = (4 : Int32) from by decide), if_neg (show ¬ nI 5 = (4 : Int32) from by decide), if_pos (show nI 5 = (5 : Int32) from rfl), qb1_some, qb1_some, qb1_some, qOk2_some, qOk2_some]
              exact ⟨rfl, hR0⟩
            rw [if_neg (show ¬ nI j = (0 : Int32) from nl 0 (by omega) q0), if_neg (show ¬ nI j = (0 : Int32) from nl 0 (by omega) q0), if_neg (show ¬ nI j = (1 : Int32) from nl 1 (by omega) q1), if_neg (show ¬ nI j = (1 : Int32) from nl 1 (by omega) q1), if_neg (show ¬ nI j = (2 : Int32) from nl 2 (by omega) q2), if_neg (show ¬ nI j = (2 : Int32) from nl 2 (by omega) q2), if_neg (show ¬ nI j = (3 : Int32) from nl 3 (by omega) q3), if_neg (show ¬ nI j = (3 : Int32) from nl 3 (by omega) q3), if_neg (show ¬ nI j = (4 : Int32) from nl 4 (by omega) q4), if_neg (show ¬ nI j = (4 : Int32) from nl 4 (by omega) q4), if_neg (show ¬ nI j = (5 : Int32) from nl 5 (by omega) q5), qb1_some, qb1_some, qb1_some, qOk2_some, qOk2_some]
            exact ⟨rfl, hR0⟩
      · have n100 : ¬ nI k < (100 : Int32) := nI_nlt (b := 100) (by omega) (by omega)
        rw [if_neg n100, if_neg n100]
        have d0 : (nI k - 100) / 10 = nI ((k - 100) / 10) := by
          rw [show nI k - 100 = nI (k - 100) from pk_sub (b := 100) (by omega)]
          exact pk_div (d := 10) (by omega) (by omega) (by omega)
        have d1 : nI k / 10 - 10 = nI ((k - 100) / 10) := by
          rw [show nI k / 10 = nI (k / 10) from pk_div (d := 10) hk (by omega) (by omega), show nI (k / 10) - 10 = nI (k / 10 - 10) from pk_sub (b := 10) (by omega)]
          congr 1
          omega
        have d2 : nI k - nI k / 10 * 10 = nI (k % 10) := pk_rem (d := 10) hk (by omega) (by omega)
        rw [qvl_eq, d0, d1, d2]
        have j10 : k % 10 < 10 := Nat.mod_lt _ (by omega)
        have g10 : (k - 100) / 10 < 10 := by omega
        generalize k % 10 = j at *
        generalize (k - 100) / 10 = g at *
        unfold kX7_toldOfGallery
        rcases gal (nI g) with ⟨e1, e2⟩ | ⟨g', hg, e, e1, e2⟩
        · rw [e1, e2, qb1_some, qb1_some, if00, if00, qb1_some, qOk2_some, qOk2_some]
          exact ⟨rfl, hR0⟩
        · rw [e] at e1 e2 ⊢
          rw [e1, e2, qb1_some, qb1_some, if10, if10]
          have nl : ∀ n : Nat, n < 10 → j ≠ n → ¬ nI j = nI n := fun n hn h => ne_lit (by omega) (by omega) h
          have a24 : (24 : Int32) + nI g' = nI (24 + g') := nI_add 24 g'
          simp only [a24, qrd_k hg (show 10 < 2147483648 by omega), qrd_k (show 24 + g' < 36 by omega) (show 36 < 2147483648 by omega), hc.ec g' hg, hc.co g' hg, hc.ps g' hg, hd.ec g' hg, hd.co g' hg, hd.ps g' hg]
          by_cases q0 : j = 0
          · subst q0
            rw [if_pos (show nI 0 = (0 : Int32) from rfl), if_pos (show nI 0 ≤ (2 : Int32) from by decide), if_pos (show nI 0 = (0 : Int32) from rfl), qb1_some, qb1_some, qOk2_some, qOk2_some]
            exact ⟨rfl, hR0⟩
          by_cases q1 : j = 1
          · subst q1
            rw [if_neg (show ¬ nI 1 = (0 : Int32) from by decide), if_pos (show nI 1 = (1 : Int32) from rfl), if_pos (show nI 1 ≤ (2 : Int32) from by decide), if_neg (show ¬ nI 1 = (0 : Int32) from by decide), if_pos (show nI 1 = (1 : Int32) from rfl), qb1_some, qb1_some, qOk2_some, qOk2_some]
            exact ⟨rfl, hR0⟩
          by_cases q2 : j = 2
          · subst q2
            rw [if_neg (show ¬ nI 2 = (0 : Int32) from by decide), if_neg (show ¬ nI 2 = (1 : Int32) from by decide), if_pos (show nI 2 = (2 : Int32) from rfl), if_pos (show nI 2 ≤ (2 : Int32) from by decide), if_neg (show ¬ nI 2 = (0 : Int32) from by decide), if_neg (show ¬ nI 2 = (1 : Int32) from by decide), qb1_some, qb1_some, qOk2_some, qOk2_some]
            exact ⟨rfl, hR0⟩
          rw [if_neg (show ¬ nI j = (0 : Int32) from nl 0 (by omega) q0), if_neg (show ¬ nI j = (1 : Int32) from nl 1 (by omega) q1), if_neg (show ¬ nI j = (2 : Int32) from nl 2 (by omega) q2), if_neg (show ¬ nI j ≤ (2 : Int32) from nI_ge (a := 2) (by omega) (by omega)), qb1_some, qOk2_some, qOk2_some]
          exact ⟨rfl, hR0⟩
    · have n200 : ¬ nI k < (200 : Int32) := nI_nlt (b := 200) (by omega) (by omega)
      have n100 : ¬ nI k < (100 : Int32) := nI_nlt (b := 100) (by omega) (by omega)
      rw [if_neg n200, if_neg n100, qvl_eq, show nI k / 10 = nI (k / 10) from pk_div (d := 10) hk (by omega) (by omega), show nI (k / 10) - 10 = nI (k / 10 - 10) from pk_sub (b := 10) (by omega), X8_isGallery_eq, if_neg (show ¬ ((0 : Int32) ≤ nI (k / 10 - 10) ∧ nI (k / 10 - 10) < 10) from fun z => nI_nlt (b := 10) (show 10 ≤ k / 10 - 10 by omega) (by omega) z.2), qb1_some, if00, qOk2_some, qOk2_some]
      exact ⟨rfl, hR0⟩
