theorem X8_dark_eq {M : qM} {a b D m : Nat} (ha : a < 1024) (hD : D = a &&& (b ^^^ 1023)) (h17 : M 0 17 = nI m) (hm : m < 1000) (h13 : M 0 13 = -6 ∨ (0 : Int32) ≤ M 0 13) : qOk (qlp (S := Int32 × qM) (E := (qM)) (fun s => kX8_goShifts_L201 (nI a) (nI b) s.1 s.2) qFu (0, M)) (fun N => (∀ c, c ≠ 0 → N c = M c) ∧ (∀ j, j ≠ 13 → j ≠ 14 → N 0 j = M 0 j) ∧ (if M 0 13 = -6 ∧ D ≠ 0 then N 0 13 = nI m ∧ N 0 14 = nI (lb D) else N 0 13 = M 0 13 ∧ N 0 14 = M 0 14)) := by
  have hDl : D < 1024 := by rw [hD]; exact Nat.lt_of_le_of_lt Nat.and_le_left ha
  rcases h13 with h13 | h13
  · have n0 : ¬ (0 : Int32) ≤ M 0 13 := by rw [h13]; decide
    by_cases d : D = 0
    · have hn : ¬ (M 0 13 = -6 ∧ D ≠ 0) := fun z => z.2 d
      simp only [if_neg hn]
      refine qlp_for (fun k s => s = (nI k, M)) 10 (by omega) rfl ?_ ?_
      · rintro k s hk rfl
        show qOk (kX8_goShifts_L201 (nI a) (nI b) (nI k) M) _
        unfold kX8_goShifts_L201
        rw [if_neg (show ¬ (10 : Int32) ≤ nI k from nI_ge hk (by decide)), if_neg n0, andnot ha, ← hD, X8_has_eq (by omega) (by omega), qb1_some, if_neg (show ¬ D.testBit k = true by rw [d, Nat.zero_testBit]; decide), if00, qb1_some, qvl_eq, qOk_some]
        show _ = _
        rw [nI_succ]
      · rintro s rfl
        show qOk (kX8_goShifts_L201 (nI a) (nI b) (nI 10) M) _
        unfold kX8_goShifts_L201
        rw [if_pos (show (10 : Int32) ≤ nI 10 from by decide), qOk_some]
        exact ⟨fun _ _ => rfl, fun _ _ _ => rfl, rfl, rfl⟩
    · have hn : M 0 13 = -6 ∧ D ≠ 0 := ⟨h13, d⟩
      simp only [if_pos hn]
      obtain ⟨-, l1, l2⟩ := lb_ok hDl d
      have l0 := lb_lt D
      refine qlp_for (fun k s => (k ≤ lb D ∧ s = (nI k, M)) ∨ (k = lb D + 1 ∧ s = (nI k, qst (qst M 0 13 (nI m)) 0 14 (nI (lb D))))) (lb D + 1) (by omega) (Or.inl ⟨Nat.zero_le _, rfl⟩) ?_ ?_
      · rintro k s hk (⟨hk2, rfl⟩ | ⟨q, rfl⟩)
        · show qOk (kX8_goShifts_L201 (nI a) (nI b) (nI k) M) _
          unfold kX8_goShifts_L201
          rw [if_neg (show ¬ (10 : Int32) ≤ nI k from nI_ge (b := 10) (by omega) (by decide)), if_neg n0, andnot ha, ← hD, X8_has_eq (by omega) (by omega), qb1_some]
          by_cases e : k = lb D
          · rw [if_pos (show D.testBit k = true by rw [e]; exact l1), if10, h17, qvl_eq, qvl_eq, qb1_some, qvl_eq, qOk_some]
            exact Or.inr ⟨by omega, by rw [nI_succ, e]⟩
          · rw [if_neg (l2 k (by omega)), if00, qb1_some, qvl_eq, qOk_some]
            exact Or.inl ⟨by omega, by rw [nI_succ]⟩
        · omega
      · rintro s (⟨q, -⟩ | ⟨-, rfl⟩)
        · omega
        · show qOk (kX8_goShifts_L201 (nI a) (nI b) (nI (lb D + 1)) (qst (qst M 0 13 (nI m)) 0 14 (nI (lb D)))) _
          unfold kX8_goShifts_L201
          have v13 : (qst (qst M 0 13 (nI m)) 0 14 (nI (lb D))) 0 13 = nI m := by rw [qst_at, if_neg (by decide), qst_at, if_pos rfl]
          rw [v13, if_pos (show (0 : Int32) ≤ nI m from nI_le (a := 0) (by omega) (by omega)), ite_self, qOk_some]
          refine ⟨fun c hc => by rw [qst_n hc, qst_n hc], fun j j3 j4 => by rw [qst_at, if_neg j4, qst_at, if_neg j3], v13, by rw [qst_at, if_pos rfl]⟩
  · have hn : ¬ (M 0 13 = -6 ∧ D ≠ 0) := fun z => by rw [z.1] at h13; exact absurd h13 (by decide)
    simp only [if_neg hn]
    refine qlp_for (fun _ s => s = (0, M)) 0 (by omega) rfl (fun _ _ z => by omega) ?_
    rintro s rfl
    show qOk (kX8_goShifts_L201 (nI a) (nI b) 0 M) _
    unfold kX8_goShifts_L201
    rw [if_pos h13, ite_self, qOk_some]
    exact ⟨fun _ _ => rfl, fun _ _ _ => rfl, rfl, rfl⟩
