theorem aU_same {A : qN} {i j x : Nat} (h : A i j = x) : aU A i j x = A := by
  funext a
  unfold aU
  by_cases e : a = i
  · subst e
    rw [if_pos rfl]
    funext b
    by_cases f : b = j
    · subst f; rw [if_pos rfl, h]
    · rw [if_neg f]
  · rw [if_neg e]
theorem X8_beat_v {N : qM} {B : qN} {L : Nat → Nat} (h : qDn N B) (hw : qW B) (hL : ∀ g, g < 10 → L g < 1000) (hl : ∀ g, g < 10 → N 10 g = nI (L g)) {v : Nat} (hv : v < 8) : qOk (kX8_beat_L54 (nI v) N) (fun r => ∃ O, r = .inl (nI (v + 1), O) ∧ (∀ c, c ≠ 2 → O c = N c) ∧ qDn O (bV L B v)) := by
  unfold kX8_beat_L54 bV
  have p := hw.pl v hv
  have b := hw.br v hv
  have u := hw.lu v hv
  have t := hw.to v hv
  rw [if_neg (show ¬ (8 : Int32) ≤ nI v from nI_ge hv (by decide)), show (16 : Int32) + nI v = nI (16 + v) from nI_add 16 v, qrd_k (show 16 + v < 36 by omega) (by omega), h.pl v hv, X8_isThere_eq h.th hw.th hv, qb1_some]
  by_cases c : (B 11 0).testBit v = true
  · rw [if_pos c, if10, if_pos c, qrd_k (show v < 36 by omega) (by omega), h.no v hv c]
    by_cases c1 : 0 < B 5 v
    · obtain ⟨s1, s2⟩ := hw.sg v hv c1
      rw [if_neg (show ¬ B 5 v = 0 by omega), if_pos (show (0 : Int32) ≤ nI (B 5 v - 1) from nI_le (a := 0) (by omega) (by omega)), qb1_some, if10, if_pos c1, show (8 : Int32) + nI v = nI (8 + v) from nI_add 8 v, qvl_eq, qrd_k (show 8 + v < 36 by omega) (by omega), h.br v hv, tone_pred s1, qwr_k (show 8 + v < 36 by omega) (by omega), qrd_k (show 8 + v < 36 by omega) (by omega), qst_at, if_pos rfl]
      have h1 : qDn (qst N 2 (8 + v) (nI (B 1 v - 1))) (aU B 1 v (B 1 v - 1)) := qDn.st (qD.set_br h hv (B 1 v - 1))
      by_cases c2 : B 1 v - 1 = 0
      · rw [if_pos (show nI (B 1 v - 1) = 0 by rw [c2]; rfl), qb1_some, qwr_k (show v < 36 by omega) (by omega), qb1_some, qvl_eq, qOk_some, if_pos c2]
        rw [c2] at h1 ⊢
        exact ⟨_, by rw [nI_succ], fun c hc => by rw [qst_n hc, qst_n hc], qDn.st (qD.set_no h1 hv 0 (y := -6) (fun _ => rfl))⟩
      · rw [if_neg (show ¬ nI (B 1 v - 1) = 0 from fun z => c2 ((nI_inj (by omega) (by omega)).mp (show nI (B 1 v - 1) = nI 0 from z))), qrd_k (show v < 36 by omega) (by omega), h1.no v hv c, qb1_some, qwr_k (show v < 36 by omega) (by omega), qb1_some, qvl_eq, qOk_some, if_neg c2]
        have h2 := qDn.st (qD.set_no h1 hv (B 5 v) (fun _ => rfl))
        rw [aU_same (A := aU B 1 v (B 1 v - 1)) (i := 5) (j := v) (x := B 5 v) rfl] at h2
        exact ⟨_, by rw [nI_succ]; rfl, fun c hc => by rw [qst_n hc, qst_n hc], h2⟩
    · have z : B 5 v = 0 := by omega
      rw [if_pos z, if_neg (show ¬ (0 : Int32) ≤ -6 from by decide), if_neg c1, show (24 : Int32) + nI (B 0 v) = nI (24 + B 0 v) from nI_add 24 _, qvl_eq, qrd_k (show 24 + B 0 v < 36 by omega) (by omega), h.co _ p, qrd_k p (by omega), qrd_k p (by omega), hl _ p, cl_if (hL _ p), qb1_some, nI_add, qwr_k (show 24 + B 0 v < 36 by omega) (by omega)]
      have h1 : qDn (qst N 2 (24 + B 0 v) (nI (B 10 (B 0 v) + bCl (L (B 0 v))))) (aU B 10 (B 0 v) (B 10 (B 0 v) + bCl (L (B 0 v)))) := qDn.st (qD.set_co h p _)
      rw [show (8 : Int32) + nI v = nI (8 + v) from nI_add 8 v, qvl_eq, qrd_k (show 8 + v < 36 by omega) (by omega), h1.br v hv, qrd_k (show 8 + v < 36 by omega) (by omega), h1.br v hv, qrd_k hv (by omega), h1.lu v hv]
      show qOk (qb1 (qb1 (if nI (B 2 v) ≤ nI (B 1 v) then some 0 else some 1) _) _) _
      have e : (if nI (B 2 v) ≤ nI (B 1 v) then some (0 : Int32) else some 1) = some (nI ((if B 1 v + 1 < B 2 v then B 1 v + 1 else B 2 v) - B 1 v)) := by
        by_cases d : B 2 v ≤ B 1 v
        · rw [if_pos (nI_le d (by omega)), if_neg (show ¬ B 1 v + 1 < B 2 v by omega), show B 2 v - B 1 v = 0 by omega]
          rfl
        · rw [if_neg (nI_ge (by omega) (by omega))]
          by_cases f : B 1 v + 1 < B 2 v
          · rw [if_pos f, show B 1 v + 1 - B 1 v = 1 by omega]
            rfl
          · rw [if_neg f, show B 2 v - B 1 v = 1 by omega]
            rfl
      rw [e, qb1_some]
      show qOk (qb1 (qwr _ 2 36 (nI (8 + v)) (nI (B 1 v) + nI ((if B 1 v + 1 < B 2 v then B 1 v + 1 else B 2 v) - B 1 v)) _) _) _
      rw [nI_add, show B 1 v + ((if B 1 v + 1 < B 2 v then B 1 v + 1 else B 2 v) - B 1 v) = (if B 1 v + 1 < B 2 v then B 1 v + 1 else B 2 v) from by split <;> omega, qwr_k (show 8 + v < 36 by omega) (by omega), qb1_some, qvl_eq, qOk_some]
      exact ⟨_, by rw [nI_succ], fun c hc => by rw [qst_n hc, qst_n hc], qDn.st (qD.set_br h1 hv _)⟩
  · rw [if_neg c, if00, qb1_some, if00, qb1_some, qvl_eq, qOk_some, if_neg c]
    exact ⟨N, by rw [nI_succ], fun _ _ => rfl, h⟩
