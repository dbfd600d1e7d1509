theorem sHu_be {A : qN} {y v : Nat} : sHu (aU A 11 3 y) v = sHu A v := rfl
theorem sOwn_be {A : qN} {y g : Nat} : ∀ n, sOwn (aU A 11 3 y) g n = sOwn A g n
  | 0 => rfl
  | n + 1 => by
    unfold sOwn
    rw [sOwn_be n]
    rfl
theorem sLt_be {A : qN} {y g : Nat} : ∀ n, sLt (aU A 11 3 y) g n = sLt A g n
  | 0 => sOwn_be 8
  | n + 1 => by
    rw [sLt_s, sLt_s, sLt_be n, sOwn_be 8]
    rfl
theorem sL_be {A : qN} {y g : Nat} : sL (aU A 11 3 y) g = sL A g := sLt_be 10
theorem qW.set_be {A : qN} (h : qW A) {x : Nat} (hx : x ≤ 999) : qW (aU A 11 3 x) :=
  ⟨h.pl, h.br, h.lu, h.lo, h.hi, h.to, h.sg, h.ps, h.ec, h.th, h.ga, h.cl, hx, h.si, h.sp, h.sn⟩
theorem yBeat_W {A : qN} (h : qW A) (hb : A 11 3 ≠ 999) : qW (yBeat A) := (bS_W h 8 (by omega)).set_be (by have := h.be; omega)
theorem X8_beat_eq {M : qM} {A : qN} (h : qDn M A) (hw : qW A) : qOk2 (kX8_beat M) (fun r N => (A 11 3 = 999 ∧ r = 7 ∧ N = M) ∨ (A 11 3 ≠ 999 ∧ r = 0 ∧ (∀ c, c ≠ 2 → c ≠ 10 → N c = M c) ∧ qDn N (yBeat A))) := by
  unfold kX8_beat
  have be := hw.be
  rw [show (35 : Int32) = nI 35 from rfl, qrd_k (show 35 < 36 by omega) (by omega), h.be]
  by_cases c : A 11 3 = 999
  · rw [if_pos (show nI (A 11 3) = 999 by rw [c]; rfl), qOk2_some]
    exact Or.inl ⟨c, rfl, rfl⟩
  · rw [if_neg (show ¬ nI (A 11 3) = 999 from fun z => c ((nI_inj (by omega) (by omega)).mp (show nI (A 11 3) = nI 999 from z))), qrd_k (show 35 < 36 by omega) (by omega), h.be, ← nI_succ, qwr_k (show 35 < 36 by omega) (by omega), qOk2_b1]
    have h1 : qDn (qst M 2 35 (nI (A 11 3 + 1))) (aU A 11 3 (A 11 3 + 1)) := qDn.st (qD.set_be h (A 11 3 + 1))
    have w1 : qW (aU A 11 3 (A 11 3 + 1)) := hw.set_be (by omega)
    obtain ⟨M3, hM3⟩ : ∃ M3, M3 = qst M 2 35 (nI (A 11 3 + 1)) := ⟨_, rfl⟩
    rw [← hM3] at h1 ⊢
    have k3 : ∀ c, c ≠ 2 → M3 c = M c := fun c hc => by rw [hM3, qst_n hc]
    have l1 : qOk (qlp (S := Int32 × qM) (E := (qM)) (fun s => kX8_beat_L29 s.1 s.2) qFu (0, M3)) (fun N => (∀ c, c ≠ 10 → N c = M3 c) ∧ ∀ g, g < 10 → N 10 g = nI (sL A g)) := by
      refine qlp_for (fun i s => ∃ N, s = (nI i, N) ∧ (∀ c, c ≠ 10 → N c = M3 c) ∧ ∀ g, g < i → N 10 g = nI (sL A g)) 10 (by omega) ⟨M3, rfl, fun _ _ => rfl, fun _ z => by omega⟩ ?_ ?_
      · rintro i s hi ⟨N, rfl, n1, n2⟩
        show qOk (kX8_beat_L29 (nI i) N) _
        unfold kX8_beat_L29
        have hN : qDn N (aU A 11 3 (A 11 3 + 1)) := by
          unfold qDn
          rw [n1 2 (by decide), n1 3 (by decide), n1 4 (by decide), n1 5 (by decide), n1 6 (by decide), n1 7 (by decide), n1 8 (by decide), n1 0 (by decide)]
          exact h1
        rw [if_neg (show ¬ (10 : Int32) ≤ nI i from nI_ge hi (by decide)), X8_lightOf_eq hN w1 hi, qb1_some, qwr_k hi (by omega), qvl_eq, qOk_some, sL_be]
        refine ⟨_, by rw [nI_succ], fun c hc => by rw [qst_n hc, n1 c hc], fun g hg => ?_⟩
        rw [qst_at]
        by_cases e : g = i
        · subst e; rw [if_pos rfl]
        · rw [if_neg e, n2 g (by omega)]
      · rintro s ⟨N, rfl, n1, n2⟩
        show qOk (kX8_beat_L29 (nI 10) N) _
        unfold kX8_beat_L29
        rw [if_pos (show (10 : Int32) ≤ nI 10 from by decide), qOk_some]
        exact ⟨n1, n2⟩
    refine qOk.m l1 (fun N ⟨n1, n2⟩ => ?_)
    have hN : qDn N (aU A 11 3 (A 11 3 + 1)) := by
      unfold qDn
      rw [n1 2 (by decide), n1 3 (by decide), n1 4 (by decide), n1 5 (by decide), n1 6 (by decide), n1 7 (by decide), n1 8 (by decide), n1 0 (by decide)]
      exact h1
    rw [qOk2_b1]
    refine qlp_for (fun k s => ∃ O, s = (nI k, O) ∧ (∀ c, c ≠ 2 → O c = N c) ∧ qDn O (bS (sL A) (aU A 11 3 (A 11 3 + 1)) k)) 8 (by omega) ⟨N, rfl, fun _ _ => rfl, hN⟩ ?_ ?_
    · rintro k s hk ⟨O, rfl, o1, o2⟩
      refine qOk.m (X8_beat_v (L := sL A) o2 (bS_W w1 k (by omega)) (fun g _ => by have := sL_le hw g; omega) (fun g hg => by rw [o1 10 (by decide)]; exact n2 g hg) hk) (fun r hr => ?_)
      obtain ⟨Q, rfl, q1, q2⟩ := hr
      exact ⟨Q, rfl, fun c a => by rw [q1 c a, o1 c a], q2⟩
    · rintro s ⟨O, rfl, o1, o2⟩
      show qOk (kX8_beat_L54 (nI 8) O) _
      unfold kX8_beat_L54
      rw [if_pos (show (8 : Int32) ≤ nI 8 from by decide), qOk_some]
      show qOk2 (some ((0 : Int32), O)) (fun r N => (A 11 3 = 999 ∧ r = 7 ∧ N = M) ∨ (A 11 3 ≠ 999 ∧ r = 0 ∧ (∀ c, c ≠ 2 → c ≠ 10 → N c = M c) ∧ qDn N (yBeat A)))
      rw [qOk2_some]
      refine Or.inr ⟨c, rfl, fun c a b => by rw [o1 c a, n1 c b, k3 c a], ?_⟩
      rw [bS_be] at o2
      exact o2
