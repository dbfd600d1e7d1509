/-! API: pad, galleries, voices -/
theorem one_ne0 : ¬ (1 : Int32) = 0 := by decide
theorem zero_ne1 : ¬ (0 : Int32) = 1 := by decide
theorem if10 {α : Type} {D : Decidable ((1 : Int32) = 0)} {a b : α} : @ite _ ((1 : Int32) = 0) D a b = b := if_neg one_ne0
theorem if00 {α : Type} {D : Decidable ((0 : Int32) = 0)} {a b : α} : @ite _ ((0 : Int32) = 0) D a b = a := if_pos rfl
theorem if11 {α : Type} {D : Decidable ((1 : Int32) = 1)} {a b : α} : @ite _ ((1 : Int32) = 1) D a b = a := if_pos rfl
theorem if01 {α : Type} {D : Decidable ((0 : Int32) = 1)} {a b : α} : @ite _ ((0 : Int32) = 1) D a b = b := if_neg zero_ne1
theorem qR.pad {M1 M2 N1 N2 : qM} (h : qR M1 M2) (h1 : ∀ k, k < 39 → N1 k = M1 k) (k1 : N2 1 = M2 1) (k3 : N2 3 = M2 3) (k4 : N2 4 = M2 4) (k5 : N2 5 = M2 5) (k6 : N2 6 = M2 6) (k7 : N2 7 = M2 7) (k8 : N2 8 = M2 8) (k15 : N2 15 = M2 15) (k16 : N2 16 = M2 16) (l2 : N2 0 2 = M2 0 2) (l8 : N2 0 8 = M2 0 8) (l9 : N2 0 9 = M2 0 9) {S : Nat} {p : Nat → Nat} (hp : qPd N1 N2 S p) : qR N1 N2 := by
  obtain ⟨⟨A, c, d, w⟩, -, i0, i1⟩ := h
  have im : ∀ n, n < 2 → qIg M1 M2 n → qIg N1 N2 n := by
    intro n hn i
    rcases i with ⟨a, b⟩ | ⟨a, b, B, c, d, w⟩
    · exact Or.inl ⟨by rw [h1 38 (by omega)]; exact a, by rw [k16]; exact b⟩
    · refine Or.inr ⟨by rw [h1 38 (by omega)]; exact a, by rw [k16]; exact b, B, c.same (fun k _ hk => h1 k (by omega)), ?_, w⟩
      show qDi N2 n B
      unfold qDi
      rw [k15]
      exact d
  refine ⟨⟨A, c.same (fun k _ hk => h1 k (by omega)), ?_, w⟩, ⟨S, p, hp⟩, im 0 (by omega) i0, im 1 (by omega) i1⟩
  show qDm N2 A
  unfold qDm
  rw [k1, k3, k4, k5, k6, k7, k8, l2, l8, l9]
  exact d
theorem t_wipe : qT_wipe qR := by
  intro M1 M2 hR
  have hR0 := hR
  obtain ⟨-, ⟨S, p, s1, s2, s3, s4⟩, -, -⟩ := hR
  unfold kX7_wipe kX8_wipe
  rw [qvl_eq, qvl_eq, qvl_eq, qvl_eq, qOk2_some, qOk2_some]
  refine ⟨by rw [s2, s3], hR0.pad (fun k hk => qst_n (by omega)) rfl rfl rfl rfl rfl rfl rfl rfl rfl rfl rfl rfl (S := 0) (p := p) ⟨Nat.zero_le _, rfl, rfl, fun i hi => by omega⟩⟩
theorem rng (x : Int32) (a b : Nat) (hb : b < 2147483648) (h1 : ¬ x < nI a) (h2 : x ≤ nI b) (ha : a < 2147483648) : ∃ q, a ≤ q ∧ q ≤ b ∧ x = nI q := by
  rw [Int32.lt_iff_toInt_lt, nI_toInt ha] at h1
  rw [Int32.le_iff_toInt_le, nI_toInt hb] at h2
  refine ⟨x.toInt.toNat, by omega, by omega, ?_⟩
  apply Int32.toInt_inj.mp
  rw [nI_toInt (by omega)]
  omega
theorem t_say : qT_say qR := by
  intro M1 M2 hR x1
  have hR0 := hR
  obtain ⟨-, ⟨S, p, s1, s2, s3, s4⟩, -, -⟩ := hR
  unfold kX7_say kX8_say
  rw [X8_in_eq, qb1_some]
  by_cases c1 : x1 < 33
  · rw [if_pos c1, if_neg (show ¬ ((33 : Int32) ≤ x1 ∧ x1 ≤ 126) from fun z => absurd c1 (Int32.not_lt.mpr z.1)), if_pos rfl, qOk2_some, qOk2_some]
    exact ⟨rfl, hR0⟩
  · rw [if_neg c1]
    by_cases c2 : x1 ≤ 126
    · rw [if_pos c2, if_pos (show (33 : Int32) ≤ x1 ∧ x1 ≤ 126 from ⟨Int32.not_lt.mp c1, c2⟩), if10, s2, s3]
      obtain ⟨q, q1, q2, rfl⟩ := rng x1 33 126 (by omega) c1 c2 (by omega)
      by_cases f : S < 60
      · rw [if_pos (show nI S < (60 : Int32) from nI_lt f (by decide)), if_neg (show ¬ nI S = (60 : Int32) from fun z => by have := (nI_inj (b := 60) (by omega) (by omega)).mp z; omega), qwr_k f (by omega), qwr_k f (by omega), qvl_eq, qvl_eq, qOk2_some, qOk2_some]
        have a1 : qst (qst M1 40 S (nI q)) 39 1 (qst M1 40 S (nI q) 39 1 + 1) 39 1 = nI (S + 1) := by
          rw [qst_at, if_pos rfl, qst_n (by decide), s2, nI_1]
        have a2 : qst (qst M2 9 S (nI q)) 0 11 (qst M2 9 S (nI q) 0 11 + 1) 0 11 = nI (S + 1) := by
          rw [qst_at, if_pos rfl, qst_n (by decide), s3, nI_1]
        refine ⟨by rw [a1, a2], hR0.pad (fun k hk => by rw [qst_n (by omega), qst_n (by omega)]) rfl rfl rfl rfl rfl rfl rfl rfl rfl rfl rfl rfl (S := S + 1) (p := fun i => if i = S then q else p i) ⟨by omega, a1, a2, fun i hi => ?_⟩⟩
        show upd (M1 40) S (nI q) i = nI (if i = S then q else p i) ∧ upd (M2 9) S (nI q) i = nI (if i = S then q else p i) ∧ 33 ≤ (if i = S then q else p i) ∧ (if i = S then q else p i) ≤ 126
        by_cases e : i = S
        · subst e
          rw [upd_s, upd_s, if_pos rfl]; exact ⟨rfl, rfl, q1, q2⟩
        · rw [upd_n e, upd_n e, if_neg e]; exact s4 i (by omega)
      · have e : S = 60 := by omega
        subst e
        rw [if_neg (show ¬ nI 60 < (60 : Int32) from by decide), if_pos (show nI 60 = (60 : Int32) from rfl), qOk2_some, qOk2_some]
        exact ⟨rfl, hR0⟩
    · rw [if_neg c2, if_neg (show ¬ ((33 : Int32) ≤ x1 ∧ x1 ≤ 126) from fun z => c2 z.2), if_pos rfl, qOk2_some, qOk2_some]
      exact ⟨rfl, hR0⟩
theorem t_gallery : qT_gallery qR := by
  intro M1 M2 hR x1 x2 x3
  have hR0 := hR
  obtain ⟨⟨A, hc, hd, hw⟩, -, -, -⟩ := hR
  unfold kX7_gallery kX8_gallery
  rcases gal x1 with ⟨e1, e2⟩ | ⟨g, hg, rfl, e1, e2⟩
  · rw [e1, e2, qb1_some, qb1_some, if00, if00, qOk2_some, qOk2_some]
    exact ⟨rfl, hR0⟩
  · rw [e1, e2, qb1_some, qb1_some, if10, if10]
    rcases gal x2 with ⟨e1, e2⟩ | ⟨h, hh, rfl, e1, e2⟩
    · rw [e1, e2, qb1_some, qb1_some, if00, if00, qOk2_some, qOk2_some]
      exact ⟨rfl, hR0⟩
    · rw [e1, e2, qb1_some, qb1_some, if10, if10, qrd_k hg (by omega), qrd_k hg (by omega), qwr_k hg (by omega), qwr_k hg (by omega), qvl_eq, hc.ec g hg, hd.ec g hg]
      have z1 : qst M1 (1 + 2) g (nI h) 1 3 = nI (A 11 1) := hc.ga
      have z2 : qst M2 7 g (nI h) 0 8 = nI (A 11 1) := hd.ga
      rw [z1, z2, clr_I _ (by omega), set_I _ (by omega), shl1 (by omega)]
      obtain ⟨b1, b2, b3⟩ := clr_tab g hg (A 11 1) hw.ga
      have fin : ∀ G, G < 1024 → ∀ y : Int32, y = nI G → qR (qst (qst M1 (1 + 2) g (nI h)) 1 3 (nI G)) (qst (qst (qst M2 7 g (nI h)) 0 8 (nI (clr (A 11 1) g))) 0 8 y) := by
        intro G hG y hy
        subst hy
        refine hR0.main (fun k k1 k2 => by rw [qst_n (by omega), qst_n (by omega)]) rfl rfl rfl rfl rfl rfl (A := aU (aU A 7 g h) 11 1 G) ((hc.set_ec g h).set_ga G) ((hd.set_ec g h).set_ga G) ?_
        refine ⟨hw.pl, hw.br, hw.lu, hw.lo, hw.hi, hw.to, hw.sg, hw.ps, fun w hg2 => ?_, hw.th, hG, hw.cl, hw.be, hw.si, hw.sp, hw.sn⟩
        show aU A 7 g h 7 w < 10
        by_cases e : w = g
        · subst e; rw [aU_s]; exact hh
        · rw [aU_n e]; exact hw.ec w hg2
      by_cases x : x3 = 0
      · simp only [x, if_true, if00, qb1_some, qvl_eq, qOk2_some]
        refine ⟨trivial, fin _ b3 _ ?_⟩
        show upd (qst M2 7 g (nI h) 0) 8 (nI (clr (A 11 1) g)) 8 ||| 0 = _
        rw [upd_s, show (0 : Int32) = nI 0 from rfl, fa_or, Nat.or_zero]
      · simp only [x, if_false, if10, qb1_some, qvl_eq, qOk2_some]
        refine ⟨trivial, fin _ b2 _ ?_⟩
        show upd (qst M2 7 g (nI h) 0) 8 (nI (clr (A 11 1) g)) 8 ||| nI (2 ^ g) = _
        rw [upd_s, fa_or, b1]
theorem t_leave : qT_leave qR := by
  intro M1 M2 hR x1
  have hR0 := hR
  obtain ⟨⟨A, hc, hd, hw⟩, -, -, -⟩ := hR
  unfold kX7_leave kX8_leave
  rcases thr hc.th hd.th hw.th x1 with ⟨e1, e2⟩ | ⟨v, hv, rfl, ht, e1, e2⟩
  · rw [e1, e2, qb1_some, qb1_some, if00, if00, qOk2_some, qOk2_some]
    exact ⟨rfl, hR0⟩
  · obtain ⟨b1, b2, b3⟩ := clr_tab8 v hv (A 11 0) hw.th
    rw [e1, e2, qb1_some, qb1_some, if10, if10, hc.th, hd.th, clr_I _ (by omega), qvl_eq, qvl_eq, qwr_k hv (by omega)]
    have z1 : qst (qst M1 1 5 (nI (clr (A 11 0) v))) (1 + 9) v (-1) 1 5 = nI (clr (A 11 0) v) := rfl
    have z2 : qst M2 0 2 (nI (clr (A 11 0) v)) 0 2 = nI (clr (A 11 0) v) := rfl
    rw [z1, z2, J6_bits_eq (by omega), X8_bits_eq (by omega), qb1_some, qb1_some, qOk2_some, qOk2_some]
    refine ⟨rfl, hR0.main (fun k k1 k2 => by rw [qst_n (by omega), qst_n (by omega)]) rfl rfl rfl rfl rfl rfl (A := aU (aU A 11 0 (clr (A 11 0) v)) 5 v 0) ((hc.set_th _).set_no v 0) ?_ ?_⟩
    · have d1 := hd.set_th (clr (A 11 0) v) (fun w hw8 hb => hd.no w hw8 (by rw [b3 w hw8, Bool.and_eq_true] at hb; exact hb.1))
      refine ⟨d1.lo, d1.hi, d1.lu, d1.br, d1.pl, fun w hw8 hb => ?_, d1.ps, d1.ec, d1.co, d1.ga, d1.cl, d1.th, d1.be, d1.si, d1.sp, d1.sn⟩
      have hb : (clr (A 11 0) v).testBit w = true := hb
      have ne : w ≠ v := by
        rw [b3 w hw8, Bool.and_eq_true, decide_eq_true_eq] at hb
        exact hb.2
      have := d1.no w hw8 hb
      rw [aU_n ne]
      exact this
    · refine ⟨hw.pl, hw.br, hw.lu, hw.lo, hw.hi, fun w hw8 => ?_, fun w hw8 hp => ?_, hw.ps, hw.ec, b2, hw.ga, hw.cl, hw.be, hw.si, hw.sp, hw.sn⟩
      · by_cases e : w = v
        · subst e; rw [aU_s]; omega
        · rw [aU_n e]; exact hw.to w hw8
      · by_cases e : w = v
        · subst e; rw [aU_s] at hp; omega
        · rw [aU_n e] at hp
          have := hw.sg w hw8 hp
          refine ⟨this.1, ?_⟩
          show (clr (A 11 0) v).testBit w = true
          rw [b3 w hw8, this.2, decide_eq_true e]
          rfl
theorem t_forget : qT_forget qR := by
  intro M1 M2 hR
  have hR0 := hR
  obtain ⟨⟨A, hc, hd, hw⟩, -, -, -⟩ := hR
  unfold kX7_forget kX8_forget
  rw [qvl_eq, qvl_eq, qvl_eq, qvl_eq, qOk2_some, qOk2_some]
  refine ⟨by rw [hc.si, hd.si], hR0.main (fun k k1 k2 => by rw [qst_n (by omega)]) rfl rfl rfl rfl rfl rfl (A := aU A 11 4 0) ?_ ?_ ?_⟩
  · exact ⟨hc.lo, hc.hi, hc.lu, hc.br, hc.pl, hc.no, hc.ps, hc.ec, hc.co, hc.ga, hc.cl, hc.th, hc.be, rfl, fun i hi => by rw [aU_s] at hi; omega, fun i hi => by rw [aU_s] at hi; omega⟩
  · exact ⟨hd.lo, hd.hi, hd.lu, hd.br, hd.pl, hd.no, hd.ps, hd.ec, hd.co, hd.ga, hd.cl, hd.th, hd.be, rfl, fun i hi => by rw [aU_s] at hi; omega, fun i hi => by rw [aU_s] at hi; omega⟩
  · exact ⟨hw.pl, hw.br, hw.lu, hw.lo, hw.hi, hw.to, hw.sg, hw.ps, hw.ec, hw.th, hw.ga, hw.cl, hw.be, Nat.zero_le _, fun i hi => by rw [aU_s] at hi; omega, fun i hi => by rw [aU_s] at hi; omega, hw.sn.2⟩
