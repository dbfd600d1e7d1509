theorem nrng (x : Int32) (h1 : ¬ x < -1) (h2 : x < 24) : ∃ t, t ≤ 24 ∧ x = nI t - 1 := by
  have hm : (-1 : Int32).toInt = -1 := by decide
  have h24 : (24 : Int32).toInt = 24 := by decide
  rw [Int32.lt_iff_toInt_lt, hm] at h1
  rw [Int32.lt_iff_toInt_lt, h24] at h2
  refine ⟨(x.toInt + 1).toNat, by omega, ?_⟩
  have e : ∀ t, t < 25 → (nI t - 1).toInt = (t : Int) - 1 := by decide
  apply Int32.toInt_inj.mp
  rw [e _ (by omega)]
  omega
theorem le23 (x : Int32) : (-1 ≤ x ∧ x ≤ 23) ↔ (¬ x < -1 ∧ x < 24) := by
  rw [Int32.le_iff_toInt_le, Int32.le_iff_toInt_le, Int32.lt_iff_toInt_lt, Int32.lt_iff_toInt_lt]
  have hm : (-1 : Int32).toInt = -1 := by decide
  have h23 : (23 : Int32).toInt = 23 := by decide
  have h24 : (24 : Int32).toInt = 24 := by decide
  omega
theorem t_heard : qT_heard qR := by
  intro M1 M2 hR x1 x2
  have hR0 := hR
  obtain ⟨⟨A, hc, hd, hw⟩, -, -, -⟩ := hR
  unfold kX7_heard kX8_heard
  rcases gal x1 with ⟨e1, e2⟩ | ⟨g, hg, rfl, e1, e2⟩
  · rw [e1, e2, qb1_some, qb1_some, if00, if00, qOk2_some, qOk2_some]
    exact ⟨rfl, hR0⟩
  · rw [e1, e2, qb1_some, qb1_some, if10, if10, X8_in_eq, qb1_some]
    by_cases c1 : x2 < -1
    · rw [if_pos c1, if_neg (fun z => ((le23 x2).mp z).1 c1), if00, qOk2_some, qOk2_some]
      exact ⟨rfl, hR0⟩
    · rw [if_neg c1]
      by_cases c2 : x2 < 24
      · rw [if_pos c2, if_pos ((le23 x2).mpr ⟨c1, c2⟩), if10, hc.si, hd.si]
        obtain ⟨t, ht, rfl⟩ := nrng x2 c1 c2
        have ps := hw.si
        generalize hs : A 11 4 = s at *
        by_cases f : s < 8
        · have m1 : (2 : Int32) * nI s = nI (2 * s) := pk_mul 2 s
          rw [if_pos (show nI s < (8 : Int32) from nI_lt f (by decide)), if_neg (show ¬ nI s = (8 : Int32) from fun z => by have := (nI_inj (b := 8) (by omega) (by omega)).mp z; omega), qwr_k f (by omega), m1, qwr_k (show 2 * s < 16 by omega) (by omega)]
          have z1 : qst M1 (1 + 10) s (nI g) 1 7 = nI s := hc.si.trans (by rw [hs])
          have z2 : qst M2 8 (2 * s) (nI g) 0 9 = nI s := hd.si.trans (by rw [hs])
          rw [z1, z2, m1, nI_1, qwr_k f (by omega), qwr_k (show 2 * s + 1 < 16 by omega) (by omega), qvl_eq, qvl_eq, qOk2_some, qOk2_some]
          have y1 : qst (qst (qst M1 (1 + 10) s (nI g)) (1 + 11) s (nI t - 1)) 1 7 (qst (qst M1 (1 + 10) s (nI g)) (1 + 11) s (nI t - 1) 1 7 + 1) 1 7 = nI (s + 1) := by
            show M1 1 7 + 1 = _
            rw [hc.si, hs, nI_1]
          have y2 : qst (qst (qst M2 8 (2 * s) (nI g)) 8 (2 * s + 1) (nI t - 1)) 0 9 (qst (qst M2 8 (2 * s) (nI g)) 8 (2 * s + 1) (nI t - 1) 0 9 + 1) 0 9 = nI (s + 1) := by
            show M2 0 9 + 1 = _
            rw [hd.si, hs, nI_1]
          refine ⟨by rw [y1, y2], hR0.main (fun k k1 k2 => by rw [qst_n (by omega), qst_n (by omega), qst_n (by omega)]) rfl rfl rfl rfl rfl rfl (A := aU (aU (aU A 8 s g) 9 s t) 11 4 (s + 1)) ?_ ?_ ?_⟩
          · refine ⟨hc.lo, hc.hi, hc.lu, hc.br, hc.pl, hc.no, hc.ps, hc.ec, hc.co, hc.ga, hc.cl, hc.th, hc.be, y1, fun i hi => ?_, fun i hi => ?_⟩
            · have hi : i < s + 1 := hi
              show upd (M1 11) s (nI g) i = nI (if i = s then g else A 8 i)
              by_cases e : i = s
              · subst e; rw [upd_s, if_pos rfl]
              · rw [upd_n e, if_neg e]; exact hc.sp i (by omega)
            · have hi : i < s + 1 := hi
              show upd (M1 12) s (nI t - 1) i = nI (if i = s then t else A 9 i) - 1
              by_cases e : i = s
              · subst e; rw [upd_s, if_pos rfl]
              · rw [upd_n e, if_neg e]; exact hc.sn i (by omega)
          · refine ⟨hd.lo, hd.hi, hd.lu, hd.br, hd.pl, hd.no, hd.ps, hd.ec, hd.co, hd.ga, hd.cl, hd.th, hd.be, y2, fun i hi => ?_, fun i hi => ?_⟩
            · have hi : i < s + 1 := hi
              show upd (upd (M2 8) (2 * s) (nI g)) (2 * s + 1) (nI t - 1) (2 * i) = nI (if i = s then g else A 8 i)
              rw [upd_n (by omega)]
              by_cases e : i = s
              · subst e; rw [upd_s, if_pos rfl]
              · rw [upd_n (by omega), if_neg e]; exact hd.sp i (by omega)
            · have hi : i < s + 1 := hi
              show upd (upd (M2 8) (2 * s) (nI g)) (2 * s + 1) (nI t - 1) (2 * i + 1) = nI (if i = s then t else A 9 i) - 1
              by_cases e : i = s
              · subst e; rw [upd_s, if_pos rfl]
              · rw [upd_n (by omega), upd_n (by omega), if_neg e]; exact hd.sn i (by omega)
          · refine ⟨hw.pl, hw.br, hw.lu, hw.lo, hw.hi, hw.to, hw.sg, hw.ps, hw.ec, hw.th, hw.ga, hw.cl, hw.be, by show s + 1 ≤ 8; omega, fun i hi => ?_, fun i hi => ?_, hw.sn.2⟩
            · have hi : i < s + 1 := hi
              show (if i = s then g else A 8 i) < 10
              by_cases e : i = s
              · rw [if_pos e]; exact hg
              · rw [if_neg e]; exact hw.sp i (by omega)
            · have hi : i < s + 1 := hi
              show (if i = s then t else A 9 i) ≤ 24
              by_cases e : i = s
              · rw [if_pos e]; exact ht
              · rw [if_neg e]; exact hw.sn.1 i (by omega)
        · have e : s = 8 := by omega
          subst e
          rw [if_neg (show ¬ nI 8 < (8 : Int32) from by decide), if_pos (show nI 8 = (8 : Int32) from rfl), qOk2_some, qOk2_some]
          exact ⟨rfl, hR0⟩
      · rw [if_neg c2, if_neg (fun z => c2 ((le23 x2).mp z).2), if00, qOk2_some, qOk2_some]
        exact ⟨rfl, hR0⟩
def sSum (f : Nat → Nat) : Nat → Nat
  | 0 => 0
  | n + 1 => sSum f n + f n
theorem sSum_s {f : Nat → Nat} {n : Nat} : sSum f (n + 1) = sSum f n + f n := rfl
theorem sSum_le {f : Nat → Nat} {c : Nat} (h : ∀ k, f k ≤ c) : ∀ n, sSum f n ≤ n * c := by
  intro n
  induction n with
  | zero => exact Nat.zero_le _
  | succ n ih => rw [sSum_s, Nat.succ_mul]; have := h n; omega
theorem X1_passageCount_eq {b : Nat} {M : qM} {P : Nat → Nat} (h : ∀ g, g < 10 → M (b + 1) g = nI (P g)) (hP : ∀ g, g < 10 → P g < 1024) : kX1_passageCount b M = some (nI (sSum (fun g => bc (P g)) 10 / 2)) := by
  refine qOk_eq ?_
  unfold kX1_passageCount
  rw [qOk_b1]
  refine qlp_for (fun k s => s = (nI (sSum (fun g => bc (P g)) k), nI k)) 10 (by omega) rfl ?_ ?_
  · rintro k s hk rfl
    show qOk (kX1_passageCount_L4 M b (nI (sSum (fun g => bc (P g)) k)) (nI k)) _
    unfold kX1_passageCount_L4
    rw [if_neg (show ¬ (10 : Int32) ≤ nI k from nI_ge hk (by decide)), qrd_k hk (by omega), h k hk, J6_bits_eq (hP k hk), qb1_some, qvl_eq, qvl_eq, qOk_some]
    show (nI _ + nI _, nI k + 1) = _
    rw [nI_add, nI_1, sSum_s]
  · rintro s rfl
    show qOk (kX1_passageCount_L4 M b (nI (sSum (fun g => bc (P g)) 10)) (nI 10)) _
    unfold kX1_passageCount_L4
    rw [if_pos (show (10 : Int32) ≤ nI 10 from Int32.le_refl _), qOk_some]
    show qOk (some _) _
    have := sSum_le (f := fun g => bc (P g)) (c := 10) (fun k => bc_le _) 10
    rw [qOk_some, half_nI (by omega)]
theorem X8_passage_loop {M : qM} {P : Nat → Nat} (h : ∀ g, g < 10 → M 6 g = nI (P g)) (hP : ∀ g, g < 10 → P g < 1024) : qOk (qlp (S := Int32 × Int32) (E := (Int32)) (fun s => kX8_passage_L95 M s.1 s.2) qFu (0, 0)) (fun r => r = nI (sSum (fun g => bc (P g)) 10)) := by
  refine qlp_for (fun k s => s = (nI (sSum (fun g => bc (P g)) k), nI k)) 10 (by omega) rfl ?_ ?_
  · rintro k s hk rfl
    show qOk (kX8_passage_L95 M (nI (sSum (fun g => bc (P g)) k)) (nI k)) _
    unfold kX8_passage_L95
    rw [if_neg (show ¬ (10 : Int32) ≤ nI k from nI_ge hk (by decide)), qrd_k hk (by omega), h k hk, X8_bits_eq (hP k hk), qb1_some, qvl_eq, qvl_eq, qOk_some]
    show (nI _ + nI _, nI k + 1) = _
    rw [nI_add, nI_1, sSum_s]
  · rintro s rfl
    show qOk (kX8_passage_L95 M (nI (sSum (fun g => bc (P g)) 10)) (nI 10)) _
    unfold kX8_passage_L95
    rw [if_pos (show (10 : Int32) ≤ nI 10 from Int32.le_refl _), qOk_some]
    rfl
theorem clr_J (G g : Nat) : nI G &&& (nI (2 ^ g) ^^^ (-1)) = nI (clr G g) := by
  rw [show (-1 : Int32) = nI 4294967295 from by decide, fa_xor, fa_and]
  rfl
theorem clr_bit {G g w : Nat} (hw : w < 10) : (clr G g).testBit w = if w = g then false else G.testBit w := by
  unfold clr
  rw [Nat.testBit_and, Nat.testBit_xor, Nat.testBit_two_pow, (show ∀ w, w < 10 → (4294967295 : Nat).testBit w = true from by decide) w hw]
  by_cases e : w = g
  · rw [if_pos e, decide_eq_true e.symm]
    cases G.testBit w <;> rfl
  · rw [if_neg e, decide_eq_false (fun z => e z.symm)]
    cases G.testBit w <;> rfl
theorem set_bit {G g w : Nat} : (G ||| 2 ^ g).testBit w = if w = g then true else G.testBit w := by
  rw [set_tb]
  by_cases e : w = g
  · rw [if_pos e, decide_eq_true e.symm, Bool.or_true]
  · rw [if_neg e, decide_eq_false (fun z => e z.symm), Bool.or_false]
theorem sy_set {F : Nat → Nat} (hs : ∀ g, g < 10 → ∀ h, h < 10 → (F g).testBit h = (F h).testBit g) {a b P Q : Nat} {t : Bool} (hP : ∀ w, w < 10 → P.testBit w = if w = b then t else (F a).testBit w) (hQ : ∀ w, w < 10 → Q.testBit w = if w = a then t else (F b).testBit w) : ∀ g, g < 10 → ∀ h, h < 10 → (if g = b then Q else if g = a then P else F g).testBit h = (if h = b then Q else if h = a then P else F h).testBit g := by
  intro g hg h hh
  by_cases g1 : g = b
  · rw [if_pos g1, hQ h hh]
    by_cases h1 : h = b
    · rw [if_pos h1, hQ g hg, h1, g1]
    · rw [if_neg h1]
      by_cases h2 : h = a
      · rw [if_pos h2, if_pos h2, hP g hg, if_pos g1]
      · rw [if_neg h2, if_neg h2, ← g1]
        exact hs g hg h hh
  · rw [if_neg g1]
    by_cases g2 : g = a
    · rw [if_pos g2, hP h hh]
      by_cases h1 : h = b
      · rw [if_pos h1, if_pos h1, hQ g hg, if_pos g2]
      · rw [if_neg h1, if_neg h1]
        by_cases h2 : h = a
        · rw [if_pos h2, hP g hg, if_neg g1, h2, g2]
        · rw [if_neg h2, ← g2]
          exact hs g hg h hh
    · rw [if_neg g2]
      by_cases h1 : h = b
      · rw [if_pos h1, hQ g hg, if_neg g2, ← h1]
        exact hs g hg h hh
      · rw [if_neg h1]
        by_cases h2 : h = a
        · rw [if_pos h2, hP g hg, if_neg g1, ← h2]
          exact hs g hg h hh
        · rw [if_neg h2]
          exact hs g hg h hh
theorem t_passage : qT_passage qR := by
  intro M1 M2 hR x1 x2 x3
  have hR0 := hR
  obtain ⟨⟨A, hc, hd, hw⟩, -, -, -⟩ := hR
  unfold kX7_passage kX8_passage
  rcases gal x1 with ⟨e1, e2⟩ | ⟨a, ha, rfl, e1, e2⟩
  · rw [e1, e2, qb1_some, qb1_some, if00, if00, qOk2_some, qOk2_some]
    exact ⟨rfl, hR0⟩
  · rw [e1, e2, qb1_some, qb1_some, if10, if10]
    rcases gal x2 with ⟨e1, e2⟩ | ⟨b, hb, rfl, e1, e2⟩
    · rw [e1, e2, qb1_some, qb1_some, if00, if00, qOk2_some, qOk2_some]
      exact ⟨rfl, hR0⟩
    · rw [e1, e2, qb1_some, qb1_some, if10, if10]
      by_cases ne : a = b
      · rw [if_pos (show nI a = nI b by rw [ne]), if_pos (show nI a = nI b by rw [ne]), qOk2_some, qOk2_some]
        exact ⟨rfl, hR0⟩
      · have nn : ¬ nI a = nI b := fun y => ne ((nI_inj (by omega) (by omega)).mp y)
        rw [if_neg nn, if_neg nn]
        have pa := hw.ps a ha
        have pb := hw.ps b hb
        obtain ⟨a1, a2, a3⟩ := clr_tab b hb (A 6 a) pa
        obtain ⟨b1, b2, b3⟩ := clr_tab a ha (A 6 b) pb
        have key : ∀ (P Q : Nat), P < 1024 → Q < 1024 → (∀ g, g < 10 → ∀ h, h < 10 → (if g = b then Q else if g = a then P else A 6 g).testBit h = (if h = b then Q else if h = a then P else A 6 h).testBit g) → (∀ y : Int32, y = nI P → ∀ z : Int32, z = nI Q → qOk2 (qb1 (kX1_passageCount 1 (qst (qst M1 (1 + 1) a (nI P)) (1 + 1) b (nI Q))) (fun v4 => some (v4, qst (qst M1 (1 + 1) a (nI P)) (1 + 1) b (nI Q)))) (fun r1 N1 => qOk2 (qb1 (qlp (S := Int32 × Int32) (E := (Int32)) (fun s => kX8_passage_L95 (qst (qst (qst (qst M2 6 a (nI (clr (A 6 a) b))) 6 b (nI (clr (A 6 b) a))) 6 a y) 6 b z) s.1 s.2) qFu (0, 0)) (fun v15 => some ((v15 / 2), qst (qst (qst (qst M2 6 a (nI (clr (A 6 a) b))) 6 b (nI (clr (A 6 b) a))) 6 a y) 6 b z))) (fun r2 N2 => r2 = r1 ∧ qR N1 N2))) := by
          intro P Q hP hQ hsy y hy z hz
          subst hy hz
          have C := (hc.set_ps a P).set_ps b Q
          have D1 := (((hd.set_ps a (clr (A 6 a) b)).set_ps b (clr (A 6 b) a)).set_ps a P).set_ps b Q
          have eA : aU (aU (aU (aU A 6 a (clr (A 6 a) b)) 6 b (clr (A 6 b) a)) 6 a P) 6 b Q = aU (aU A 6 a P) 6 b Q := by
            funext i j
            by_cases hi : i = 6
            · subst hi
              unfold aU
              simp only [if_true]
              by_cases h1 : j = b
              · simp [h1]
              · by_cases h2 : j = a
                · simp [h1, h2]
                · simp [h1, h2]
            · rw [aU_o hi, aU_o hi, aU_o hi, aU_o hi, aU_o hi, aU_o hi]
          rw [eA] at D1
          have hP10 : ∀ g, g < 10 → aU (aU A 6 a P) 6 b Q 6 g < 1024 := by
            intro g hg
            show (if g = b then Q else if g = a then P else A 6 g) < 1024
            have := hw.ps g hg
            split
            · exact hQ
            · split
              · exact hP
              · exact this
          rw [X1_passageCount_eq C.ps hP10, qb1_some, qOk2_some, qOk2_b1]
          refine qOk.m (X8_passage_loop (M := qst (qst (qst (qst M2 6 a (nI (clr (A 6 a) b))) 6 b (nI (clr (A 6 b) a))) 6 a (nI P)) 6 b (nI Q)) D1.ps hP10) (fun r hr => ?_)
          subst hr
          have := sSum_le (f := fun g => bc (aU (aU A 6 a P) 6 b Q 6 g)) (c := 10) (fun k => bc_le _) 10
          rw [qOk2_some, half_nI (by omega)]
          refine ⟨rfl, hR0.main (fun k k1 k2 => by rw [qst_n (by omega), qst_n (by omega)]) rfl rfl rfl rfl rfl rfl C D1 ⟨hw.pl, hw.br, hw.lu, hw.lo, hw.hi, hw.to, hw.sg, hP10, hw.ec, hw.th, hw.ga, hw.cl, hw.be, hw.si, hw.sp, hw.sn.1, hsy⟩⟩
        unfold kX1_setPassage
        have ra : ∀ (c : Nat) (M : qM) (y : Int32), qst M c a y c b = M c b := fun c M y => by rw [qst_at, if_neg (fun z => ne z.symm)]
        have rb : ∀ (c : Nat) (M : qM) (y : Int32), qst M c b y c a = M c a := fun c M y => by rw [qst_at, if_neg ne]
        have rs : ∀ (c k : Nat) (M : qM) (y : Int32), qst M c k y c k = y := fun c k M y => by rw [qst_at, if_pos rfl]
        simp only [qrd_k ha (show 10 < 2147483648 by omega), qrd_k hb (show 10 < 2147483648 by omega), qwr_k ha (show 10 < 2147483648 by omega), qwr_k hb (show 10 < 2147483648 by omega), ra, rb, rs, hc.ps a ha, hc.ps b hb, hd.ps a ha, hd.ps b hb, shl1 (show a < 31 by omega), shl1 (show b < 31 by omega), clr_J]
        by_cases x : x3 = 0
        · simp only [x, if_true, if00, qb1_some]
          exact key (clr (A 6 a) b) (clr (A 6 b) a) a3 b3 (sy_set hw.sn.2 (t := false) (fun w h => clr_bit h) (fun w h => clr_bit h)) _ (by rw [show (0 : Int32) = nI 0 from rfl, fa_or, Nat.or_zero]) _ (by rw [show (0 : Int32) = nI 0 from rfl, fa_or, Nat.or_zero])
        · simp only [x, if_false, if10, qb1_some]
          rw [fa_or (A 6 a), fa_or (A 6 b)]
          exact key (A 6 a ||| 2 ^ b) (A 6 b ||| 2 ^ a) a2 b2 (sy_set hw.sn.2 (t := true) (fun w _ => set_bit) (fun w _ => set_bit)) _ (by rw [fa_or, a1]) _ (by rw [fa_or, b1])
