/-! FEWEST and ROUND -/
theorem rg (x : Int32) (a b : Nat) (ha : a ≤ b) (hb : b < 2147483648) : (x < nI a ∧ kX8_in x (nI a) (nI b) = some 0) ∨ (¬ x < nI a ∧ nI b < x ∧ ¬ x ≤ nI b ∧ kX8_in x (nI a) (nI b) = some 0) ∨ ∃ q, a ≤ q ∧ q ≤ b ∧ x = nI q ∧ ¬ x < nI a ∧ ¬ nI b < x ∧ x ≤ nI b ∧ kX8_in x (nI a) (nI b) = some 1 := by
  rw [X8_in_eq]
  by_cases c1 : x < nI a
  · exact Or.inl ⟨c1, by rw [if_neg (fun z => Int32.not_lt.mpr z.1 c1)]⟩
  · by_cases c2 : x ≤ nI b
    · obtain ⟨q, q1, q2, e⟩ := rng x a b hb c1 c2 (by omega)
      exact Or.inr (Or.inr ⟨q, q1, q2, e, c1, Int32.not_lt.mpr c2, c2, by rw [if_pos ⟨Int32.not_lt.mp c1, c2⟩]⟩)
    · exact Or.inr (Or.inl ⟨c1, Int32.not_le.mp c2, c2, by rw [if_neg (fun z => c2 z.2)]⟩)
theorem andnot {a r : Nat} (ha : a < 1024) : nI a &&& (nI r ^^^ (-1)) = nI (a &&& (r ^^^ 1023)) := by
  apply Int32.toBitVec_inj.1
  show BitVec.ofNat 32 a &&& (BitVec.ofNat 32 r ^^^ (-1 : BitVec 32)) = BitVec.ofNat 32 (a &&& (r ^^^ 1023))
  apply BitVec.eq_of_getLsbD_eq
  intro i hi
  rw [show (-1 : BitVec 32) = BitVec.allOnes 32 from by decide]
  simp only [BitVec.getLsbD_and, BitVec.getLsbD_xor, BitVec.getLsbD_ofNat, BitVec.getLsbD_allOnes, hi, decide_true, Bool.true_and, Nat.testBit_and, Nat.testBit_xor]
  by_cases h : i < 10
  · rw [show (1023 : Nat).testBit i = true from by rw [show 1023 = 2 ^ 10 - 1 from rfl, Nat.testBit_two_pow_sub_one]; simp [h]]
  · rw [Nat.testBit_lt_two_pow (Nat.lt_of_lt_of_le ha (Nat.pow_le_pow_right (n := 2) (by omega) (show 10 ≤ i by omega)))]
    simp
theorem sub_and {a r : Nat} (ha : a < 1024) : a &&& (r ^^^ 1023) = 0 ↔ ∀ i, a.testBit i = true → r.testBit i = true := by
  constructor
  · intro h i hi
    have hb : (a &&& (r ^^^ 1023)).testBit i = false := by rw [h]; simp
    have i10 : i < 10 := by
      rcases Nat.lt_or_ge i 10 with h | h
      · exact h
      · rw [Nat.testBit_lt_two_pow (Nat.lt_of_lt_of_le ha (Nat.pow_le_pow_right (n := 2) (by omega) h))] at hi
        cases hi
    rw [Nat.testBit_and, Nat.testBit_xor, hi, show (1023 : Nat).testBit i = true from by rw [show 1023 = 2 ^ 10 - 1 from rfl, Nat.testBit_two_pow_sub_one]; simp [i10]] at hb
    simpa using hb
  · intro h
    apply Nat.eq_of_testBit_eq
    intro i
    rw [Nat.zero_testBit, Nat.testBit_and, Nat.testBit_xor]
    cases e : a.testBit i
    · rfl
    · have i10 : i < 10 := by
        rcases Nat.lt_or_ge i 10 with h | h
        · exact h
        · rw [Nat.testBit_lt_two_pow (Nat.lt_of_lt_of_le ha (Nat.pow_le_pow_right (n := 2) (by omega) h))] at e
          cases e
      rw [h i e, show (1023 : Nat).testBit i = true from by rw [show 1023 = 2 ^ 10 - 1 from rfl, Nat.testBit_two_pow_sub_one]; simp [i10]]
      rfl
theorem or_lt10 {a b : Nat} (ha : a < 1024) (hb : b < 1024) : a ||| b < 1024 := Nat.or_lt_two_pow (n := 10) ha hb
theorem pw10 {i : Nat} (h : i < 10) : 2 ^ i < 1024 := Nat.pow_lt_pow_right (a := 2) (by omega) (show i < 10 from h)
/-- the galleries lit by the galleries m, of the first k -/
def sEc (E : Nat → Nat) (m : Nat) : Nat → Nat
  | 0 => m
  | k + 1 => if m.testBit k = true then sEc E m k ||| 2 ^ E k else sEc E m k
theorem sEc_lt {E : Nat → Nat} {m : Nat} (hm : m < 1024) (hE : ∀ g, g < 10 → E g < 10) : ∀ k, k ≤ 10 → sEc E m k < 1024
  | 0, _ => hm
  | k + 1, h => by
    unfold sEc
    split
    · exact or_lt10 (sEc_lt hm hE k (by omega)) (pw10 (hE k (by omega)))
    · exact sEc_lt hm hE k (by omega)
theorem sEc_in {E : Nat → Nat} {m : Nat} {i : Nat} (hi : m.testBit i = true) : ∀ k, (sEc E m k).testBit i = true
  | 0 => hi
  | k + 1 => by
    unfold sEc
    split
    · rw [Nat.testBit_or, sEc_in hi k]
      rfl
    · exact sEc_in hi k
theorem X7_echo_loop {M : qM} {A : qN} (h : qC 1 M A) (hw : qW A) {m : Nat} (hm : m < 1024) : qOk (qlp (S := Int32 × Int32) (E := (Int32)) (fun s => kX7_isBetter_L34 (nI m) M s.1 s.2) qFu (nI m, 0)) (fun r => r = nI (sEc (A 7) m 10)) := by
  refine qlp_for (fun k s => s = (nI (sEc (A 7) m k), nI k)) 10 (by omega) rfl ?_ ?_
  · rintro k s hk rfl
    show qOk (kX7_isBetter_L34 (nI m) M (nI (sEc (A 7) m k)) (nI k)) _
    unfold kX7_isBetter_L34
    rw [if_neg (show ¬ (10 : Int32) ≤ nI k from nI_ge hk (by decide)), X7_has_eq (by omega) (by omega), qb1_some]
    have hE := hw.ec k hk
    by_cases e : m.testBit k = true
    · rw [if_pos e, if10, qrd_k hk (by omega), h.ec k hk, shl1 (by omega), qvl_eq, qb1_some, fa_or, qvl_eq, qOk_some, nI_succ]
      show _ = _
      rw [show sEc (A 7) m (k + 1) = sEc (A 7) m k ||| 2 ^ A 7 k from by conv => lhs; unfold sEc; rw [if_pos e]]
    · rw [if_neg e, if00, qb1_some, qvl_eq, qOk_some, nI_succ]
      show _ = _
      rw [show sEc (A 7) m (k + 1) = sEc (A 7) m k from by conv => lhs; unfold sEc; rw [if_neg e]]
  · rintro s rfl
    show qOk (kX7_isBetter_L34 (nI m) M (nI (sEc (A 7) m 10)) (nI 10)) _
    unfold kX7_isBetter_L34
    rw [if_pos (show (10 : Int32) ≤ nI 10 from by decide), qOk_some]
    rfl
theorem X8_echo_loop {M : qM} {A : qN} (h : qDm M A) (hw : qW A) {m : Nat} (hm : m < 1024) : qOk (qlp (S := Int32 × Int32) (E := (Int32)) (fun s => kX8_fewest_L45 (nI m) M s.1 s.2) qFu (nI m, 0)) (fun r => r = nI (sEc (A 7) m 10)) := by
  refine qlp_for (fun k s => s = (nI (sEc (A 7) m k), nI k)) 10 (by omega) rfl ?_ ?_
  · rintro k s hk rfl
    show qOk (kX8_fewest_L45 (nI m) M (nI (sEc (A 7) m k)) (nI k)) _
    unfold kX8_fewest_L45
    rw [if_neg (show ¬ (10 : Int32) ≤ nI k from nI_ge hk (by decide)), X8_has_eq (by omega) (by omega), qb1_some]
    have hE := hw.ec k hk
    by_cases e : m.testBit k = true
    · rw [if_pos e, if10, qrd_k hk (by omega), h.ec k hk, shl1 (by omega), qb1_some, fa_or, qvl_eq, qvl_eq, qOk_some, nI_succ]
      show _ = _
      rw [show sEc (A 7) m (k + 1) = sEc (A 7) m k ||| 2 ^ A 7 k from by conv => lhs; unfold sEc; rw [if_pos e]]
    · rw [if_neg e, if00, qb1_some, qvl_eq, qvl_eq, qOk_some, nI_succ, show (0 : Int32) = nI 0 from rfl, fa_or, Nat.or_zero]
      show _ = _
      rw [show sEc (A 7) m (k + 1) = sEc (A 7) m k from by conv => lhs; unfold sEc; rw [if_neg e]]
  · rintro s rfl
    show qOk (kX8_fewest_L45 (nI m) M (nI (sEc (A 7) m 10)) (nI 10)) _
    unfold kX8_fewest_L45
    rw [if_pos (show (10 : Int32) ≤ nI 10 from by decide), qOk_some]
    rfl
/-- m lights all of x -/
abbrev sCv (A : qN) (x m : Nat) : Prop := x &&& (sEc (A 7) m 10 ^^^ 1023) = 0
theorem sCv_in {A : qN} {x m : Nat} (hx : x < 1024) (h : ∀ i, x.testBit i = true → m.testBit i = true) : sCv A x m := (sub_and hx).mpr (fun i hi => sEc_in (h i hi) 10)
theorem cv_if {x m : Nat} {A : qN} (hx : x < 1024) (hm : m < 1024) (hw : qW A) {α : Type} {a b : α} : (if nI x &&& (nI (sEc (A 7) m 10) ^^^ (-1)) = 0 then a else b) = if sCv A x m then a else b := by
  have e : (nI x &&& (nI (sEc (A 7) m 10) ^^^ (-1)) = 0) ↔ sCv A x m := by
    rw [andnot hx, show (0 : Int32) = nI 0 from rfl, nI_inj (Nat.lt_of_le_of_lt Nat.and_le_left (by omega)) (by omega)]
  by_cases c : sCv A x m
  · rw [if_pos c, if_pos (e.mpr c)]
  · rw [if_neg c, if_neg (fun z => c (e.mp z))]
/-- m goes before b -/
abbrev sBt (m b : Nat) : Prop := bc m < bc b ∨ (bc m = bc b ∧ m < b)
theorem X7_isBetter_eq {M : qM} {A : qN} (h : qC 1 M A) (hw : qW A) {m b x : Nat} (hm : m < 1024) (hb : b < 1024) (hx : x < 1024) : kX7_isBetter M (nI m) (nI b) (nI x) = some (if sBt m b ∧ sCv A x m then 1 else 0) := by
  apply qOk_eq
  unfold kX7_isBetter
  rw [J6_bits_eq hm, qb1_some, J6_bits_eq hb, qb1_some, qvl_eq]
  have l1 := bc_le m
  have l2 := bc_le b
  have e1 : (0 < nI (bc m) - nI (bc b)) ↔ bc b < bc m := by
    rw [Int32.lt_iff_toInt_lt, pk_sub_toInt (by omega) (by omega)]
    have hz : (0 : Int32).toInt = 0 := by decide
    omega
  have e2 : (nI (bc m) - nI (bc b) = 0) ↔ bc m = bc b := by
    rw [← Int32.toInt_inj, pk_sub_toInt (by omega) (by omega)]
    have hz : (0 : Int32).toInt = 0 := by decide
    omega
  have fin : sBt m b → qOk (qb1 (qlp (S := Int32 × Int32) (E := (Int32)) (fun s => kX7_isBetter_L34 (nI m) M s.1 s.2) qFu (nI m, 0)) (fun v6 => qb1 (α := Int32) (if (nI x &&& (v6 ^^^ (-1))) = 0 then (some 1) else (some 0)) (fun v12 => qbl v12 (some v12)))) (fun r => r = if sBt m b ∧ sCv A x m then 1 else 0) := fun hs => by
    rw [qOk_b1]
    refine qOk.m (X7_echo_loop h hw hm) (fun r hr => ?_)
    rw [hr, cv_if hx hm hw]
    by_cases c : sCv A x m
    · rw [if_pos c, qb1_some, qbl_1, qOk_some, if_pos ⟨hs, c⟩]
    · rw [if_neg c, qb1_some, qbl_0, qOk_some, if_neg (fun z => c z.2)]
  by_cases c1 : bc b < bc m
  · rw [if_pos (e1.mpr c1), qOk_some, if_neg (fun z => by have := z.1; unfold sBt at this; omega)]
  · rw [if_neg (fun z => c1 (e1.mp z))]
    by_cases c2 : bc m = bc b
    · rw [if_pos (e2.mpr c2)]
      by_cases c3 : m < b
      · rw [if_pos (nI_lt c3 (by omega))]
        exact fin (Or.inr ⟨c2, c3⟩)
      · rw [if_neg (nI_nlt (by omega) (by omega)), qOk_some, if_neg (fun z => by have := z.1; unfold sBt at this; omega)]
    · rw [if_neg (fun z => c2 (e2.mp z))]
      exact fin (Or.inl (by omega))
def sLx (A : qN) (x b : Nat) : Prop := b < 1024 ∧ sCv A x b ∧ ∀ m, m < 1024 → sCv A x m → ¬ sBt m b
theorem X7_fewest_loop {M : qM} {A : qN} (h : qC 1 M A) (hw : qW A) {x : Nat} (hx : x < 1024) : qOk (qlp (S := Int32 × Int32) (E := (Int32)) (fun s => kX7_fewest_L28 M (nI x) s.1 s.2) qFu (nI x, 0)) (fun r => ∃ b, r = nI b ∧ sLx A x b) := by
  refine qlp_for (fun k s => ∃ b, s = (nI b, nI k) ∧ b < 1024 ∧ sCv A x b ∧ ∀ m, m < k → sCv A x m → ¬ sBt m b) 1024 (by omega) ⟨x, rfl, hx, sCv_in hx (fun _ z => z), fun _ z => by omega⟩ ?_ ?_
  · rintro k s hk ⟨b, rfl, hb, cb, ob⟩
    show qOk (kX7_fewest_L28 M (nI x) (nI b) (nI k)) _
    unfold kX7_fewest_L28
    rw [if_neg (show ¬ (1023 : Int32) < nI k from nI_nlt (a := 1023) (by omega) (by decide)), X7_isBetter_eq h hw hk hb hx, qb1_some]
    by_cases c : sBt k b ∧ sCv A x k
    · rw [if_pos c, if10, qb1_some, qvl_eq, qOk_some, nI_succ]
      refine ⟨k, rfl, hk, c.2, fun m hm cm z => ?_⟩
      by_cases e : m = k
      · subst e
        unfold sBt at z
        omega
      · refine ob m (by omega) cm ?_
        have c1 := c.1
        unfold sBt at *
        omega
    · rw [if_neg c, if00, qb1_some, qvl_eq, qOk_some, nI_succ]
      refine ⟨b, rfl, hb, cb, fun m hm cm z => ?_⟩
      by_cases e : m = k
      · subst e
        exact c ⟨z, cm⟩
      · exact ob m (by omega) cm z
  · rintro s ⟨b, rfl, hb, cb, ob⟩
    show qOk (kX7_fewest_L28 M (nI x) (nI b) (nI 1024)) _
    unfold kX7_fewest_L28
    rw [if_pos (show (1023 : Int32) < nI 1024 from by decide), qOk_some]
    exact ⟨b, rfl, hb, cb, ob⟩
set_option maxRecDepth 100000 in
theorem bc_top : ∀ m, m < 1023 → bc m < 10 := by decide +kernel
theorem in1023 {x : Nat} (hx : x < 1024) (i : Nat) (h : x.testBit i = true) : (1023 : Nat).testBit i = true := by
  rw [show 1023 = 2 ^ 10 - 1 from rfl, Nat.testBit_two_pow_sub_one]
  rcases Nat.lt_or_ge i 10 with h1 | h1
  · simp [h1]
  · rw [Nat.testBit_lt_two_pow (Nat.lt_of_lt_of_le hx (Nat.pow_le_pow_right (n := 2) (by omega) h1))] at h
    cases h
theorem X8_fewest_loop {M : qM} {A : qN} (h : qDm M A) (hw : qW A) {x : Nat} (hx : x < 1024) : qOk (qlp (S := Int32 × Int32) (E := (Int32)) (fun s => kX8_fewest_L30 M (nI x) s.1 s.2) qFu (1023, 0)) (fun r => ∃ b, r = nI b ∧ sLx A x b) := by
  refine qlp_for (fun k s => ∃ b, s = (nI b, nI k) ∧ b < 1024 ∧ sCv A x b ∧ (b < k ∨ b = 1023) ∧ ∀ m, m < k → sCv A x m → ¬ sBt m b) 1024 (by omega) ⟨1023, rfl, by omega, sCv_in hx (in1023 hx), Or.inr rfl, fun _ z => by omega⟩ ?_ ?_
  · rintro k s hk ⟨b, rfl, hb, cb, lb, ob⟩
    show qOk (kX8_fewest_L30 M (nI x) (nI b) (nI k)) _
    unfold kX8_fewest_L30
    rw [if_neg (show ¬ (1024 : Int32) ≤ nI k from nI_ge hk (by decide)), qOk_b1]
    refine qOk.m (X8_echo_loop h hw hk) (fun r hr => ?_)
    rw [hr, cv_if hx hk hw]
    have keep : ¬ (bc k < bc b ∧ sCv A x k) → qOk (qb1 (some (nI b)) (fun v14 => qvl (nI k + 1) (fun v17 => some (Sum.inl (β := Int32) (v14, v17))))) (Sum.elim (fun s => ∃ b, s = (nI b, nI (k + 1)) ∧ b < 1024 ∧ sCv A x b ∧ (b < k + 1 ∨ b = 1023) ∧ ∀ m, m < k + 1 → sCv A x m → ¬ sBt m b) (fun r => ∃ b, r = nI b ∧ sLx A x b)) := fun c => by
      rw [qb1_some, qvl_eq, qOk_some, nI_succ]
      refine ⟨b, rfl, hb, cb, by omega, fun m hm cm z => ?_⟩
      by_cases e : m = k
      · subst e
        have t := bc_top m
        have t2 : bc 1023 = 10 := by decide
        have c' : ¬ bc m < bc b := fun y => c ⟨y, cm⟩
        unfold sBt at z
        rcases lb with lb | lb
        · omega
        · rw [lb] at z c'
          omega
      · exact ob m (by omega) cm z
    by_cases c : sCv A x k
    · rw [if_pos c, X8_bits_eq hk, qb1_some, X8_bits_eq hb, qb1_some]
      have l1 := bc_le k
      have l2 := bc_le b
      by_cases d : bc b ≤ bc k
      · rw [if_pos (nI_le d (by omega))]
        exact keep (fun z => by omega)
      · rw [if_neg (nI_ge (by omega) (by omega)), qb1_some, qvl_eq, qOk_some, nI_succ]
        refine ⟨k, rfl, hk, c, by omega, fun m hm cm z => ?_⟩
        by_cases e : m = k
        · subst e
          unfold sBt at z
          omega
        · refine ob m (by omega) cm ?_
          unfold sBt at *
          omega
    · rw [if_neg c]
      exact keep (fun z => c z.2)
  · rintro s ⟨b, rfl, hb, cb, lb, ob⟩
    show qOk (kX8_fewest_L30 M (nI x) (nI b) (nI 1024)) _
    unfold kX8_fewest_L30
    rw [if_pos (show (1024 : Int32) ≤ nI 1024 from by decide), qOk_some]
    exact ⟨b, rfl, hb, cb, ob⟩
theorem t_fewest : qT_fewest qR := by
  intro M1 M2 hR x1 x2
  have hR0 := hR
  obtain ⟨⟨A, hc, hd, hw⟩, -, -, -⟩ := hR
  unfold kX7_fewest kX8_fewest
  rcases rg x1 0 1023 (by omega) (by omega) with ⟨a1, a2⟩ | ⟨a1, a2, -, a3⟩ | ⟨x, -, hx, e, a1, a2, -, a3⟩
  · rw [if_pos (show x1 < 0 from a1), show kX8_in x1 0 1023 = some 0 from a2, qb1_some, if00, qOk_some, qOk_some]
    exact ⟨rfl, hR0⟩
  · rw [if_neg (show ¬ x1 < 0 from a1), if_pos (show 1023 < x1 from a2), show kX8_in x1 0 1023 = some 0 from a3, qb1_some, if00, qOk_some, qOk_some]
    exact ⟨rfl, hR0⟩
  rw [if_neg (show ¬ x1 < 0 from a1), if_neg (show ¬ 1023 < x1 from a2), show kX8_in x1 0 1023 = some 1 from a3, qb1_some, if10]
  clear a1 a2 a3
  subst e
  rcases rg x2 0 1 (by omega) (by omega) with ⟨a1, a2⟩ | ⟨a1, -, a2, a3⟩ | ⟨y, -, hy, e, a1, -, a2, a3⟩
  · rw [if_pos (show x2 < 0 from a1), show kX8_in x2 0 1 = some 0 from a2, qb1_some, if00, qOk_some, qOk_some]
    exact ⟨rfl, hR0⟩
  · rw [if_neg (show ¬ x2 < 0 from a1), if_neg (show ¬ x2 ≤ 1 from a2), show kX8_in x2 0 1 = some 0 from a3, qb1_some, if00, qOk_some, qOk_some]
    exact ⟨rfl, hR0⟩
  rw [if_neg (show ¬ x2 < 0 from a1), if_pos (show x2 ≤ 1 from a2), show kX8_in x2 0 1 = some 1 from a3, qb1_some, if10, qOk_b1]
  clear a1 a2 a3
  subst e
  refine qOk.m (X7_fewest_loop hc hw (by omega)) (fun r hr => ?_)
  obtain ⟨b, rfl, b1, b2, b3⟩ := hr
  have go : ∀ (r1 : Int32) (G : Int32 → Option Int32), G (nI b) = some r1 → qOk (qb1 (qlp (S := Int32 × Int32) (E := (Int32)) (fun s => kX8_fewest_L30 M2 (nI x) s.1 s.2) qFu (1023, 0)) G) (fun r2 => r2 = r1 ∧ qR M1 M2) := fun r1 G hG => by
    rw [qOk_b1]
    refine qOk.m (X8_fewest_loop hd hw (by omega)) (fun r hr => ?_)
    obtain ⟨d, rfl, d1, d2, d3⟩ := hr
    have e : d = b := by
      have u1 := b3 d d1 d2
      have u2 := d3 b b1 b2
      unfold sBt at u1 u2
      omega
    rw [e, hG, qOk_some]
    exact ⟨rfl, hR0⟩
  rcases (show y = 0 ∨ y = 1 by omega) with rfl | rfl
  · rw [if_pos (show nI 0 = (0 : Int32) from rfl), J6_bits_eq b1, qb1_some, qb1_some, qOk_some]
    exact go _ _ (by rw [if_neg (show ¬ nI 0 = (1 : Int32) from by decide), X8_bits_eq b1]; rfl)
  · rw [if_neg (show ¬ nI 1 = (0 : Int32) from by decide), qb1_some, qOk_some]
    exact go _ _ (by rw [if_pos (show nI 1 = (1 : Int32) from rfl)]; rfl)
