/-! FAR, class and reference -/
theorem an_bit {a r g : Nat} (ha : a < 1024) : (a &&& (r ^^^ 1023)).testBit g = true ↔ a.testBit g = true ∧ ¬ r.testBit g = true := by
  rw [Nat.testBit_and, Nat.testBit_xor]
  cases e : a.testBit g
  · simp
  · have g10 : g < 10 := by
      rcases Nat.lt_or_ge g 10 with h | h
      · exact h
      · rw [hi0 ha h] at e
        cases e
    rw [show (1023 : Nat).testBit g = true from by rw [show 1023 = 2 ^ 10 - 1 from rfl, Nat.testBit_two_pow_sub_one]; simp [g10]]
    cases r.testBit g <;> simp
theorem ms_in {b0 k2 : Nat} {N : qM} {P : Nat → Nat} {F k : Nat} (hP : ∀ g, g < 10 → N k2 g = nI (P g)) (hk2 : k2 ≠ b0 + 1) (hF : F < 1024) : qOk (qlp (S := Int32 × Int32 × qM) (E := (Int32 × qM)) (fun s => kX6_measure_L41 (nI F) b0 (nI k) k2 10 s.1 s.2.1 s.2.2) qFu (0, 0, N)) (fun r => r.1 = nI (orL (fun g => if F.testBit g = true then P g else 0) 0 10) ∧ (∀ c, c ≠ b0 + 1 → r.2 c = N c) ∧ ∀ g, g < 10 → r.2 (b0 + 1) g = if F.testBit g = true then nI k else N (b0 + 1) g) := by
  refine qlp_for (fun i s => ∃ O, s = (nI (orL (fun g => if F.testBit g = true then P g else 0) 0 i), nI i, O) ∧ (∀ c, c ≠ b0 + 1 → O c = N c) ∧ ∀ g, g < 10 → O (b0 + 1) g = if F.testBit g = true ∧ g < i then nI k else N (b0 + 1) g) 10 (by omega) ⟨N, rfl, fun _ _ => rfl, fun g _ => by rw [if_neg (fun z => by omega)]⟩ ?_ ?_
  · rintro i s hi ⟨O, rfl, o1, o2⟩
    show qOk (kX6_measure_L41 (nI F) b0 (nI k) k2 10 (nI (orL (fun g => if F.testBit g = true then P g else 0) 0 i)) (nI i) O) _
    unfold kX6_measure_L41
    rw [if_neg (show ¬ (10 : Int32) ≤ nI i from nI_ge hi (by decide)), X7_has_eq (by omega) (by omega), qb1_some]
    by_cases e : F.testBit i = true
    · rw [if_pos e, if10, qwr_k hi (by omega), qst_n hk2, o1 k2 hk2, qrd_k hi (by omega), hP i hi, fa_or, qvl_eq, qb2_some, qvl_eq, qOk_some, ← nI_succ]
      refine ⟨qst O (b0 + 1) i (nI k), ?_, fun c hc => by rw [qst_n hc, o1 c hc], fun g hg => ?_⟩
      · rw [show orL (fun g => if F.testBit g = true then P g else 0) 0 (i + 1) = orL (fun g => if F.testBit g = true then P g else 0) 0 i ||| (if F.testBit i = true then P i else 0) from rfl, if_pos e]
      · rw [qst_at]
        by_cases q : g = i
        · subst q
          rw [if_pos rfl, if_pos ⟨e, by omega⟩]
        · rw [if_neg q, o2 g hg]
          by_cases y : F.testBit g = true ∧ g < i
          · rw [if_pos y, if_pos ⟨y.1, by omega⟩]
          · rw [if_neg y, if_neg (fun z => y ⟨z.1, by omega⟩)]
    · rw [if_neg e, if00, qb2_some, qvl_eq, qOk_some, ← nI_succ]
      refine ⟨O, ?_, o1, fun g hg => ?_⟩
      · rw [show orL (fun g => if F.testBit g = true then P g else 0) 0 (i + 1) = orL (fun g => if F.testBit g = true then P g else 0) 0 i ||| (if F.testBit i = true then P i else 0) from rfl, if_neg e, Nat.or_zero]
      · rw [o2 g hg]
        by_cases y : F.testBit g = true ∧ g < i
        · rw [if_pos y, if_pos ⟨y.1, by omega⟩]
        · rw [if_neg y, if_neg (fun z => y ⟨z.1, by
            have : g ≠ i := fun q => e (by rw [← q]; exact z.1)
            omega⟩)]
  · rintro s ⟨O, rfl, o1, o2⟩
    show qOk (kX6_measure_L41 (nI F) b0 (nI k) k2 10 (nI (orL (fun g => if F.testBit g = true then P g else 0) 0 10)) (nI 10) O) _
    unfold kX6_measure_L41
    rw [if_pos (show (10 : Int32) ≤ nI 10 from by decide), qOk_some]
    refine ⟨rfl, o1, fun g hg => ?_⟩
    show O (b0 + 1) g = _
    rw [o2 g hg]
    by_cases y : F.testBit g = true
    · rw [if_pos y, if_pos ⟨y, hg⟩]
    · rw [if_neg y, if_neg (fun z => y z.1)]
theorem rF_no {P : Nat → Nat} {X s k : Nat} (h : ∀ g, ¬ rF P X s k g) : ∀ d g, ¬ rF P X s (k + d) g
  | 0, g => h g
  | d + 1, g => fun z => by
    obtain ⟨-, -, j, -, y, -⟩ := rF_1.mp z
    exact rF_no h d j y
/-- far: the steps from s, or z -/
def qFr (P : Nat → Nat) (X s : Nat) (z : Int32) (f : Nat → Int32) : Prop := ∀ g, g < 10 → (∃ j, j < 10 ∧ rF P X s j g ∧ f g = nI j) ∨ ((∀ j, ¬ (rS P X s j).testBit g = true) ∧ f g = z)
theorem X6_measure_eq {b0 k2 : Nat} {M : qM} {P : Nat → Nat} {X s : Nat} (hP : ∀ g, g < 10 → M k2 g = nI (P g)) (hl : ∀ g, g < 10 → P g < 1024) (hk2 : k2 ≠ b0 + 1) (hX : X < 1024) (hs : s < 10) : qOk (kX6_measure b0 M (nI s) k2 10 (nI X)) (fun N => (∀ c, c ≠ b0 + 1 → N c = M c) ∧ qFr P X s (-6) (N (b0 + 1))) := by
  unfold kX6_measure
  rw [qOk_b1]
  refine qOk.m (J7_fill_eq M (b0 + 1) 10 (-6) (by omega)) (fun M1 ⟨f1, f2⟩ => ?_)
  rw [shl1 (by omega), fa_and, qvl_eq, qOk_b1]
  refine qlp_for (fun k st => ∃ F N, st = (nI F, nI (rS P X s k), nI k, N) ∧ F < 1024 ∧ (∀ g, F.testBit g = true ↔ rF P X s k g) ∧ (∀ c, c ≠ b0 + 1 → N c = M c) ∧ ∀ g, g < 10 → (∃ j, j < k ∧ rF P X s j g ∧ N (b0 + 1) g = nI j) ∨ ((∀ j, j < k → ¬ (rS P X s j).testBit g = true) ∧ N (b0 + 1) g = -6)) 10 (by omega) ⟨X &&& 2 ^ s, M1, rfl, Nat.lt_of_le_of_lt Nat.and_le_left hX, fun g => ⟨fun h => ⟨h, fun i hi => by omega⟩, fun h => h.1⟩, f1, fun g hg => Or.inr ⟨fun j hj => by omega, f2 g hg⟩⟩ ?_ ?_
  · rintro k st hk ⟨F, N, rfl, hF, hf, n1, n2⟩
    show qOk (kX6_measure_L23 b0 k2 10 (nI X) (nI F) (nI (rS P X s k)) (nI k) N) _
    unfold kX6_measure_L23
    rw [if_neg (show ¬ (10 : Int32) ≤ nI k from nI_ge hk (by decide))]
    by_cases e : F = 0
    · rw [if_pos (show nI F = 0 by rw [e]; rfl), qOk_some]
      show qOk (some _) _
      rw [qOk_some]
      refine ⟨n1, fun g hg => ?_⟩
      rcases n2 g hg with ⟨j, hj, a, b⟩ | ⟨a, b⟩
      · exact Or.inl ⟨j, by omega, a, b⟩
      · refine Or.inr ⟨fun j z => ?_, b⟩
        obtain ⟨i, -, y⟩ := rF_of z
        have ki : k ≤ i := by
          rcases Nat.lt_or_ge i k with q | q
          · exact absurd y.1 (a i q)
          · exact q
        refine rF_no (k := k) (fun g z => ?_) (i - k) g (by rw [show k + (i - k) = i by omega]; exact y)
        have := (hf g).mpr z
        rw [e, Nat.zero_testBit] at this
        cases this
    · rw [if_neg (fun z => e (by rw [show (0 : Int32) = nI 0 from rfl, nI_inj (by omega) (by omega)] at z; exact z)), qOk_b2]
      refine qOk.m (ms_in (fun g hg => by rw [n1 k2 hk2]; exact hP g hg) hk2 hF) (fun r hr => ?_)
      obtain ⟨r1, r2, r3⟩ := hr
      obtain ⟨T, hT⟩ : ∃ T, T = orL (fun g => if F.testBit g = true then P g else 0) 0 10 := ⟨_, rfl⟩
      have hTX : T &&& X < 1024 := Nat.lt_of_le_of_lt Nat.and_le_right hX
      rw [r1, ← hT, fa_and, andnot hTX, qvl_eq, fa_or, qvl_eq, qvl_eq, qOk_some, ← nI_succ]
      have hn : ∀ g, ((T &&& X) &&& (rS P X s k ^^^ 1023)).testBit g = true ↔ rF P X s (k + 1) g := fun g => by
        rw [an_bit hTX, rF_1, Nat.testBit_and, Bool.and_eq_true, hT, nb_bit]
        constructor
        · rintro ⟨⟨⟨h, a, b, c⟩, d⟩, e⟩
          exact ⟨d, e, h, a, (hf h).mp b, c⟩
        · rintro ⟨d, e, h, a, b, c⟩
          exact ⟨⟨⟨h, a, (hf h).mpr b, c⟩, d⟩, e⟩
      refine ⟨(T &&& X) &&& (rS P X s k ^^^ 1023), r.2, ?_, Nat.lt_of_le_of_lt Nat.and_le_left hTX, hn, fun c hc => by rw [r2 c hc, n1 c hc], fun g hg => ?_⟩
      · have e2 : rS P X s k ||| ((T &&& X) &&& (rS P X s k ^^^ 1023)) = rS P X s (k + 1) := by
          apply Nat.eq_of_testBit_eq
          intro g
          rw [Bool.eq_iff_iff, Nat.testBit_or, Bool.or_eq_true, hn]
          constructor
          · rintro (z | z)
            · exact rS_mo (by omega) z
            · exact z.1
          · intro z
            by_cases y : (rS P X s k).testBit g = true
            · exact Or.inl y
            · exact Or.inr ⟨z, fun i hi q => y (rS_mo (by omega) q)⟩
        rw [e2]
      · rw [r3 g hg]
        by_cases y : F.testBit g = true
        · rw [if_pos y]
          exact Or.inl ⟨k, by omega, (hf g).mp y, rfl⟩
        · rw [if_neg y]
          rcases n2 g hg with ⟨j, hj, a, b⟩ | ⟨a, b⟩
          · exact Or.inl ⟨j, by omega, a, b⟩
          · refine Or.inr ⟨fun j hj z => ?_, b⟩
            by_cases q : j = k
            · subst q
              exact y ((hf g).mpr ⟨z, a⟩)
            · exact a j (by omega) z
  · rintro st ⟨F, N, rfl, hF, hf, n1, n2⟩
    show qOk (kX6_measure_L23 b0 k2 10 (nI X) (nI F) (nI (rS P X s 10)) (nI 10) N) _
    unfold kX6_measure_L23
    rw [if_pos (show (10 : Int32) ≤ nI 10 from by decide), qOk_some]
    show qOk (some _) _
    rw [qOk_some]
    refine ⟨n1, fun g hg => ?_⟩
    rcases n2 g hg with ⟨j, hj, a, b⟩ | ⟨a, b⟩
    · exact Or.inl ⟨j, by omega, a, b⟩
    · exact Or.inr ⟨fun j z => a 9 (by omega) (rS_9 hX z), b⟩
/-- the reference's steps, in round r, from U, to W -/
def rI (P : Nat → Nat) (X s r U W : Nat) (f : Nat → Nat) : Prop := (∀ g, g < 10 → f g ≤ 1000000 ∧ (f g < 1000000 → (rS P X s (f g)).testBit g = true)) ∧ (∀ g, g < 10 → ∀ k, k ≤ r → (rS P X s k).testBit g = true → f g ≤ k) ∧ (∀ g, g < 10 → ∀ u, u < U → (rS P X s r).testBit u = true → (P u).testBit g = true → X.testBit g = true → f g ≤ r + 1) ∧ (∀ g, g < W → (rS P X s r).testBit U = true → (P U).testBit g = true → X.testBit g = true → f g ≤ r + 1)
theorem rI_step {P : Nat → Nat} {X s r U W : Nat} {f : Nat → Nat} (h : rI P X s r U W f) (hW : W < 10) {x : Nat} (n1 : x ≤ f W) (n2 : x < 1000000 → (rS P X s x).testBit W = true) (n3 : (rS P X s r).testBit U = true → (P U).testBit W = true → X.testBit W = true → x ≤ r + 1) : rI P X s r U (W + 1) (fun g => if g = W then x else f g) := by
  obtain ⟨h1, h2, h3, h4⟩ := h
  refine ⟨fun g hg => ?_, fun g hg k hk z => ?_, fun g hg u hu a b c => ?_, fun g hg a b c => ?_⟩
  · dsimp only
    by_cases e : g = W
    · subst e
      rw [if_pos rfl]
      exact ⟨Nat.le_trans n1 (h1 g hg).1, n2⟩
    · rw [if_neg e]
      exact h1 g hg
  · dsimp only
    by_cases e : g = W
    · subst e
      rw [if_pos rfl]
      exact Nat.le_trans n1 (h2 g hg k hk z)
    · rw [if_neg e]
      exact h2 g hg k hk z
  · dsimp only
    by_cases e : g = W
    · subst e
      rw [if_pos rfl]
      exact Nat.le_trans n1 (h3 g hg u hu a b c)
    · rw [if_neg e]
      exact h3 g hg u hu a b c
  · dsimp only
    by_cases e : g = W
    · subst e
      rw [if_pos rfl]
      exact n3 a b c
    · rw [if_neg e]
      exact h4 g (by omega) a b c
theorem lf_in {M : qM} {P : Nat → Nat} {X s r U : Nat} {f : Nat → Nat} (hP : ∀ g, g < 10 → M 6 g = nI (P g)) (hl : ∀ g, g < 10 → P g < 1024) (hX : X < 1024) (hU : U < 10) (hf : ∀ g, g < 10 → M 11 g = nI (f g)) (hI : rI P X s r U 0 f) : qOk (qlp (S := Int32 × qM) (E := (qM)) (fun s => kX8_layFar_L60 (nI U) (nI X) s.1 s.2) qFu (0, M)) (fun N => (∀ c, c ≠ 11 → N c = M c) ∧ ∃ f', (∀ g, g < 10 → N 11 g = nI (f' g)) ∧ rI P X s r (U + 1) 0 f') := by
  refine qlp_for (fun W st => ∃ N f', st = (nI W, N) ∧ (∀ c, c ≠ 11 → N c = M c) ∧ (∀ g, g < 10 → N 11 g = nI (f' g)) ∧ rI P X s r U W f') 10 (by omega) ⟨M, f, rfl, fun _ _ => rfl, hf, hI⟩ ?_ ?_
  · rintro W st hW ⟨N, f', rfl, n1, n2, hI⟩
    show qOk (kX8_layFar_L60 (nI U) (nI X) (nI W) N) _
    unfold kX8_layFar_L60
    have pu := hl U hU
    have fu := (hI.1 U hU).1
    have fw := (hI.1 W hW).1
    rw [if_neg (show ¬ (10 : Int32) ≤ nI W from nI_ge hW (by decide)), n1 6 (by decide), qrd_k hU (by omega), hP U hU, X8_has_eq (by omega) (by omega), qb1_some, qrd_k hW (by omega), n2 W hW]
    have fin : ∀ x, x ≤ f' W → (x < 1000000 → (rS P X s x).testBit W = true) → ((rS P X s r).testBit U = true → (P U).testBit W = true → X.testBit W = true → x ≤ r + 1) → qOk (qb1 (some (nI x)) (fun v19 => qwr N 11 10 (nI W) v19 (fun M27 => qvl (nI W + 1) (fun v28 => some (Sum.inl (β := qM) (v28, M27)))))) (Sum.elim (fun st => ∃ N f', st = (nI (W + 1), N) ∧ (∀ c, c ≠ 11 → N c = M c) ∧ (∀ g, g < 10 → N 11 g = nI (f' g)) ∧ rI P X s r U (W + 1) f') (fun N => (∀ c, c ≠ 11 → N c = M c) ∧ ∃ f', (∀ g, g < 10 → N 11 g = nI (f' g)) ∧ rI P X s r (U + 1) 0 f')) := fun x a b c => by
      rw [qb1_some, qwr_k hW (by omega), qvl_eq, qOk_some, ← nI_succ]
      refine ⟨qst N 11 W (nI x), fun g => if g = W then x else f' g, rfl, fun c hc => by rw [qst_n hc, n1 c hc], fun g hg => ?_, rI_step hI hW a b c⟩
      rw [qst_at]
      dsimp only
      by_cases e : g = W
      · rw [if_pos e, if_pos e]
      · rw [if_neg e, if_neg e, n2 g hg]
    by_cases c1 : (P U).testBit W = true
    · rw [if_pos c1, if10, X8_has_eq (by omega) (by omega), qb1_some]
      by_cases c2 : X.testBit W = true
      · rw [if_pos c2, if10, qrd_k hU (by omega), qrd_k hW (by omega), qrd_k hU (by omega), n2 U hU, n2 W hW, ← nI_succ (f' U)]
        by_cases c3 : f' W ≤ f' U + 1
        · rw [if_pos (nI_le c3 (by omega))]
          exact fin (f' W) (Nat.le_refl _) (hI.1 W hW).2 (fun a _ _ => by have := hI.2.1 U hU r (Nat.le_refl _) a; omega)
        · rw [if_neg (nI_ge (by omega) (by omega))]
          exact fin (f' U + 1) (by omega) (fun z => (rS_1 _ W).mpr (Or.inr ⟨c2, U, hU, (hI.1 U hU).2 (by omega), c1⟩)) (fun a _ _ => by have := hI.2.1 U hU r (Nat.le_refl _) a; omega)
      · rw [if_neg c2, if00]
        exact fin (f' W) (Nat.le_refl _) (hI.1 W hW).2 (fun _ _ z => absurd z c2)
    · rw [if_neg c1, if00]
      exact fin (f' W) (Nat.le_refl _) (hI.1 W hW).2 (fun _ z => absurd z c1)
  · rintro st ⟨N, f', rfl, n1, n2, hI⟩
    show qOk (kX8_layFar_L60 (nI U) (nI X) (nI 10) N) _
    unfold kX8_layFar_L60
    rw [if_pos (show (10 : Int32) ≤ nI 10 from by decide), qOk_some]
    refine ⟨n1, f', n2, hI.1, hI.2.1, fun g hg u hu => ?_, fun g hg => by omega⟩
    by_cases e : u = U
    · subst e
      exact hI.2.2.2 g hg
    · exact hI.2.2.1 g hg u (by omega)
theorem X8_layFar_eq {M : qM} {P : Nat → Nat} {X s : Nat} (hP : ∀ g, g < 10 → M 6 g = nI (P g)) (hl : ∀ g, g < 10 → P g < 1024) (hX : X < 1024) (hs : s < 10) : qOk (kX8_layFar M (nI s) (nI X)) (fun N => (∀ c, c ≠ 11 → N c = M c) ∧ qFr P X s 1000000 (N 11)) := by
  unfold kX8_layFar
  rw [qOk_b1]
  have st : qOk (qlp (S := Int32 × qM) (E := (qM)) (fun st => kX8_layFar_L2 (nI s) (nI X) st.1 st.2) qFu (0, M)) (fun N => (∀ c, c ≠ 11 → N c = M c) ∧ ∀ g, g < 10 → N 11 g = nI (if X.testBit g = true ∧ s = g then 0 else 1000000)) := by
    refine qlp_for (fun i st => ∃ N, st = (nI i, N) ∧ (∀ c, c ≠ 11 → N c = M c) ∧ ∀ g, g < i → N 11 g = nI (if X.testBit g = true ∧ s = g then 0 else 1000000)) 10 (by omega) ⟨M, rfl, fun _ _ => rfl, fun _ z => by omega⟩ ?_ ?_
    · rintro i st hi ⟨N, rfl, n1, n2⟩
      show qOk (kX8_layFar_L2 (nI s) (nI X) (nI i) N) _
      unfold kX8_layFar_L2
      rw [if_neg (show ¬ (10 : Int32) ≤ nI i from nI_ge hi (by decide))]
      have fin : ∀ x : Nat, (if X.testBit i = true ∧ s = i then 0 else 1000000) = x → qOk (qb1 (some (nI x)) (fun v4 => qwr N 11 10 (nI i) v4 (fun M6 => qvl (nI i + 1) (fun v7 => some (Sum.inl (β := qM) (v7, M6)))))) (Sum.elim (fun st => ∃ N, st = (nI (i + 1), N) ∧ (∀ c, c ≠ 11 → N c = M c) ∧ ∀ g, g < i + 1 → N 11 g = nI (if X.testBit g = true ∧ s = g then 0 else 1000000)) (fun N => (∀ c, c ≠ 11 → N c = M c) ∧ ∀ g, g < 10 → N 11 g = nI (if X.testBit g = true ∧ s = g then 0 else 1000000))) := fun x hx => by
        rw [qb1_some, qwr_k hi (by omega), qvl_eq, qOk_some, ← nI_succ]
        refine ⟨qst N 11 i (nI x), rfl, fun c hc => by rw [qst_n hc, n1 c hc], fun g hg => ?_⟩
        rw [qst_at]
        by_cases e : g = i
        · subst e
          rw [if_pos rfl, hx]
        · rw [if_neg e, n2 g (by omega)]
      by_cases c1 : i = s
      · rw [if_pos (show nI i = nI s by rw [c1]), X8_has_eq (by omega) (by omega), qb1_some]
        by_cases c2 : X.testBit i = true
        · rw [if_pos c2, if10]
          exact fin 0 (if_pos ⟨c2, c1.symm⟩)
        · rw [if_neg c2, if00]
          exact fin 1000000 (if_neg (fun z => c2 z.1))
      · rw [if_neg (fun z => c1 ((nI_inj (by omega) (by omega)).mp z))]
        exact fin 1000000 (if_neg (fun z => c1 z.2.symm))
    · rintro st ⟨N, rfl, n1, n2⟩
      show qOk (kX8_layFar_L2 (nI s) (nI X) (nI 10) N) _
      unfold kX8_layFar_L2
      rw [if_pos (show (10 : Int32) ≤ nI 10 from by decide), qOk_some]
      exact ⟨n1, n2⟩
  refine qOk.m st (fun M1 ⟨m1, m2⟩ => ?_)
  rw [qOk_b1]
  refine qlp_for (fun r st => ∃ N f, st = (nI r, N) ∧ (∀ c, c ≠ 11 → N c = M c) ∧ (∀ g, g < 10 → N 11 g = nI (f g)) ∧ rI P X s r 0 0 f) 10 (by omega) ⟨M1, _, rfl, m1, m2, ?_⟩ ?_ ?_
  · refine ⟨fun g hg => ?_, fun g hg k hk z => ?_, fun g hg u hu => by omega, fun g hg => by omega⟩
    · dsimp only
      by_cases c : X.testBit g = true ∧ s = g
      · rw [if_pos c]
        exact ⟨by omega, fun _ => (rS_0 g).mpr c⟩
      · rw [if_neg c]
        exact ⟨by omega, fun z => by omega⟩
    · have : k = 0 := by omega
      subst this
      dsimp only
      rw [if_pos ((rS_0 g).mp z)]
      exact Nat.le_refl _
  · rintro r st hr ⟨N, f, rfl, n1, n2, hI⟩
    show qOk (kX8_layFar_L41 (nI X) (nI r) N) _
    unfold kX8_layFar_L41
    rw [if_neg (show ¬ (10 : Int32) ≤ nI r from nI_ge hr (by decide)), qOk_b1]
    refine qlp_for (fun U st => ∃ N f, st = (nI U, N) ∧ (∀ c, c ≠ 11 → N c = M c) ∧ (∀ g, g < 10 → N 11 g = nI (f g)) ∧ rI P X s r U 0 f) 10 (by omega) ⟨N, f, rfl, n1, n2, hI⟩ ?_ ?_
    · rintro U st hU ⟨N, f, rfl, n1, n2, hI⟩
      show qOk (kX8_layFar_L50 (nI X) (nI U) N) _
      unfold kX8_layFar_L50
      rw [if_neg (show ¬ (10 : Int32) ≤ nI U from nI_ge hU (by decide)), qOk_b1]
      refine qOk.m (lf_in (fun g hg => by rw [n1 6 (by decide)]; exact hP g hg) hl hX hU n2 hI) (fun O ⟨o1, f', o2, o3⟩ => ?_)
      rw [qvl_eq, qOk_some]
      exact ⟨O, f', by rw [nI_succ], fun c hc => by rw [o1 c hc, n1 c hc], o2, o3⟩
    · rintro st ⟨N, f, rfl, n1, n2, hI⟩
      show qOk (kX8_layFar_L50 (nI X) (nI 10) N) _
      unfold kX8_layFar_L50
      rw [if_pos (show (10 : Int32) ≤ nI 10 from by decide), qOk_some]
      show qOk (qvl _ _) _
      rw [qvl_eq, qOk_some]
      refine ⟨N, f, by rw [nI_succ], n1, n2, hI.1, fun g hg k hk z => ?_, fun g hg u hu => by omega, fun g hg => by omega⟩
      rcases Nat.lt_or_ge r k with q | q
      · have : k = r + 1 := by omega
        subst this
        rcases (rS_1 r g).mp z with y | ⟨y1, h, y2, y3, y4⟩
        · have := hI.2.1 g hg r (Nat.le_refl _) y
          omega
        · exact hI.2.2.1 g hg h y2 y3 y4 y1
      · exact hI.2.1 g hg k q z
  · rintro st ⟨N, f, rfl, n1, n2, hI⟩
    show qOk (kX8_layFar_L41 (nI X) (nI 10) N) _
    unfold kX8_layFar_L41
    rw [if_pos (show (10 : Int32) ≤ nI 10 from by decide), qOk_some]
    show qOk (some _) _
    rw [qOk_some]
    refine ⟨n1, fun g hg => ?_⟩
    rw [n2 g hg]
    rcases Nat.lt_or_ge (f g) 1000000 with c | c
    · have z := (hI.1 g hg).2 c
      obtain ⟨j, hj, y⟩ := rF_of (rS_9 hX z)
      have l1 := hI.2.1 g hg j (by omega) y.1
      have l2 : ¬ f g < j := fun q => y.2 (f g) q z
      exact Or.inl ⟨j, by omega, y, by rw [show f g = j by omega]⟩
    · have := (hI.1 g hg).1
      refine Or.inr ⟨fun j z => ?_, by rw [show f g = 1000000 by omega]; rfl⟩
      have l1 := hI.2.1 g hg 9 (by omega) (rS_9 hX z)
      omega
