/-! which lost ones fit, both sides -/
def oX (A : qN) : Nat := 1023 &&& (A 11 2 ^^^ 1023)
theorem oX_lt {A : qN} : oX A < 1024 := Nat.lt_of_le_of_lt Nat.and_le_left (by decide)
noncomputable def dA (A : qN) (s g : Nat) : Nat := dst (A 6) (oX A) s g
theorem dA_sy {A : qN} (hw : qW A) {s g : Nat} (h1 : s < 10) (h2 : g < 10) : dA A s g = dA A g s := dst_sy hw.sn.2 h1 h2
def fiB (D : Nat → Nat → Nat) (A : qN) (g n : Nat) : Nat → Bool
  | 0 => true
  | k + 1 => fiB D A g n k && decide (he (D (A 8 k) g) n = A 9 k)
def fF (D : Nat → Nat → Nat) (A : qN) (g : Nat) : Nat → Nat
  | 0 => 16777215
  | k + 1 => fF D A g k &&& hb (D (A 8 k) g) (A 9 k)
theorem hb_bit {d t n : Nat} (hd : d < 10 ∨ d = 1000000) (ht : t ≤ 24) (hn : n < 24) : (hb d t).testBit n = decide (he d n = t) := by
  rcases hd with hd | rfl
  · exact hb_tab d hd t (by omega) n hn
  · exact hb_tab6 t (by omega) n hn
theorem hb_fam {d t : Nat} (hd : d < 10 ∨ d = 1000000) (ht : t ≤ 24) : fam (hb d t) := by
  rcases hd with hd | rfl
  · exact fm_hb d hd t (by omega)
  · exact fm_hb6 t (by omega)
theorem dst_or {P : Nat → Nat} {X s g : Nat} : dst P X s g < 10 ∨ dst P X s g = 1000000 := by
  rcases Classical.em (∃ j, j < 10 ∧ rF P X s j g) with ⟨j, hj, z⟩ | z
  · rw [dst_at hj z]
    exact Or.inl hj
  · unfold dst
    rw [dif_neg z]
    exact Or.inr rfl
theorem dA_or {A : qN} {s g : Nat} : dA A s g < 10 ∨ dA A s g = 1000000 := dst_or
theorem fF_fam {A : qN} (hw : qW A) {g : Nat} : ∀ k, k ≤ A 11 4 → fam (fF (dA A) A g k)
  | 0, _ => ⟨0, by omega, rfl⟩
  | k + 1, hk => fam_and (fF_fam hw k (by omega)) (hb_fam dA_or (hw.sn.1 k (by omega)))
theorem all_bit : ∀ n, n < 24 → (16777215 : Nat).testBit n = true := by decide +kernel
theorem fF_bit {A : qN} (hw : qW A) {g n : Nat} (hn : n < 24) : ∀ k, k ≤ A 11 4 → (fF (dA A) A g k).testBit n = fiB (dA A) A g n k
  | 0, _ => all_bit n hn
  | k + 1, hk => by
    show (fF (dA A) A g k &&& hb (dA A (A 8 k) g) (A 9 k)).testBit n = (fiB (dA A) A g n k && decide (he (dA A (A 8 k) g) n = A 9 k))
    rw [Nat.testBit_and, fF_bit hw hn k (by omega), hb_bit dA_or (hw.sn.1 k (by omega)) hn]
theorem ff_in {N : qM} {k t : Nat} {d G : Nat → Nat} (hk : k < 8) (hs : N (1 + 11) k = nI t - 1) (ht : t ≤ 24) (hd : ∀ g, g < 10 → (d g < 10 ∧ N (66 + 1) g = nI (d g)) ∨ (d g = 1000000 ∧ N (66 + 1) g = -6)) (hf : ∀ g, g < 10 → N 68 g = nI (G g)) : qOk (qlp (S := Int32 × qM) (E := (qM)) (fun s => kX3_findFits_L54 1 (nI k) s.1 s.2) qFu (0, N)) (fun T => (∀ c, c ≠ 68 → T c = N c) ∧ ∀ g, g < 10 → T 68 g = nI (G g &&& hb (d g) t)) := by
  refine qlp_for (fun g s => ∃ T, s = (nI g, T) ∧ (∀ c, c ≠ 68 → T c = N c) ∧ ∀ j, j < 10 → T 68 j = nI (if j < g then G j &&& hb (d j) t else G j)) 10 (by omega) ⟨N, rfl, fun _ _ => rfl, fun j hj => by rw [if_neg (Nat.not_lt_zero j)]; exact hf j hj⟩ ?_ ?_
  · rintro g s hg ⟨T, rfl, t1, t2⟩
    show qOk (kX3_findFits_L54 1 (nI k) (nI g) T) _
    unfold kX3_findFits_L54
    have e : kX3_notesHeardAs (nI t - 1) (N (66 + 1) g) = some (nI (hb (d g) t)) := by
      rcases hd g hg with ⟨a, b⟩ | ⟨a, b⟩
      · rw [b]
        exact hn_tab _ a _ (by omega)
      · rw [b, a]
        exact hn_tab6 _ (by omega)
    rw [if_neg (show ¬ (10 : Int32) ≤ nI g from nI_ge (b := 10) hg (by decide)), qrd_k hg (by omega), qrd_k hk (by omega), qrd_k hg (by omega), t1 (1 + 11) (by decide), t1 (66 + 1) (by decide), hs, e, qb1_some, t2 g hg, if_neg (Nat.lt_irrefl g), fa_and, qwr_k hg (by omega), qvl_eq, qOk_some]
    refine ⟨_, by rw [nI_succ g], fun c hc => by rw [qst_n hc, t1 c hc], fun j hj => ?_⟩
    rw [qst_at]
    by_cases ej : j = g
    · rw [if_pos ej, ej, if_pos (Nat.lt_succ_self g)]
    · rw [if_neg ej, t2 j hj]
      by_cases l : j < g
      · rw [if_pos l, if_pos (by omega)]
      · rw [if_neg l, if_neg (by omega)]
  · rintro s ⟨T, rfl, t1, t2⟩
    show qOk (kX3_findFits_L54 1 (nI k) (nI 10) T) _
    unfold kX3_findFits_L54
    rw [if_pos (show (10 : Int32) ≤ nI 10 from by decide), qOk_some]
    exact ⟨t1, fun g hg => by rw [t2 g hg, if_pos hg]⟩
theorem findFits_eq {M : qM} {A : qN} (h : qC 1 M A) (hw : qW A) : qOk (kX3_findFits M 1) (fun N => (∀ c, c ≠ 67 → c ≠ 68 → N c = M c) ∧ ∀ g, g < 10 → N 68 g = nI (fF (dA A) A g (A 11 4))) := by
  unfold kX3_findFits
  rw [qOk_b1]
  refine qOk.m (J7_fill_eq M 68 10 16777215 (by omega)) (fun M1 ⟨f1, f2⟩ => ?_)
  rw [qOk_b1]
  have si := hw.si
  refine qlp_for (fun k s => ∃ N, s = (nI k, N) ∧ (∀ c, c ≠ 67 → c ≠ 68 → N c = M c) ∧ ∀ g, g < 10 → N 68 g = nI (fF (dA A) A g k)) (A 11 4) (by omega) ⟨M1, rfl, fun c _ c2 => f1 c c2, fun g hg => by rw [f2 g hg]; rfl⟩ ?_ ?_
  · rintro k s hk ⟨N, rfl, n1, n2⟩
    show qOk (kX3_findFits_L11 1 (nI k) N) _
    unfold kX3_findFits_L11
    have hc : qC 1 N A := h.same (fun c _ _ => n1 c (by omega) (by omega))
    have sp := hw.sp k hk
    rw [show N 1 7 = nI (A 11 4) from hc.si, if_neg (nI_ge hk (by omega)), if_neg (show ¬ (8 : Int32) ≤ nI k from nI_ge (b := 8) (by omega) (by decide)), qrd_k (show k < 8 by omega) (by omega), hc.sp k hk, show N 1 4 = nI (A 11 2) from hc.cl, show (1023 : Int32) = nI 1023 from rfl, andnot (by omega), show 1023 &&& (A 11 2 ^^^ 1023) = oX A from rfl, qOk_b1]
    refine qOk.m (X6_measure_eq (b0 := 66) (k2 := 1 + 1) hc.ps hw.ps (by decide) oX_lt sp) (fun Q ⟨q1, q2⟩ => ?_)
    rw [qOk_b1]
    refine qOk.m (ff_in (t := A 9 k) (d := fun g => dA A (A 8 k) g) (G := fun g => fF (dA A) A g k) (show k < 8 by omega) (by rw [q1 (1 + 11) (by decide)]; exact hc.sn k hk) (hw.sn.1 k hk) (fun g hg => fr_1 q2 hg) (fun g hg => by rw [q1 68 (by decide)]; exact n2 g hg)) (fun T ⟨t1, t2⟩ => ?_)
    rw [qvl_eq, qOk_some]
    exact ⟨T, by rw [nI_succ k], fun c a b => by rw [t1 c b, q1 c (by omega), n1 c a b], t2⟩
  · rintro s ⟨N, rfl, n1, n2⟩
    show qOk (kX3_findFits_L11 1 (nI (A 11 4)) N) _
    unfold kX3_findFits_L11
    have hc : qC 1 N A := h.same (fun c _ _ => n1 c (by omega) (by omega))
    rw [show N 1 7 = nI (A 11 4) from hc.si, if_pos (nI_le (Nat.le_refl _) (by omega)), qOk_some]
    show qOk (some N) _
    rw [qOk_some]
    exact ⟨n1, n2⟩
/-! the reference -/
theorem ap_in {N : qM} {g : Nat} (hg : g < 10) {f : Nat → Nat} (hf : ∀ j, j < 10 → N 11 j = nI (f j)) : qOk (qlp (S := Int32 × qM) (E := (qM)) (fun s => kX8_layApart_L28 (nI g) s.1 s.2) qFu (0, N)) (fun T => (∀ c, c ≠ 13 → T c = N c) ∧ (∀ j, j < 10 → T 13 (10 * g + j) = nI (f j)) ∧ ∀ i, i < 10 * g → T 13 i = N 13 i) := by
  refine qlp_for (fun j s => ∃ T, s = (nI j, T) ∧ (∀ c, c ≠ 13 → T c = N c) ∧ (∀ i, i < j → T 13 (10 * g + i) = nI (f i)) ∧ ∀ i, i < 10 * g → T 13 i = N 13 i) 10 (by omega) ⟨N, rfl, fun _ _ => rfl, fun i hi => by omega, fun _ _ => rfl⟩ ?_ ?_
  · rintro j s hj ⟨T, rfl, t1, t2, t3⟩
    show qOk (kX8_layApart_L28 (nI g) (nI j) T) _
    unfold kX8_layApart_L28
    rw [if_neg (show ¬ (10 : Int32) ≤ nI j from nI_ge (b := 10) hj (by decide)), qrd_k hj (by omega), t1 11 (by decide), hf j hj, show (10 : Int32) * nI g + nI j = nI (10 * g + j) by rw [show (10 : Int32) * nI g = nI (10 * g) from pk_mul 10 g, nI_add], qwr_k (show 10 * g + j < 100 by omega) (by omega), qvl_eq, qOk_some]
    refine ⟨_, by rw [nI_succ j], fun c hc => by rw [qst_n hc, t1 c hc], fun i hi => ?_, fun i hi => by rw [qst_at, if_neg (by omega), t3 i hi]⟩
    rw [qst_at]
    by_cases e : i = j
    · rw [e, if_pos rfl]
    · rw [if_neg (by omega)]
      exact t2 i (by omega)
  · rintro s ⟨T, rfl, t1, t2, t3⟩
    show qOk (kX8_layApart_L28 (nI g) (nI 10) T) _
    unfold kX8_layApart_L28
    rw [if_pos (show (10 : Int32) ≤ nI 10 from by decide), qOk_some]
    exact ⟨t1, t2, t3⟩
theorem qDm.sm {M N : qM} {A : qN} (h : qDm M A) (h1 : ∀ c, c < 9 → N c = M c) : qDm N A := by
  show qDm N A
  unfold qDm
  rw [h1 1 (by omega), h1 3 (by omega), h1 4 (by omega), h1 5 (by omega), h1 6 (by omega), h1 7 (by omega), h1 8 (by omega), h1 0 (by omega)]
  exact h
theorem layApart_eq {M : qM} {A : qN} (h : qDm M A) (hw : qW A) : qOk (kX8_layApart M) (fun N => (∀ c, c ≠ 11 → c ≠ 13 → N c = M c) ∧ ∀ g, g < 10 → ∀ j, j < 10 → N 13 (10 * g + j) = nI (dA A g j)) := by
  unfold kX8_layApart
  rw [qOk_b1]
  refine qlp_for (fun k s => ∃ N, s = (nI k, N) ∧ (∀ c, c ≠ 11 → c ≠ 13 → N c = M c) ∧ ∀ g, g < k → ∀ j, j < 10 → N 13 (10 * g + j) = nI (dA A g j)) 10 (by omega) ⟨M, rfl, fun _ _ _ => rfl, fun g hg => by omega⟩ ?_ ?_
  · rintro k s hk ⟨N, rfl, n1, n2⟩
    show qOk (kX8_layApart_L2 (nI k) N) _
    unfold kX8_layApart_L2
    have hN : qDm N A := h.sm (fun c hc => n1 c (by omega) (by omega))
    rw [if_neg (show ¬ (10 : Int32) ≤ nI k from nI_ge (b := 10) hk (by decide)), show (34 : Int32) = nI 34 from rfl, qrd_k (show 34 < 36 by omega) (by omega), hN.cl, show (1023 : Int32) = nI 1023 from rfl, andnot (by omega), show 1023 &&& (A 11 2 ^^^ 1023) = oX A from rfl, qOk_b1]
    refine qOk.m (X8_layFar_eq (P := A 6) hN.ps hw.ps oX_lt hk) (fun Q ⟨q1, q2⟩ => ?_)
    rw [qOk_b1]
    refine qOk.m (ap_in hk (f := fun j => dA A k j) (fun j hj => (fr_2 q2 hj).1)) (fun T ⟨t1, t2, t3⟩ => ?_)
    rw [qvl_eq, qOk_some]
    refine ⟨T, by rw [nI_succ k], fun c a b => by rw [t1 c b, q1 c a, n1 c a b], fun g hg j hj => ?_⟩
    by_cases e : g = k
    · rw [e]
      exact t2 j hj
    · rw [t3 _ (by omega), q1 13 (by decide)]
      exact n2 g (by omega) j hj
  · rintro s ⟨N, rfl, n1, n2⟩
    show qOk (kX8_layApart_L2 (nI 10) N) _
    unfold kX8_layApart_L2
    rw [if_pos (show (10 : Int32) ≤ nI 10 from by decide), qOk_some]
    show qOk (some N) _
    rw [qOk_some]
    exact ⟨n1, n2⟩
def qAp2 (M : qM) (A : qN) : Prop := ∀ g, g < 10 → ∀ j, j < 10 → M 13 (10 * g + j) = nI (dA A g j)
theorem noteIn_eq {M : qM} {A : qN} (h : qAp2 M A) {l j : Nat} (hl : l < 1000) (hj : j < 10) : kX8_noteIn M (nI l) (nI j) = some (nI (he (dA A (l / 100) j) (l % 100)) - 1) := by
  unfold kX8_noteIn
  have hg : l / 100 < 10 := by omega
  have hn : l % 100 < 100 := Nat.mod_lt _ (by omega)
  have hd : dA A (l / 100) j ≤ 1000000 := by
    rcases dA_or (A := A) (s := l / 100) (g := j) with z | z <;> omega
  rw [show nI l - nI l / 100 * 100 = nI (l % 100) from pk_rem (d := 100) (by omega) (by omega) (by omega), show nI l / 100 = nI (l / 100) from pk_div (d := 100) (by omega) (by omega) (by omega), show nI (l / 100) * 10 + nI j = nI (10 * (l / 100) + j) by rw [show nI (l / 100) * 10 = nI (l / 100 * 10) from pk_mul _ 10, nI_add, Nat.mul_comm], qrd_k (show 10 * (l / 100) + j < 100 by omega) (by omega), h _ hg j hj, qvl_eq]
  unfold he
  by_cases c : dA A (l / 100) j ≤ l % 100
  · rw [pk_sub c, if_pos (nI_pos' (by omega)), qb1_some, if_pos c, nI_pred]
  · rw [if_neg (show ¬ (0 : Int32) ≤ nI (l % 100) - nI (dA A (l / 100) j) from Int32.not_le.mpr (pk_sneg (by omega) (by omega))), qb1_some, if_neg c]
    rfl
noncomputable def Lb (A : qN) (l : Nat) : Bool := decide (l % 100 < 24) && fiB (dA A) A (l / 100) (l % 100) (A 11 4)
theorem fiB_mo {D : Nat → Nat → Nat} {A : qN} {g n k : Nat} (h : ¬ fiB D A g n k = true) : ∀ d, ¬ fiB D A g n (k + d) = true
  | 0 => h
  | d + 1 => fun z => by
    have z2 : (fiB D A g n (k + d) && decide (he (D (A 8 (k + d)) g) n = A 9 (k + d))) = true := z
    rw [Bool.and_eq_true] at z2
    exact fiB_mo h d z2.1
theorem tn_eq : ∀ s, s < 25 → ∀ t, t < 25 → ((nI s - 1 = nI t - 1) ↔ s = t) := by decide +kernel
theorem isLost_eq {M : qM} {A : qN} (h : qDm M A) (hw : qW A) (ha : qAp2 M A) {l : Nat} (hl : l < 1000) : kX8_isLost M (nI l) = some (if Lb A l = true then 1 else 0) := by
  unfold kX8_isLost
  have si := hw.si
  have hg : l / 100 < 10 := by omega
  refine qOk_eq ?_
  have e0 : (if (24 : Int32) ≤ nI l - nI l / 100 * 100 then some (0 : Int32) else some 1) = some (if (decide (l % 100 < 24) && fiB (dA A) A (l / 100) (l % 100) 0) = true then 1 else 0) := by
    rw [show nI l - nI l / 100 * 100 = nI (l % 100) from pk_rem (d := 100) (by omega) (by omega) (by omega)]
    by_cases c : l % 100 < 24
    · rw [if_neg (show ¬ (24 : Int32) ≤ nI (l % 100) from nI_ge (b := 24) c (by decide)), decide_eq_true c]
      rfl
    · rw [if_pos (show (24 : Int32) ≤ nI (l % 100) from nI_le (a := 24) (by omega) (by omega)), decide_eq_false c]
      rfl
  rw [e0, qb1_some, qOk_b1]
  refine qlp_for (fun k s => s = ((if (decide (l % 100 < 24) && fiB (dA A) A (l / 100) (l % 100) k) = true then 1 else 0), nI k)) (A 11 4) (by omega) rfl ?_ ?_
  · rintro k s hk rfl
    show qOk (kX8_isLost_L17 M (nI l) (if (decide (l % 100 < 24) && fiB (dA A) A (l / 100) (l % 100) k) = true then 1 else 0) (nI k)) _
    unfold kX8_isLost_L17
    have sp := hw.sp k hk
    have sn := hw.sn.1 k hk
    rw [show M 0 9 = nI (A 11 4) from h.si, if_neg (nI_ge hk (by omega))]
    by_cases b : (decide (l % 100 < 24) && fiB (dA A) A (l / 100) (l % 100) k) = true
    · have b2 := b
      rw [Bool.and_eq_true] at b2
      have hn : l % 100 < 24 := of_decide_eq_true b2.1
      have hh := he_le (d := dA A (l / 100) (A 8 k)) hn
      rw [if_pos b, if10, show (2 : Int32) * nI k = nI (2 * k) from pk_mul 2 k, qrd_k (show 2 * k < 16 by omega) (by omega), h.sp k hk, noteIn_eq ha hl sp, qb1_some, nI_1, qrd_k (show 2 * k + 1 < 16 by omega) (by omega), h.sn k hk]
      have e1 : fiB (dA A) A (l / 100) (l % 100) (k + 1) = decide (he (dA A (l / 100) (A 8 k)) (l % 100) = A 9 k) := by
        show (fiB (dA A) A (l / 100) (l % 100) k && decide (he (dA A (A 8 k) (l / 100)) (l % 100) = A 9 k)) = _
        rw [b2.2, Bool.true_and, dA_sy hw sp hg]
      by_cases c : he (dA A (l / 100) (A 8 k)) (l % 100) = A 9 k
      · rw [if_pos ((tn_eq _ hh _ (by omega)).mpr c), qb1_some, qvl_eq, nI_1, qOk_some]
        show (_, _) = (_, _)
        rw [e1, decide_eq_true hn, decide_eq_true c, if_pos (by decide)]
      · rw [if_neg (fun z => c ((tn_eq _ hh _ (by omega)).mp z)), qb1_some, qvl_eq, nI_1, qOk_some]
        show (_, _) = (_, _)
        rw [e1, decide_eq_true hn, decide_eq_false c, if_neg (by decide)]
    · rw [if_neg b, if00, qOk_some]
      show qOk (qbl 0 (some 0)) _
      rw [qbl_0, qOk_some]
      have : ¬ Lb A l = true := fun z => b (by
        unfold Lb at z
        rw [Bool.and_eq_true] at z ⊢
        refine ⟨z.1, ?_⟩
        rcases Classical.em (fiB (dA A) A (l / 100) (l % 100) k = true) with w | w
        · exact w
        · have := fiB_mo w (A 11 4 - k)
          rw [show k + (A 11 4 - k) = A 11 4 by omega] at this
          exact absurd z.2 this)
      rw [if_neg this]
  · rintro s rfl
    show qOk (kX8_isLost_L17 M (nI l) (if (decide (l % 100 < 24) && fiB (dA A) A (l / 100) (l % 100) (A 11 4)) = true then 1 else 0) (nI (A 11 4))) _
    unfold kX8_isLost_L17
    rw [show M 0 9 = nI (A 11 4) from h.si, if_pos (nI_le (Nat.le_refl _) (by omega)), qOk_some]
    show qOk (qbl (if Lb A l = true then 1 else 0) (some (if Lb A l = true then 1 else 0))) _
    rw [qbl_01, qOk_some]
theorem Lb_lo {A : qN} (hw : qW A) {g n : Nat} (hn : n < 24) : Lb A (100 * g + n) = (fF (dA A) A g (A 11 4)).testBit n := by
  unfold Lb
  rw [show (100 * g + n) % 100 = n by omega, show (100 * g + n) / 100 = g by omega, decide_eq_true hn, Bool.true_and, fF_bit hw hn _ (Nat.le_refl _)]
theorem Lb_hi {A : qN} {g n : Nat} (h1 : 24 ≤ n) (h2 : n < 100) : ¬ Lb A (100 * g + n) = true := by
  unfold Lb
  rw [show (100 * g + n) % 100 = n by omega, decide_eq_false (by omega), Bool.false_and]
  decide
