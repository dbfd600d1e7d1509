/-! listen: how many are left by what one hears -/
noncomputable def hp (A : qN) (g j : Nat) (l : Nat) : Bool := Lb A l && decide (he (dA A g (l / 100)) (l % 100) = j)
def mx (f : Nat → Nat) : Nat → Nat
  | 0 => 0
  | k + 1 => max (mx f k) (f k)
theorem mx_ge {f : Nat → Nat} : ∀ {n j}, j < n → f j ≤ mx f n
  | 0, j, h => by omega
  | n + 1, j, h => by
    show f j ≤ max (mx f n) (f n)
    by_cases e : j = n
    · rw [e]
      exact Nat.le_max_right _ _
    · exact Nat.le_trans (mx_ge (show j < n by omega)) (Nat.le_max_left _ _)
theorem mx_le {f : Nat → Nat} {c : Nat} : ∀ {n}, (∀ j, j < n → f j ≤ c) → mx f n ≤ c
  | 0, _ => Nat.zero_le _
  | n + 1, h => Nat.max_le.mpr ⟨mx_le (fun j hj => h j (by omega)), h n (by omega)⟩
theorem mx_cg {f f' : Nat → Nat} : ∀ {n}, (∀ j, j < n → f' j = f j) → mx f' n = mx f n
  | 0, _ => rfl
  | n + 1, h => by
    show max (mx f' n) (f' n) = max (mx f n) (f n)
    rw [mx_cg (fun j hj => h j (by omega)), h n (by omega)]
theorem mx_up {f f' : Nat → Nat} {n i : Nat} (hi : i < n) (h : ∀ j, j < n → j ≠ i → f' j = f j) (hf : f i ≤ f' i) : mx f' n = max (mx f n) (f' i) := by
  apply Nat.le_antisymm
  · refine mx_le (fun j hj => ?_)
    by_cases e : j = i
    · rw [e]
      exact Nat.le_max_right _ _
    · rw [h j hj e]
      exact Nat.le_trans (mx_ge hj) (Nat.le_max_left _ _)
  · refine Nat.max_le.mpr ⟨mx_le (fun j hj => ?_), mx_ge hi⟩
    by_cases e : j = i
    · rw [e]
      exact Nat.le_trans hf (mx_ge hi)
    · rw [← h j hj e]
      exact mx_ge hj
noncomputable def wG (A : qN) (g : Nat) : Nat := mx (fun j => hcn (hp A g j) 1000) 25
theorem hp_no {A : qN} {g j l : Nat} (h : ¬ Lb A l = true) : ¬ hp A g j l = true := fun z => by
  unfold hp at z
  rw [Bool.and_eq_true] at z
  exact h z.1
theorem hp_y {A : qN} {g j l : Nat} (h : Lb A l = true) (e : he (dA A g (l / 100)) (l % 100) = j) : hp A g j l = true := by
  unfold hp
  rw [h, decide_eq_true e]
  rfl
theorem hp_x {A : qN} {g j l : Nat} (e : he (dA A g (l / 100)) (l % 100) ≠ j) : ¬ hp A g j l = true := fun z => by
  unfold hp at z
  rw [Bool.and_eq_true] at z
  exact e (of_decide_eq_true z.2)
theorem hp_row {A : qN} {g j h : Nat} : hcn (hp A g j) (100 * h + 24) = hcn (hp A g j) (100 * (h + 1)) := by
  rw [show 100 * (h + 1) = 100 * h + 24 + 76 by omega]
  exact (hcn_no 76 (fun n hn => by rw [show 100 * h + 24 + n = 100 * h + (24 + n) by omega]; exact hp_no (Lb_hi (by omega) (by omega)))).symm
theorem count_in {N : qM} {A : qN} (hw : qW A) {g h d : Nat} (hd : d < 10) (e : dA A g h = d) (hl : ∀ j, j < 25 → N 69 j = nI (hcn (hp A g j) (100 * h))) : qOk (qlp (S := Int32 × qM) (E := (qM)) (fun s => kX3_countHeard_L20 (nI (fF (dA A) A h (A 11 4))) (nI d) s.1 s.2) qFu (0, N)) (fun T => (∀ c, c ≠ 69 → T c = N c) ∧ ∀ j, j < 25 → T 69 j = nI (hcn (hp A g j) (100 * h + 24))) := by
  have fl := fam_lt (fF_fam hw (g := h) (A 11 4) (Nat.le_refl _))
  refine qlp_for (fun n s => ∃ T, s = (nI n, T) ∧ (∀ c, c ≠ 69 → T c = N c) ∧ ∀ j, j < 25 → T 69 j = nI (hcn (hp A g j) (100 * h + n))) 24 (by omega) ⟨N, rfl, fun _ _ => rfl, hl⟩ ?_ ?_
  · rintro n s hn ⟨T, rfl, t1, t2⟩
    show qOk (kX3_countHeard_L20 (nI (fF (dA A) A h (A 11 4))) (nI d) (nI n) T) _
    unfold kX3_countHeard_L20
    have eb := Lb_lo hw (g := h) hn
    have hx := he_le (d := d) hn
    have ed : dA A g ((100 * h + n) / 100) = d := by rw [show (100 * h + n) / 100 = h by omega]; exact e
    have em : (100 * h + n) % 100 = n := by omega
    rw [if_neg (show ¬ (24 : Int32) ≤ nI n from nI_ge (b := 24) hn (by decide)), X7_has_eq (by omega) (by omega), qb1_some]
    by_cases c : (fF (dA A) A h (A 11 4)).testBit n = true
    · have ei : (if nI d ≤ nI n then some ((1 + nI n) - nI d) else some (0 : Int32)) = some (nI (he d n)) := by
        unfold he
        by_cases q : d ≤ n
        · rw [if_pos (nI_le q (by omega)), if_pos q, show (1 : Int32) + nI n = nI (1 + n) from nI_add 1 n, pk_sub (by omega), show 1 + n - d = n - d + 1 by omega]
        · rw [if_neg (nI_ge (by omega) (by omega)), if_neg q]
          rfl
      rw [if_pos c, if10, ei, qb1_some, qrd_k hx (by omega), t2 _ hx, nI_1, qwr_k hx (by omega), qb1_some, qvl_eq, nI_1, qOk_some]
      refine ⟨_, rfl, fun c hc => by rw [qst_n hc, t1 c hc], fun j hj => ?_⟩
      rw [qst_at]
      by_cases q : j = he d n
      · rw [if_pos q, q]
        have := hcn_y (hp_y (A := A) (g := g) (j := he d n) (l := 100 * h + n) (by rw [eb]; exact c) (by rw [ed, em]))
        rw [show 100 * h + (n + 1) = 100 * h + n + 1 by omega, this]
      · rw [if_neg q, t2 j hj]
        have := hcn_n (hp_x (A := A) (g := g) (j := j) (l := 100 * h + n) (by rw [ed, em]; exact fun z => q z.symm))
        rw [show 100 * h + (n + 1) = 100 * h + n + 1 by omega, this]
    · rw [if_neg c, if00, qb1_some, qvl_eq, nI_1, qOk_some]
      refine ⟨T, rfl, t1, fun j hj => ?_⟩
      have := hcn_n (hp_no (A := A) (g := g) (j := j) (l := 100 * h + n) (by rw [eb]; exact c))
      rw [show 100 * h + (n + 1) = 100 * h + n + 1 by omega, this]
      exact t2 j hj
  · rintro s ⟨T, rfl, t1, t2⟩
    show qOk (kX3_countHeard_L20 (nI (fF (dA A) A h (A 11 4))) (nI d) (nI 24) T) _
    unfold kX3_countHeard_L20
    rw [if_pos (show (24 : Int32) ≤ nI 24 from by decide), qOk_some]
    exact ⟨t1, t2⟩
theorem countHeard_eq {N : qM} {A : qN} (hw : qW A) {g h : Nat} {x : Int32} (hx : (dA A g h < 10 ∧ x = nI (dA A g h)) ∨ (dA A g h = 1000000 ∧ x = -6)) (hl : ∀ j, j < 25 → N 69 j = nI (hcn (hp A g j) (100 * h))) : qOk (kX3_countHeard N (nI (fF (dA A) A h (A 11 4))) x) (fun T => (∀ c, c ≠ 69 → T c = N c) ∧ ∀ j, j < 25 → T 69 j = nI (hcn (hp A g j) (100 * (h + 1)))) := by
  unfold kX3_countHeard
  rcases hx with ⟨a, e⟩ | ⟨a, e⟩
  · rw [e, if_pos (nI_pos' (by omega)), qOk_b1]
    refine qOk.m (count_in hw a rfl hl) (fun T ⟨t1, t2⟩ => ?_)
    rw [qOk_some]
    exact ⟨t1, fun j hj => by rw [t2 j hj, hp_row]⟩
  · rw [e, if_neg (by decide), show (0 : Int32) = nI 0 from rfl, qrd_k (show 0 < 25 by omega) (by omega), hl 0 (by omega), fam_count (fF_fam hw _ (Nat.le_refl _)), qb1_some, nI_add, qwr_k (show 0 < 25 by omega) (by omega), qOk_some]
    refine ⟨fun c hc => by rw [qst_n hc], fun j hj => ?_⟩
    have eh : ∀ n, n < 24 → he (dA A g ((100 * h + n) / 100)) ((100 * h + n) % 100) = 0 := fun n hn => by
      rw [show (100 * h + n) / 100 = h by omega, show (100 * h + n) % 100 = n by omega, a]
      unfold he
      rw [if_neg (by omega)]
    rw [qst_at, ← hp_row]
    by_cases q : j = 0
    · have e0 : hcn (hp A g 0) (100 * h + 24) = hcn (hp A g 0) (100 * h) + hcn (fF (dA A) A h (A 11 4)).testBit 24 := hcn_sh 24 (fun n hn => by
        unfold hp
        rw [eh n hn, decide_eq_true rfl, Bool.and_true]
        exact Lb_lo hw hn)
      rw [if_pos q, q, e0]
    · rw [if_neg q, hl j hj, hcn_no 24 (fun n hn => hp_x (by rw [eh n hn]; exact fun z => q z.symm))]
theorem mostLeft_eq {M : qM} {A : qN} (hw : qW A) {g : Nat} (hf : ∀ h, h < 10 → M 68 h = nI (fF (dA A) A h (A 11 4))) (hr : ∀ h, h < 10 → (dA A g h < 10 ∧ M (66 + 1) h = nI (dA A g h)) ∨ (dA A g h = 1000000 ∧ M (66 + 1) h = -6)) : qOk2 (kX3_mostLeftHere M) (fun r N => r = nI (wG A g) ∧ ∀ c, c ≠ 69 → N c = M c) := by
  unfold kX3_mostLeftHere
  rw [qOk2_b1]
  refine qOk.m (J7_fill_eq M 69 25 0 (by omega)) (fun M1 ⟨f1, f2⟩ => ?_)
  rw [qOk2_b1]
  have l10 : qOk (qlp (S := Int32 × qM) (E := (qM)) (fun s => kX3_mostLeftHere_L10 s.1 s.2) qFu (0, M1)) (fun N => (∀ c, c ≠ 69 → N c = M c) ∧ ∀ j, j < 25 → N 69 j = nI (hcn (hp A g j) 1000)) := by
    refine qlp_for (fun h s => ∃ N, s = (nI h, N) ∧ (∀ c, c ≠ 69 → N c = M c) ∧ ∀ j, j < 25 → N 69 j = nI (hcn (hp A g j) (100 * h))) 10 (by omega) ⟨M1, rfl, f1, fun j hj => by rw [f2 j hj]; rfl⟩ ?_ ?_
    · rintro h s hh ⟨N, rfl, n1, n2⟩
      show qOk (kX3_mostLeftHere_L10 (nI h) N) _
      unfold kX3_mostLeftHere_L10
      rw [if_neg (show ¬ (10 : Int32) ≤ nI h from nI_ge (b := 10) hh (by decide)), qrd_k hh (by omega), n1 68 (by decide), hf h hh, qrd_k hh (by omega), n1 (66 + 1) (by decide), qOk_b1]
      refine qOk.m (countHeard_eq hw (hr h hh) n2) (fun T ⟨t1, t2⟩ => ?_)
      rw [qvl_eq, qOk_some]
      exact ⟨T, by rw [nI_succ h], fun c hc => by rw [t1 c hc, n1 c hc], t2⟩
    · rintro s ⟨N, rfl, n1, n2⟩
      show qOk (kX3_mostLeftHere_L10 (nI 10) N) _
      unfold kX3_mostLeftHere_L10
      rw [if_pos (show (10 : Int32) ≤ nI 10 from by decide), qOk_some]
      exact ⟨n1, n2⟩
  refine qOk.m l10 (fun N ⟨n1, n2⟩ => ?_)
  rw [qOk2_b1]
  have l45 : qOk (qlp (S := Int32 × Int32) (E := (Int32)) (fun s => kX3_mostLeftHere_L45 N s.1 s.2) qFu (0, 0)) (fun r => r = nI (wG A g)) := by
    refine qlp_for (fun k s => s = (nI (mx (fun j => hcn (hp A g j) 1000) k), nI k)) 25 (by omega) rfl ?_ ?_
    · rintro k s hk rfl
      show qOk (kX3_mostLeftHere_L45 N (nI (mx (fun j => hcn (hp A g j) 1000) k)) (nI k)) _
      unfold kX3_mostLeftHere_L45
      have b1 := hcn_le (hp A g k) 1000
      have b2 := mx_le (f := fun j => hcn (hp A g j) 1000) (c := 1000) (n := k) (fun j _ => hcn_le _ _)
      rw [if_neg (show ¬ (24 : Int32) < nI k from nI_nlt (a := 24) (b := k) (by omega) (by omega)), qrd_k hk (by omega), n2 k hk, max_nI (by omega) (by omega), qvl_eq, qvl_eq, nI_1, qOk_some]
      rfl
    · rintro s rfl
      show qOk (kX3_mostLeftHere_L45 N (nI (mx (fun j => hcn (hp A g j) 1000) 25)) (nI 25)) _
      unfold kX3_mostLeftHere_L45
      rw [if_pos (show (24 : Int32) < nI 25 from by decide), qOk_some]
      rfl
  refine qOk.m l45 (fun r hr2 => ?_)
  rw [hr2, qOk2_some]
  exact ⟨rfl, n1⟩
/-- the first gallery with the least number, of 0 to k -/
def bm (w : Nat → Nat) : Nat → Nat × Nat
  | 0 => (0, w 0)
  | k + 1 => if w (k + 1) < (bm w k).2 then (k + 1, w (k + 1)) else bm w k
theorem bm_le (w : Nat → Nat) {c : Nat} (h : ∀ k, w k ≤ c) : ∀ k, (bm w k).1 ≤ k ∧ (bm w k).2 ≤ c
  | 0 => ⟨Nat.le_refl _, h 0⟩
  | k + 1 => by
    have := bm_le w h k
    show ((if w (k + 1) < (bm w k).2 then (k + 1, w (k + 1)) else bm w k)).1 ≤ k + 1 ∧ ((if w (k + 1) < (bm w k).2 then (k + 1, w (k + 1)) else bm w k)).2 ≤ c
    by_cases d : w (k + 1) < (bm w k).2
    · rw [if_pos d]
      exact ⟨Nat.le_refl _, h (k + 1)⟩
    · rw [if_neg d]
      exact ⟨by omega, this.2⟩
theorem wG_le {A : qN} (g : Nat) : wG A g ≤ 1000 := mx_le (fun _ _ => hcn_le _ _)
theorem choose_eq {M : qM} {A : qN} (h : qC 1 M A) (hw : qW A) (hf : ∀ g, g < 10 → M 68 g = nI (fF (dA A) A g (A 11 4))) : qOk (kX3_chooseListening M 1) (fun N => (∀ c, c ≠ 65 → c ≠ 67 → c ≠ 69 → N c = M c) ∧ N 65 3 = nI (bm (wG A) 9).1 ∧ N 65 4 = nI (bm (wG A) 9).2) := by
  unfold kX3_chooseListening
  rw [qvl_eq, qvl_eq, qOk_b1]
  refine qlp_for (fun g s => ∃ N, s = (nI g, N) ∧ (∀ c, c ≠ 65 → c ≠ 67 → c ≠ 69 → N c = M c) ∧ ((g = 0 ∧ N 65 3 = -6) ∨ ∃ k, g = k + 1 ∧ N 65 3 = nI (bm (wG A) k).1 ∧ N 65 4 = nI (bm (wG A) k).2)) 10 (by omega) ⟨_, rfl, fun c a _ _ => by rw [qst_n a, qst_n a], Or.inl ⟨rfl, by rw [qst_at, if_neg (by decide), qst_at, if_pos rfl]⟩⟩ ?_ ?_
  · rintro g s hg ⟨N, rfl, n1, n2⟩
    show qOk (kX3_chooseListening_L14 1 (nI g) N) _
    unfold kX3_chooseListening_L14
    have hc : qC 1 N A := h.same (fun c _ _ => n1 c (by omega) (by omega) (by omega))
    rw [if_neg (show ¬ (10 : Int32) ≤ nI g from nI_ge (b := 10) hg (by decide)), show N 1 4 = nI (A 11 2) from hc.cl, show (1023 : Int32) = nI 1023 from rfl, andnot (by omega), show 1023 &&& (A 11 2 ^^^ 1023) = oX A from rfl, qOk_b1]
    refine qOk.m (X6_measure_eq (b0 := 66) (k2 := 1 + 1) hc.ps hw.ps (by decide) oX_lt hg) (fun Q ⟨q1, q2⟩ => ?_)
    rw [qOk_b2']
    refine qOk2.m (mostLeft_eq hw (g := g) (fun h hh => by rw [q1 68 (by decide), n1 68 (by decide) (by decide) (by decide)]; exact hf h hh) (fun h hh => fr_1 q2 hh)) (fun r T ⟨t1, t2⟩ => ?_)
    have u3 : T 65 3 = N 65 3 := by rw [t2 65 (by decide), q1 65 (by decide)]
    have u4 : T 65 4 = N 65 4 := by rw [t2 65 (by decide), q1 65 (by decide)]
    have uT : ∀ c, c ≠ 65 → c ≠ 67 → c ≠ 69 → T c = M c := fun c a b d => by rw [t2 c d, q1 c b, n1 c a b d]
    have wl := wG_le (A := A) g
    rw [t1, u3, u4]
    rcases n2 with ⟨g0, n3⟩ | ⟨k, gk, n3, n4⟩
    · rw [n3, if_pos rfl, qvl_eq, qvl_eq, qb1_some, qvl_eq, nI_1, qOk_some]
      refine ⟨_, rfl, fun c a b d => by rw [qst_n a, qst_n a, uT c a b d], Or.inr ⟨0, by omega, ?_, ?_⟩⟩
      · rw [qst_at, if_neg (by decide), qst_at, if_pos rfl, g0]
        rfl
      · rw [qst_at, if_pos rfl, g0]
        rfl
    · have bl := bm_le (wG A) wG_le k
      rw [n3, n4, if_neg (nI_m6 (by omega))]
      by_cases d : wG A (k + 1) < (bm (wG A) k).2
      · have e : bm (wG A) (k + 1) = (k + 1, wG A (k + 1)) := if_pos d
        rw [gk, if_neg (nI_ge d (by omega)), qvl_eq, qvl_eq, qb1_some, qvl_eq, nI_1, qOk_some]
        refine ⟨_, rfl, fun c a b d => by rw [qst_n a, qst_n a, uT c a b d], Or.inr ⟨k + 1, rfl, ?_, ?_⟩⟩
        · rw [qst_at, if_neg (by decide), qst_at, if_pos rfl, e]
        · rw [qst_at, if_pos rfl, e]
      · have e : bm (wG A) (k + 1) = bm (wG A) k := if_neg d
        rw [gk, if_pos (nI_le (by omega) (by have := wG_le (A := A) (k + 1); omega)), qb1_some, qvl_eq, nI_1, qOk_some]
        exact ⟨T, rfl, uT, Or.inr ⟨k + 1, rfl, by rw [e, u3]; exact n3, by rw [e, u4]; exact n4⟩⟩
  · rintro s ⟨N, rfl, n1, n2⟩
    show qOk (kX3_chooseListening_L14 1 (nI 10) N) _
    unfold kX3_chooseListening_L14
    rw [if_pos (show (10 : Int32) ≤ nI 10 from by decide), qOk_some]
    show qOk (some N) _
    rw [qOk_some]
    rcases n2 with ⟨g0, -⟩ | ⟨k, gk, n3, n4⟩
    · omega
    · have : k = 9 := by omega
      subst this
      exact ⟨n1, n3, n4⟩
