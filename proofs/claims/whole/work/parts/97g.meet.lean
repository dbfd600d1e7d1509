theorem fb_holes : ∀ (m n : Nat) (f : Nat → Nat), (∀ i, i < n → f i < m) → (∀ i j, i < j → j < n → f i ≠ f j) → n ≤ m := by
  intro m
  induction m with
  | zero =>
    intro n f h1 _
    rcases Nat.eq_zero_or_pos n with h | h
    · omega
    · exact absurd (h1 0 h) (Nat.not_lt_zero _)
  | succ m ih =>
    intro n f h1 h2
    by_cases hx : ∃ i, i < n ∧ f i = m
    · obtain ⟨a, ha, hfa⟩ := hx
      have hg := ih (n - 1) (fun i => if i < a then f i else f (i + 1)) (by
        intro i hi
        by_cases q : i < a
        · simp only [if_pos q]
          have b1 := h1 i (by omega)
          have b2 := h2 i a q ha
          omega
        · simp only [if_neg q]
          have b1 := h1 (i + 1) (by omega)
          have b2 := h2 a (i + 1) (by omega) (by omega)
          omega) (by
        intro i j hij hj
        by_cases q : i < a
        · by_cases r : j < a
          · simp only [if_pos q, if_pos r]
            exact h2 i j hij (by omega)
          · simp only [if_pos q, if_neg r]
            exact h2 i (j + 1) (by omega) (by omega)
        · have r : ¬ j < a := by omega
          simp only [if_neg q, if_neg r]
          exact h2 (i + 1) (j + 1) (by omega) (by omega))
      omega
    · have hg := ih n f (fun i hi => by
        have b1 := h1 i hi
        have b2 : f i ≠ m := fun e => hx ⟨i, hi, e⟩
        omega) h2
      omega
/-! hold: the class meets its states -/
def qMe (M : qM) (m : Nat) (t : Nat → Nat) : Prop := M 70 4 = nI m ∧ (∀ i, i < m → M 74 i = nI (t i) ∧ t i < 300) ∧ (∀ i j, i < j → j < m → t i ≠ t j) ∧ (∀ c, c < 300 → (M 73 c = -6 ∧ ∀ i, i < m → t i ≠ c) ∨ (M 73 c = 0 ∧ ∃ i, i < m ∧ t i = c))
theorem qMe.le {M : qM} {m : Nat} {t : Nat → Nat} (h : qMe M m t) : m ≤ 300 := fb_holes 300 m t (fun i hi => (h.2.1 i hi).2) h.2.2.1
def hF (M N : qM) : Prop := ∀ c, c < 70 ∨ c = 71 ∨ c = 72 → N c = M c
theorem hF.tr {M N O : qM} (h : hF M N) (g : hF N O) : hF M O := fun c hc => (g c hc).trans (h c hc)
theorem hF.sr {M N : qM} (h : hF M N) {s r : Nat → Nat} (g : qSR M s r) : qSR N s r := ⟨fun v hv => by rw [h 71 (by omega)]; exact g.1 v hv, fun v hv => by rw [h 72 (by omega)]; exact g.2 v hv⟩
/-- more of the same -/
def mEx (m : Nat) (t : Nat → Nat) (m' : Nat) (t' : Nat → Nat) : Prop := m ≤ m' ∧ ∀ i, i < m → t' i = t i
theorem mEx.has {m m' : Nat} {t t' : Nat → Nat} (h : mEx m t m' t') {c : Nat} (g : ∃ i, i < m ∧ t i = c) : ∃ i, i < m' ∧ t' i = c := by
  obtain ⟨i, a, b⟩ := g
  exact ⟨i, Nat.lt_of_lt_of_le a h.1, by rw [h.2 i a]; exact b⟩
theorem meet_eq {M : qM} {m : Nat} {t : Nat → Nat} (h : qMe M m t) {c : Nat} (hc : c < 300) : qOk (kX5_meet M (nI c)) (fun N => hF M N ∧ ∃ m' t', qMe N m' t' ∧ mEx m t m' t' ∧ ∃ i, i < m' ∧ t' i = c) := by
  unfold kX5_meet
  have hm := h.le
  obtain ⟨h1, h2, h3, h4⟩ := h
  rw [if_neg (nI_pos (by omega)), if_neg (show ¬ (300 : Int32) ≤ nI c from nI_ge (b := 300) hc (by decide)), qrd_k hc (by omega)]
  rcases h4 c hc with ⟨a, b⟩ | ⟨a, b⟩
  · have hm2 : m < 300 := by
      rcases Nat.lt_or_ge m 300 with z | z
      · exact z
      · have := fb_holes 300 301 (fun i => if i < 300 then t i else c) (fun i hi => by
          try dsimp only
          split
          · rename_i w
            exact (h2 i (by omega)).2
          · exact hc) (fun i j hij hj => by
          try dsimp only
          by_cases w : j < 300
          · rw [if_pos (show i < 300 by omega), if_pos w]
            exact h3 i j hij (by omega)
          · rw [if_pos (show i < 300 by omega), if_neg w]
            exact b i (by omega))
        omega
    rw [a, if_pos rfl, h1, if_neg (show ¬ (300 : Int32) ≤ nI m from nI_ge (b := 300) hm2 (by decide)), qwr_k hc (by omega)]
    have e1 : qst M 73 c 0 70 4 = nI m := by rw [qst_n (by decide)]; exact h1
    rw [e1, qwr_k hm2 (by omega), qst_n (show (70 : Nat) ≠ 74 by decide), e1, nI_1, qvl_eq, qb1_some, qOk_some]
    refine ⟨fun k hk => by rw [qst_n (by omega), qst_n (by omega), qst_n (by omega)], m + 1, fun i => if i = m then c else t i, ⟨by rw [qst_at, if_pos rfl], fun i hi => ?_, fun i j hij hj => ?_, fun k hk => ?_⟩, ⟨by omega, fun i hi => if_neg (by omega)⟩, m, by omega, if_pos rfl⟩
    · try dsimp only
      rw [qst_n (by decide), qst_at]
      by_cases e : i = m
      · rw [if_pos e, if_pos e]
        exact ⟨rfl, hc⟩
      · rw [if_neg e, if_neg e, qst_n (by decide)]
        exact h2 i (by omega)
    · try dsimp only
      by_cases e : j = m
      · rw [if_pos e, if_neg (show ¬ i = m by omega)]
        exact b i (by omega)
      · rw [if_neg e, if_neg (show ¬ i = m by omega)]
        exact h3 i j hij (by omega)
    · try dsimp only
      rw [qst_n (by decide), qst_n (by decide), qst_at]
      by_cases e : k = c
      · rw [if_pos e]
        exact Or.inr ⟨rfl, m, by omega, by rw [if_pos rfl]; exact e.symm⟩
      · rw [if_neg e]
        rcases h4 k hk with ⟨u, w⟩ | ⟨u, i, w, z⟩
        · refine Or.inl ⟨u, fun i hi => ?_⟩
          by_cases e2 : i = m
          · rw [if_pos e2]
            exact fun z => e z.symm
          · rw [if_neg e2]
            exact w i (by omega)
        · exact Or.inr ⟨u, i, by omega, by rw [if_neg (by omega)]; exact z⟩
  · rw [a, if_neg (by decide), qb1_some, qOk_some]
    exact ⟨fun _ _ => rfl, m, t, ⟨h1, h2, h3, h4⟩, ⟨Nat.le_refl _, fun _ _ => rfl⟩, b⟩
theorem meet_no {M : qM} : kX5_meet M (-6) = some M := by
  unfold kX5_meet
  rw [if_pos (by decide), qb1_some]
/-- the states behind t i are met -/
def mCl (s r : Nat → Nat) (m : Nat) (t : Nat → Nat) (i v : Nat) : Prop := dg (tr r (t i)) v = 0 → ∃ j, j < m ∧ t j = cs s r (t i) v
theorem meet_54 {M : qM} {s r : Nat → Nat} (h : hOk s r) (hM : qSR M s r) {m : Nat} {t : Nat → Nat} (hq : qMe M m t) {k : Nat} (hk : k < m) : qOk (qlp (S := Int32 × qM) (E := (qM)) (fun st => kX5_meetStates_L54 (nI k) st.1 st.2) qFu (0, M)) (fun N => hF M N ∧ ∃ m' t', qMe N m' t' ∧ mEx m t m' t' ∧ ∀ v, v < 3 → mCl s r m' t' k v) := by
  refine qlp_for (fun v st => ∃ N, st = (nI v, N) ∧ hF M N ∧ ∃ m' t', qMe N m' t' ∧ mEx m t m' t' ∧ ∀ u, u < v → mCl s r m' t' k u) 3 (by omega) ⟨M, rfl, fun _ _ => rfl, m, t, hq, ⟨Nat.le_refl _, fun _ _ => rfl⟩, fun u hu => by omega⟩ ?_ ?_
  · rintro v st hv ⟨N, rfl, n1, m', t', q1, q2, q3⟩
    show qOk (kX5_meetStates_L54 (nI k) (nI v) N) _
    unfold kX5_meetStates_L54
    have le := q1.le
    have hk2 : k < m' := Nat.lt_of_lt_of_le hk q2.1
    obtain ⟨a, b⟩ := q1.2.1 k hk2
    rw [if_neg (show ¬ (3 : Int32) ≤ nI v from nI_ge (b := 3) hv (by decide)), qrd_k (show k < 300 by omega) (by omega), a, stateBehind_eq h (n1.sr hM) b hv, qb1_some]
    by_cases d : dg (tr r (t' k)) v = 0
    · rw [if_pos d, qOk_b1]
      refine qOk.m (meet_eq q1 (cs_lt h b hv)) (fun O ⟨o1, m2, t2, p1, p2, p3⟩ => ?_)
      rw [qvl_eq, qOk_some]
      have ek : t2 k = t' k := p2.2 k hk2
      refine ⟨O, by rw [nI_succ v], n1.tr o1, m2, t2, p1, ⟨Nat.le_trans q2.1 p2.1, fun i hi => by rw [p2.2 i (Nat.lt_of_lt_of_le hi q2.1), q2.2 i hi]⟩, fun u hu => ?_⟩
      intro du
      rw [ek] at du ⊢
      by_cases e : u = v
      · rw [e]
        exact p3
      · exact p2.has (q3 u (by omega) du)
    · rw [if_neg d, meet_no, qb1_some, qvl_eq, qOk_some]
      refine ⟨N, by rw [nI_succ v], n1, m', t', q1, q2, fun u hu => ?_⟩
      by_cases e : u = v
      · intro du
        rw [e] at du
        exact absurd du d
      · exact q3 u (by omega)
  · rintro st ⟨N, rfl, n1, m', t', q1, q2, q3⟩
    show qOk (kX5_meetStates_L54 (nI k) (nI 3) N) _
    unfold kX5_meetStates_L54
    rw [if_pos (show (3 : Int32) ≤ nI 3 from by decide), qOk_some]
    exact ⟨n1, m', t', q1, q2, q3⟩
theorem meetStates_eq {M : qM} {s r : Nat → Nat} (h : hOk s r) (hM : qSR M s r) : qOk (kX5_meetStates M) (fun N => hF M N ∧ ∃ m t, qMe N m t ∧ (∀ u, u < 3 → ∃ j, j < m ∧ t j = 100 * u) ∧ ∀ i, i < m → ∀ v, v < 3 → mCl s r m t i v) := by
  unfold kX5_meetStates
  rw [qOk_b1]
  refine qOk.m (J7_fill_eq M 73 300 (-6) (by omega)) (fun M1 ⟨f1, f2⟩ => ?_)
  rw [qvl_eq, qOk_b1]
  have l16 : qOk (qlp (S := Int32 × qM) (E := (qM)) (fun st => kX5_meetStates_L16 st.1 st.2) qFu (0, qst M1 70 4 0)) (fun N => hF M N ∧ ∃ m t, qMe N m t ∧ ∀ u, u < 3 → ∃ j, j < m ∧ t j = 100 * u) := by
    refine qlp_for (fun v st => ∃ N, st = (nI v, N) ∧ hF M N ∧ ∃ m t, qMe N m t ∧ ∀ u, u < v → ∃ j, j < m ∧ t j = 100 * u) 3 (by omega) ⟨_, rfl, fun c hc => by rw [qst_n (by omega), f1 c (by omega)], 0, fun _ => 0, ⟨by rw [qst_at, if_pos rfl]; rfl, fun i hi => by omega, fun i j _ hj => by omega, fun c hc => Or.inl ⟨by rw [qst_n (by decide)]; exact f2 c hc, fun i hi => by omega⟩⟩, fun u hu => by omega⟩ ?_ ?_
    · rintro v st hv ⟨N, rfl, n1, m, t, q1, q2⟩
      show qOk (kX5_meetStates_L16 (nI v) N) _
      unfold kX5_meetStates_L16
      rw [if_neg (show ¬ (3 : Int32) ≤ nI v from nI_ge (b := 3) hv (by decide)), show (100 : Int32) * nI v = nI (100 * v) from pk_mul 100 v, qOk_b1]
      refine qOk.m (meet_eq q1 (show 100 * v < 300 by omega)) (fun O ⟨o1, m2, t2, p1, p2, p3⟩ => ?_)
      rw [qvl_eq, qOk_some]
      refine ⟨O, by rw [nI_succ v], n1.tr o1, m2, t2, p1, fun u hu => ?_⟩
      by_cases e : u = v
      · rw [e]
        exact p3
      · exact p2.has (q2 u (by omega))
    · rintro st ⟨N, rfl, n1, m, t, q1, q2⟩
      show qOk (kX5_meetStates_L16 (nI 3) N) _
      unfold kX5_meetStates_L16
      rw [if_pos (show (3 : Int32) ≤ nI 3 from by decide), qOk_some]
      exact ⟨n1, m, t, q1, q2⟩
  refine qOk.m l16 (fun M5 ⟨g1, m0, t0, g2, g3⟩ => ?_)
  rw [qOk_b1]
  have fin : ∀ (N : qM) (m : Nat) (t : Nat → Nat) (k : Nat), hF M N → qMe N m t → (∀ u, u < 3 → ∃ j, j < m ∧ t j = 100 * u) → (∀ i, i < k → i < m → ∀ v, v < 3 → mCl s r m t i v) → m ≤ k → qOk (some N) (fun N => hF M N ∧ ∃ m t, qMe N m t ∧ (∀ u, u < 3 → ∃ j, j < m ∧ t j = 100 * u) ∧ ∀ i, i < m → ∀ v, v < 3 → mCl s r m t i v) := fun N m t k a b c d e => by
    rw [qOk_some]
    exact ⟨a, m, t, b, c, fun i hi => d i (by omega) hi⟩
  refine qlp_for (fun k st => ∃ N, st = (nI k, N) ∧ hF M N ∧ ∃ m t, qMe N m t ∧ (∀ u, u < 3 → ∃ j, j < m ∧ t j = 100 * u) ∧ ∀ i, i < k → i < m → ∀ v, v < 3 → mCl s r m t i v) 300 (by omega) ⟨M5, rfl, g1, m0, t0, g2, g3, fun i hi => by omega⟩ ?_ ?_
  · rintro k st hk ⟨N, rfl, n1, m, t, q1, q2, q3⟩
    show qOk (kX5_meetStates_L37 (nI k) N) _
    unfold kX5_meetStates_L37
    have le := q1.le
    rw [show N 70 4 = nI m from q1.1]
    by_cases d : m ≤ k
    · rw [if_pos (nI_le d (by omega)), qOk_some]
      exact fin N m t k n1 q1 q2 q3 d
    · rw [if_neg (nI_ge (by omega) (by omega)), if_neg (show ¬ (300 : Int32) ≤ nI k from nI_ge (b := 300) hk (by decide)), qOk_b1]
      refine qOk.m (meet_54 h (n1.sr hM) q1 (show k < m by omega)) (fun O ⟨o1, m2, t2, p1, p2, p3⟩ => ?_)
      rw [qvl_eq, qOk_some]
      refine ⟨O, by rw [nI_succ k], n1.tr o1, m2, t2, p1, fun u hu => p2.has (q2 u hu), fun i hi hi2 v hv => ?_⟩
      by_cases e : i = k
      · rw [e]
        exact p3 v hv
      · intro du
        have hi3 : i < m := by omega
        rw [p2.2 i hi3] at du ⊢
        exact p2.has (q3 i (by omega) hi3 v hv du)
  · rintro st ⟨N, rfl, n1, m, t, q1, q2, q3⟩
    show qOk (kX5_meetStates_L37 (nI 300) N) _
    unfold kX5_meetStates_L37
    have le := q1.le
    rw [show N 70 4 = nI m from q1.1, if_pos (nI_le le (by omega)), qOk_some]
    exact fin N m t 300 n1 q1 q2 q3 le
