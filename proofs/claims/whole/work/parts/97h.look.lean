/-! hold: the class looks further -/
def cB (s r : Nat → Nat) (F : Nat → Nat) (c : Nat) : Nat := bV3 s (tr r c) (fun v => F (cs s r c v))
theorem min_I {a : Nat} (ha : a < 2147483648) : (if nI a < 99 then nI a else 99) = nI (min 99 a) := by
  by_cases c : a < 99
  · rw [if_pos (show nI a < 99 from nI_lt (b := 99) c (by decide)), Nat.min_eq_right (by omega)]
  · rw [if_neg (show ¬ nI a < 99 from nI_nlt (b := 99) (by omega) ha), Nat.min_eq_left (by omega)]
    rfl
theorem beatsBehind_eq {M : qM} {s r : Nat → Nat} (h : hOk s r) (hM : qSR M s r) {c : Nat} (hc : c < 300) {F : Nat → Nat} (hF : ∀ v, v < 3 → dg (tr r c) v = 0 → M 73 (cs s r c v) = nI (F (cs s r c v)) ∧ F (cs s r c v) ≤ 99) : kX5_beatsBehind M (nI c) = some (nI (cB s r F c)) := by
  unfold kX5_beatsBehind
  have bd : ∀ k, k ≤ 3 → mx (fun v => if dg (tr r c) v = 0 then s v + F (cs s r c v) else 0) k ≤ 200 := fun k hk => mx_le (fun j hj => by
    try dsimp only
    have a := (h.1 j (by omega)).2
    by_cases d : dg (tr r c) j = 0
    · rw [if_pos d]
      have b := (hF j (by omega) d).2
      omega
    · rw [if_neg d]
      omega)
  refine qOk_eq ?_
  rw [qOk_b1]
  refine qlp_for (fun k st => st = (nI (mx (fun v => if dg (tr r c) v = 0 then s v + F (cs s r c v) else 0) k), nI k)) 3 (by omega) rfl ?_ ?_
  · rintro k st hk rfl
    show qOk (kX5_beatsBehind_L4 M (nI c) (nI (mx (fun v => if dg (tr r c) v = 0 then s v + F (cs s r c v) else 0) k)) (nI k)) _
    unfold kX5_beatsBehind_L4
    have b1 := bd k (by omega)
    have e : mx (fun v => if dg (tr r c) v = 0 then s v + F (cs s r c v) else 0) (k + 1) = max (mx (fun v => if dg (tr r c) v = 0 then s v + F (cs s r c v) else 0) k) (if dg (tr r c) k = 0 then s k + F (cs s r c k) else 0) := rfl
    rw [if_neg (show ¬ (3 : Int32) ≤ nI k from nI_ge (b := 3) hk (by decide)), stateBehind_eq h hM hc hk, qb1_some]
    by_cases d : dg (tr r c) k = 0
    · have cl := cs_lt h hc hk
      obtain ⟨f1, f2⟩ := hF k hk d
      have sk := (h.1 k hk).2
      rw [if_pos d] at e
      rw [if_pos d, if_neg (nI_pos (by omega)), if_neg (show ¬ (300 : Int32) ≤ nI (cs s r c k) from nI_ge (b := 300) cl (by decide)), qrd_k hk (by omega), hM.1 k hk, qrd_k cl (by omega), f1, nI_add, max_nI (by omega) (by omega), qvl_eq, qb1_some, qvl_eq, nI_1, qOk_some]
      show (_, _) = (_, _)
      rw [e]
    · rw [if_neg d, Nat.max_eq_left (Nat.zero_le _)] at e
      rw [if_neg d, if_pos (by decide), qb1_some, qvl_eq, nI_1, qOk_some]
      show (_, _) = (_, _)
      rw [e]
  · rintro st rfl
    show qOk (kX5_beatsBehind_L4 M (nI c) (nI (mx (fun v => if dg (tr r c) v = 0 then s v + F (cs s r c v) else 0) 3)) (nI 3)) _
    unfold kX5_beatsBehind_L4
    have b3 := bd 3 (by omega)
    rw [if_pos (show (3 : Int32) ≤ nI 3 from by decide), qOk_some]
    show qOk (some (if nI (mx (fun v => if dg (tr r c) v = 0 then s v + F (cs s r c v) else 0) 3) < 99 then nI (mx (fun v => if dg (tr r c) v = 0 then s v + F (cs s r c v) else 0) 3) else 99)) _
    rw [qOk_some, min_I (by omega)]
    rfl
/-- how far the values are: at least k moves are seen -/
def qLo (s r : Nat → Nat) (m : Nat) (t : Nat → Nat) (k : Nat) (M : qM) (F : Nat → Nat) : Prop := ∀ i, i < m → M 73 (t i) = nI (F (t i)) ∧ vV s r k (tr r (t i)) ≤ F (t i) ∧ F (t i) ≤ vI s r (tr r (t i))
def qFx (s r : Nat → Nat) (m : Nat) (t : Nat → Nat) (F : Nat → Nat) : Prop := ∀ i, i < m → cB s r F (t i) ≤ F (t i)
section LOOK
variable {s r : Nat → Nat} {m : Nat} {t : Nat → Nat}
theorem cB_lo (h : hOk s r) (ht : ∀ i, i < m → t i < 300) (hc : ∀ i, i < m → ∀ v, v < 3 → mCl s r m t i v) {F : Nat → Nat} {k : Nat} (hl : ∀ i, i < m → vV s r k (tr r (t i)) ≤ F (t i)) {i : Nat} (hi : i < m) : vV s r (k + 1) (tr r (t i)) ≤ cB s r F (t i) := by
  show bV3 s (tr r (t i)) (fun v => vV s r k (nx s r (tr r (t i)) v)) ≤ bV3 s (tr r (t i)) (fun v => F (cs s r (t i) v))
  refine bV3_mo (fun v hv d => ?_)
  obtain ⟨j, a, b⟩ := hc i hi v hv d
  rw [← tr_cs h (ht i hi) hv, ← b]
  exact hl j a
theorem cB_hi (h : hOk s r) (ht : ∀ i, i < m → t i < 300) (hc : ∀ i, i < m → ∀ v, v < 3 → mCl s r m t i v) {F : Nat → Nat} (hl : ∀ i, i < m → F (t i) ≤ vI s r (tr r (t i))) {i : Nat} (hi : i < m) : cB s r F (t i) ≤ vI s r (tr r (t i)) := by
  refine Nat.le_trans ?_ (vI_up h _)
  show bV3 s (tr r (t i)) (fun v => F (cs s r (t i) v)) ≤ bV3 s (tr r (t i)) (fun v => vV s r 99 (nx s r (tr r (t i)) v))
  refine bV3_mo (fun v hv d => ?_)
  obtain ⟨j, a, b⟩ := hc i hi v hv d
  rw [← tr_cs h (ht i hi) hv, ← b]
  exact hl j a
theorem fx_lo (h : hOk s r) (ht : ∀ i, i < m → t i < 300) (hc : ∀ i, i < m → ∀ v, v < 3 → mCl s r m t i v) {F : Nat → Nat} (hx : qFx s r m t F) : ∀ k i, i < m → vV s r k (tr r (t i)) ≤ F (t i)
  | 0, _, _ => Nat.zero_le _
  | k + 1, i, hi => Nat.le_trans (cB_lo h ht hc (fun j hj => fx_lo h ht hc hx k j hj) hi) (hx i hi)
theorem look_eq {M : qM} (h : hOk s r) (hM : qSR M s r) (hm : m ≤ 300) (h4 : M 70 4 = nI m) (h74 : ∀ i, i < m → M 74 i = nI (t i)) (ht : ∀ i, i < m → t i < 300) (hc : ∀ i, i < m → ∀ v, v < 3 → mCl s r m t i v) {k : Nat} {F0 : Nat → Nat} (hl : qLo s r m t k M F0) : qOk2 (kX5_lookFurther M) (fun w N => (∀ c, c ≠ 73 → N c = M c) ∧ ∃ F, qLo s r m t (k + 1) N F ∧ (w = 1 ∨ (w = 0 ∧ qFx s r m t F))) := by
  unfold kX5_lookFurther
  rw [qvl_eq, h4]
  show qOk _ _
  rw [qOk_b2]
  have lp : qOk (qlp (S := Int32 × Int32 × qM) (E := (Int32 × qM)) (fun st => kX5_lookFurther_L9 st.1 st.2.1 st.2.2) qFu (0, nI m - 1, M)) (fun o => (∀ c, c ≠ 73 → o.2 c = M c) ∧ ∃ F, qLo s r m t (k + 1) o.2 F ∧ (o.1 = 1 ∨ (o.1 = 0 ∧ qFx s r m t F))) := by
    refine qlp_for (fun j st => ∃ w N F, st = (w, nI (m - j) - 1, N) ∧ (∀ c, c ≠ 73 → N c = M c) ∧ qLo s r m t k N F ∧ (∀ i, i < m → m - j ≤ i → vV s r (k + 1) (tr r (t i)) ≤ F (t i)) ∧ (w = 1 ∨ (w = 0 ∧ ∀ i, i < m → m - j ≤ i → cB s r F (t i) ≤ F (t i)))) m (by omega) ⟨0, M, F0, rfl, fun _ _ => rfl, hl, fun i hi hj => by omega, Or.inr ⟨rfl, fun i hi hj => by omega⟩⟩ ?_ ?_
    · rintro j st hj ⟨w, N, F, rfl, n1, n2, n3, n4⟩
      show qOk (kX5_lookFurther_L9 w (nI (m - j) - 1) N) _
      unfold kX5_lookFurther_L9
      obtain ⟨i, ei⟩ : ∃ i, m - j = i + 1 := ⟨m - j - 1, by omega⟩
      have hi : i < m := by omega
      have ej : m - (j + 1) = i := by omega
      rw [ei, nI_pred]
      rw [ei] at n3 n4
      have hN : qSR N s r := ⟨fun v hv => by rw [n1 71 (by decide)]; exact hM.1 v hv, fun v hv => by rw [n1 72 (by decide)]; exact hM.2 v hv⟩
      have e74 : N 74 i = nI (t i) := by rw [n1 74 (by decide)]; exact h74 i hi
      have ti := ht i hi
      have bb : kX5_beatsBehind N (nI (t i)) = some (nI (cB s r F (t i))) := beatsBehind_eq h hN ti (fun v hv d => by
        obtain ⟨q, a, b⟩ := hc i hi v hv d
        rw [← b]
        exact ⟨(n2 q a).1, Nat.le_trans (n2 q a).2.2 (vV_99 _ _)⟩)
      have lo := cB_lo h ht hc (fun q hq => (n2 q hq).2.1) hi
      have up := cB_hi h ht hc (fun q hq => (n2 q hq).2.2) hi
      have c99 : cB s r F (t i) ≤ 99 := bV3_le99
      have f99 : F (t i) ≤ 99 := Nat.le_trans (n2 i hi).2.2 (vV_99 _ _)
      have sub1 : nI i + (-1) = nI i - 1 := (Int32.sub_eq_add_neg _ _).symm
      rw [if_neg (nI_pos (by omega)), qrd_k (show i < 300 by omega) (by omega), e74, bb, qb1_some, qrd_k (show i < 300 by omega) (by omega), e74, qrd_k ti (by omega), (n2 i hi).1]
      by_cases d : cB s r F (t i) ≤ F (t i)
      · rw [if_pos (nI_le d (by omega)), qb2_some, qvl_eq, sub1, qOk_some]
        refine ⟨w, N, F, by rw [ej], n1, n2, fun q hq hq2 => ?_, ?_⟩
        · by_cases e : q = i
          · rw [e]
            exact Nat.le_trans lo d
          · exact n3 q hq (by omega)
        · rcases n4 with z | ⟨z, n5⟩
          · exact Or.inl z
          · refine Or.inr ⟨z, fun q hq hq2 => ?_⟩
            by_cases e : q = i
            · rw [e]
              exact d
            · exact n5 q hq (by omega)
      · rw [if_neg (nI_ge (by omega) (by omega)), qrd_k (show i < 300 by omega) (by omega), e74, qwr_k ti (by omega), qb2_some, qvl_eq, sub1, qOk_some]
        refine ⟨1, qst N 73 (t i) (nI (cB s r F (t i))), fun c => if c = t i then cB s r F (t i) else F c, by rw [ej], fun c hc => by rw [qst_n hc, n1 c hc], fun q hq => ?_, fun q hq hq2 => ?_, Or.inl rfl⟩
        · try dsimp only
          rw [qst_at]
          by_cases e : t q = t i
          · rw [if_pos e, if_pos e, e]
            exact ⟨rfl, Nat.le_trans (vV_mo k _) lo, up⟩
          · rw [if_neg e, if_neg e]
            exact n2 q hq
        · try dsimp only
          by_cases e : t q = t i
          · rw [if_pos e, e]
            exact lo
          · rw [if_neg e]
            exact n3 q hq (by
              have : q ≠ i := fun z => e (by rw [z])
              omega)
    · rintro st ⟨w, N, F, rfl, n1, n2, n3, n4⟩
      show qOk (kX5_lookFurther_L9 w (nI (m - m) - 1) N) _
      unfold kX5_lookFurther_L9
      rw [Nat.sub_self, if_pos (show nI 0 - 1 < 0 by decide), qOk_some]
      rw [Nat.sub_self] at n3 n4
      refine ⟨n1, F, fun i hi => ⟨(n2 i hi).1, n3 i hi (Nat.zero_le _), (n2 i hi).2.2⟩, ?_⟩
      rcases n4 with z | ⟨z, n5⟩
      · exact Or.inl z
      · exact Or.inr ⟨z, fun i hi => n5 i hi (Nat.zero_le _)⟩
  refine qOk.m lp (fun o ⟨o1, F, o2, o3⟩ => ?_)
  have ob : qbl o.1 (some (o.1, o.2)) = some (o.1, o.2) := by
    rcases o3 with z | ⟨z, -⟩
    · rw [z, qbl_1]
    · rw [z, qbl_0]
  rw [ob, qOk_some]
  exact ⟨o1, F, o2, o3⟩
end LOOK
theorem settle_eq {M : qM} {x y : Nat} (hx : x < 1000) (hy : y < 1000) (h : hOk (dg x) (dg y)) : qOk (kX5_settle M (nI x) (nI y)) (fun N => (∀ c, c < 70 → N c = M c) ∧ qSR N (dg x) (dg y) ∧ ∀ v, v < 3 → N 73 (100 * v) = nI (vI (dg x) (dg y) (nx (dg x) (dg y) 0 v))) := by
  unfold kX5_settle
  obtain ⟨e1, e2, e3⟩ := dg_I hx
  obtain ⟨f1, f2, f3⟩ := dg_I hy
  rw [e2, e3, e1, f2, f3, f1, show (0 : Int32) = nI 0 from rfl, qwr_k (show 0 < 3 by omega) (by omega), show (1 : Int32) = nI 1 from rfl, qwr_k (show 1 < 3 by omega) (by omega), show (2 : Int32) = nI 2 from rfl, qwr_k (show 2 < 3 by omega) (by omega), qwr_k (show 0 < 3 by omega) (by omega), qwr_k (show 1 < 3 by omega) (by omega), qwr_k (show 2 < 3 by omega) (by omega)]
  obtain ⟨M6, e6⟩ : ∃ M6, M6 = qst (qst (qst (qst (qst (qst M 71 0 (nI (x / 100))) 71 1 (nI (x / 10 % 10))) 71 2 (nI (x % 10))) 72 0 (nI (y / 100))) 72 1 (nI (y / 10 % 10))) 72 2 (nI (y % 10)) := ⟨_, rfl⟩
  rw [← e6]
  have g0 : ∀ c, c < 70 → M6 c = M c := fun c hc => by rw [e6, qst_n (by omega), qst_n (by omega), qst_n (by omega), qst_n (by omega), qst_n (by omega), qst_n (by omega)]
  have g1 : qSR M6 (dg x) (dg y) := by
    refine ⟨fun v hv => ?_, fun v hv => ?_⟩
    · rw [e6, qst_n (show (71 : Nat) ≠ 72 by decide), qst_n (show (71 : Nat) ≠ 72 by decide), qst_n (show (71 : Nat) ≠ 72 by decide)]
      rcases (show v = 0 ∨ v = 1 ∨ v = 2 by omega) with z | z | z <;> subst z
      · rw [qst_at, if_neg (by decide), qst_at, if_neg (by decide), qst_at, if_pos rfl]
        rfl
      · rw [qst_at, if_neg (by decide), qst_at, if_pos rfl]
        rfl
      · rw [qst_at, if_pos rfl]
        rfl
    · rw [e6]
      rcases (show v = 0 ∨ v = 1 ∨ v = 2 by omega) with z | z | z <;> subst z
      · rw [qst_at, if_neg (by decide), qst_at, if_neg (by decide), qst_at, if_pos rfl]
        rfl
      · rw [qst_at, if_neg (by decide), qst_at, if_pos rfl]
        rfl
      · rw [qst_at, if_pos rfl]
        rfl
  rw [qOk_b1]
  refine qOk.m (meetStates_eq h g1) (fun N ⟨n1, m, t, q1, q2, q3⟩ => ?_)
  have le := q1.le
  have hN := n1.sr g1
  have ht : ∀ i, i < m → t i < 300 := fun i hi => (q1.2.1 i hi).2
  have l0 : qLo (dg x) (dg y) m t 0 N (fun _ => 0) := fun i hi => by
    refine ⟨?_, Nat.le_refl 0, Nat.zero_le _⟩
    rcases q1.2.2.2 (t i) (ht i hi) with ⟨-, z⟩ | ⟨z, -⟩
    · exact absurd rfl (z i hi)
    · exact z
  have fin : ∀ (O : qM) (F : Nat → Nat), (∀ c, c ≠ 73 → O c = N c) → (∀ i, i < m → O 73 (t i) = nI (F (t i)) ∧ F (t i) ≤ vI (dg x) (dg y) (tr (dg y) (t i))) → (∀ i, i < m → vV (dg x) (dg y) 99 (tr (dg y) (t i)) ≤ F (t i)) → qOk (some O) (fun N => (∀ c, c < 70 → N c = M c) ∧ qSR N (dg x) (dg y) ∧ ∀ v, v < 3 → N 73 (100 * v) = nI (vI (dg x) (dg y) (nx (dg x) (dg y) 0 v))) := fun O F a b d => by
    rw [qOk_some]
    refine ⟨fun c hc => by rw [a c (by omega), n1 c (by omega), g0 c hc], ⟨fun v hv => by rw [a 71 (by decide)]; exact hN.1 v hv, fun v hv => by rw [a 72 (by decide)]; exact hN.2 v hv⟩, fun v hv => ?_⟩
    obtain ⟨j, j1, j2⟩ := q2 v hv
    have u := b j j1
    have w := d j j1
    have eq : F (t j) = vI (dg x) (dg y) (tr (dg y) (t j)) := Nat.le_antisymm u.2 w
    rw [← j2, u.1, eq, j2, tr_0 (s := dg x) hv]
  rw [qOk_b1]
  refine qlp_for (fun i st => ∃ w O F, st = (w, nI i, O) ∧ (∀ c, c ≠ 73 → O c = N c) ∧ qLo (dg x) (dg y) m t i O F ∧ (w = 1 ∨ (w = 0 ∧ qFx (dg x) (dg y) m t F))) 100 (by omega) ⟨1, N, fun _ => 0, rfl, fun _ _ => rfl, l0, Or.inl rfl⟩ ?_ ?_
  · rintro i st hi ⟨w, O, F, rfl, o1, o2, o3⟩
    show qOk (kX5_settle_L75 w (nI i) O) _
    unfold kX5_settle_L75
    rw [if_neg (show ¬ (99 : Int32) < nI i from nI_nlt (a := 99) (b := i) (by omega) (by omega))]
    rcases o3 with z | ⟨z, z2⟩
    · rw [z, if10, qOk_b2']
      have hO : qSR O (dg x) (dg y) := ⟨fun v hv => by rw [o1 71 (by decide)]; exact hN.1 v hv, fun v hv => by rw [o1 72 (by decide)]; exact hN.2 v hv⟩
      refine qOk2.m (look_eq h hO le (by rw [o1 70 (by decide)]; exact q1.1) (fun i hi => by rw [o1 74 (by decide)]; exact (q1.2.1 i hi).1) ht q3 o2) (fun w2 Q ⟨u1, F2, u2, u3⟩ => ?_)
      rw [qvl_eq, qOk_some]
      exact ⟨w2, Q, F2, by rw [nI_succ i], fun c hc => by rw [u1 c hc, o1 c hc], u2, u3⟩
    · rw [z, if00, qOk_some]
      exact fin O F o1 (fun i hi => ⟨(o2 i hi).1, (o2 i hi).2.2⟩) (fun i hi => fx_lo h ht q3 z2 99 i hi)
  · rintro st ⟨w, O, F, rfl, o1, o2, o3⟩
    show qOk (kX5_settle_L75 w (nI 100) O) _
    unfold kX5_settle_L75
    rw [if_pos (show (99 : Int32) < nI 100 from by decide), qOk_some]
    exact fin O F o1 (fun i hi => ⟨(o2 i hi).1, (o2 i hi).2.2⟩) (fun i hi => Nat.le_trans (vV_mo 99 _) (o2 i hi).2.1)
