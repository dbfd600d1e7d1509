/-! hold: the reference, by times -/
theorem dgt_eq {x v : Nat} (hx : x < 1000) (hv : v < 3) : kX8_digit (nI x) (nI v) = some (nI (dg x v)) := by
  unfold kX8_digit dg
  obtain ⟨e1, e2, e3⟩ := dg_I hx
  rw [e2, e3, e1]
  rcases (show v = 0 ∨ v = 1 ∨ v = 2 by omega) with z | z | z <;> subst z
  · rw [if_pos (show nI 0 = (0 : Int32) from rfl), qb1_some]
    rfl
  · rw [if_neg (show ¬ nI 1 = (0 : Int32) from by decide), if_pos (show nI 1 = (1 : Int32) from rfl), qb1_some]
    rfl
  · rw [if_neg (show ¬ nI 2 = (0 : Int32) from by decide), if_neg (show ¬ nI 2 = (1 : Int32) from by decide), qb1_some]
    rfl
theorem sq_tab : ∀ a, a < 10 → ∀ b, b < 10 → (if nI a - nI b ≤ (0 : Int32) then some (0 : Int32) else some (nI a - nI b)) = some (nI (a - b)) := by decide +kernel
def rw3 (f : Nat → Nat) : Nat → Nat
  | 0 => 0
  | k + 1 => 10 * rw3 f k + f k
theorem rested_eq {s r : Nat → Nat} (h : hOk s r) {x i : Nat} (hx : x < 1000) (hi : i < 3) : kX8_rested (nI x) (nI i) (nI (s i)) (nI (r i)) = some (nI (nx s r x i)) := by
  unfold kX8_rested
  have sv := (h.1 i hi).2
  refine qOk_eq ?_
  rw [qOk_b1]
  refine qlp_for (fun k st => st = (nI (rw3 (nf s r x i) k), nI k)) 3 (by omega) rfl ?_ ?_
  · rintro k st hk rfl
    show qOk (kX8_rested_L6 (nI x) (nI (s i)) (nI i) (nI (r i)) (nI (rw3 (nf s r x i) k)) (nI k)) _
    unfold kX8_rested_L6
    have d := dg_le (v := k) hx
    have e : (if nI k = nI i then some (nI (r i)) else (if nI (dg x k) - nI (s i) ≤ 0 then some (0 : Int32) else some (nI (dg x k) - nI (s i)))) = some (nI (nf s r x i k)) := by
      unfold nf
      by_cases c : k = i
      · rw [if_pos (show nI k = nI i by rw [c]), if_pos c]
      · rw [if_neg (nIne c (by omega) (by omega)), if_neg c]
        exact sq_tab _ (by omega) _ (by omega)
    rw [if_neg (show ¬ (3 : Int32) ≤ nI k from nI_ge (b := 3) hk (by decide)), dgt_eq hx hk, qb1_some, qvl_eq, e, qb1_some, show (10 : Int32) * nI (rw3 (nf s r x i) k) = nI (10 * rw3 (nf s r x i) k) from pk_mul 10 _, nI_add, qvl_eq, nI_1, qvl_eq, qOk_some]
    rfl
  · rintro st rfl
    show qOk (kX8_rested_L6 (nI x) (nI (s i)) (nI i) (nI (r i)) (nI (rw3 (nf s r x i) 3)) (nI 3)) _
    unfold kX8_rested_L6
    rw [if_pos (show (3 : Int32) ≤ nI 3 from by decide), qOk_some]
    show qOk (some (nI (rw3 (nf s r x i) 3))) _
    rw [qOk_some]
    have e : rw3 (nf s r x i) 3 = 10 * (10 * (10 * 0 + nf s r x i 0) + nf s r x i 1) + nf s r x i 2 := rfl
    have e2 : rw3 (nf s r x i) 3 = nx s r x i := by
      rw [e]
      unfold nx
      omega
    rw [e2]
theorem held_3 {M : qM} : qOk (qlp (S := Int32 × qM) (E := (qM)) (fun st => kX8_heldBy_L3 st.1 st.2) qFu (0, M)) (fun N => (∀ c, c ≠ 12 → N c = M c) ∧ ∀ j, j < 10000 → N 12 j = 0) := by
  refine qlp_for (fun k st => ∃ N, st = (nI k, N) ∧ (∀ c, c ≠ 12 → N c = M c) ∧ ∀ j, j < k → N 12 j = 0) 10000 (by omega) ⟨M, rfl, fun _ _ => rfl, fun j hj => by omega⟩ ?_ ?_
  · rintro k st hk ⟨N, rfl, n1, n2⟩
    show qOk (kX8_heldBy_L3 (nI k) N) _
    unfold kX8_heldBy_L3
    rw [if_neg (show ¬ (10000 : Int32) ≤ nI k from nI_ge (b := 10000) hk (by decide)), qwr_k hk (by omega), qvl_eq, qOk_some]
    refine ⟨_, by rw [nI_succ k], fun c hc => by rw [qst_n hc, n1 c hc], fun j hj => ?_⟩
    rw [qst_at]
    by_cases e : j = k
    · rw [if_pos e]
      rfl
    · rw [if_neg e]
      exact n2 j (by omega)
  · rintro st ⟨N, rfl, n1, n2⟩
    show qOk (kX8_heldBy_L3 (nI 10000) N) _
    unfold kX8_heldBy_L3
    rw [if_pos (show (10000 : Int32) ≤ nI 10000 from by decide), qOk_some]
    exact ⟨n1, n2⟩
/-- at the time a, rests below l are through: f marks who is there, w the most so far, T what is sought -/
def hJ (s r : Nat → Nat) (T a l : Nat) (f : Nat → Int32) (w : Nat) : Prop := (∀ i, i < 10000 → f i = 0 ∨ f i = 1) ∧ (∀ x, x < l → f (1000 * (a % 10) + x) = 0) ∧ (∀ t x, a ≤ t → t ≤ a + 9 → x < 1000 → f (1000 * (t % 10) + x) = 1 → min 99 t ≤ w ∧ min 99 (t + vI s r x) ≤ T) ∧ (T ≤ w ∨ ∃ t x, a ≤ t ∧ t ≤ a + 9 ∧ x < 1000 ∧ f (1000 * (t % 10) + x) = 1 ∧ T ≤ min 99 (t + vI s r x)) ∧ w ≤ T
theorem ix_u {a b x y : Nat} (hx : x < 1000) (hy : y < 1000) (h : 1000 * a + x = 1000 * b + y) : a = b ∧ x = y := by omega
theorem tm_u {a t u : Nat} (h1 : a ≤ t) (h2 : t ≤ a + 9) (h3 : a ≤ u) (h4 : u ≤ a + 9) (h : t % 10 = u % 10) : t = u := by omega
section HELD
variable {s r : Nat → Nat} {T a l w : Nat} {f : Nat → Int32}
/-- one sings -/
theorem hJ_put (h : hOk s r) (hl : l < 1000) (j : hJ s r T a l f w) (hf : f (1000 * (a % 10) + l) = 1) {i : Nat} (hi : i < 3) (hd : dg l i = 0) : hJ s r T a l (upd f (1000 * ((a + s i) % 10) + nx s r l i) 1) (max w (min 99 (a + s i))) ∧ min 99 (a + s i) ≤ T := by
  obtain ⟨j1, j2, j3, j4, j5⟩ := j
  obtain ⟨s1, s9⟩ := h.1 i hi
  have nl := nx_lt h (x := l) hl hi
  obtain ⟨b1, b2⟩ := j3 a l (by omega) (by omega) hl hf
  have b3 := vI_ge h (x := l) hi hd
  have b4 : min 99 (a + s i + vI s r (nx s r l i)) ≤ T := by omega
  have b5 : min 99 (a + s i) ≤ T := by omega
  refine ⟨⟨fun k hk => ?_, fun x hx => ?_, fun t x t1 t2 hx z => ?_, ?_, by omega⟩, b5⟩
  · by_cases e : k = 1000 * ((a + s i) % 10) + nx s r l i
    · rw [e, upd_s]
      exact Or.inr rfl
    · rw [upd_n e]
      exact j1 k hk
  · rw [upd_n (by omega)]
    exact j2 x hx
  · by_cases e : 1000 * (t % 10) + x = 1000 * ((a + s i) % 10) + nx s r l i
    · obtain ⟨e1, e2⟩ := ix_u hx nl e
      have e3 : t = a + s i := tm_u t1 t2 (by omega) (by omega) e1
      rw [e3, e2]
      exact ⟨by omega, b4⟩
    · rw [upd_n e] at z
      have q := j3 t x t1 t2 hx z
      exact ⟨by omega, q.2⟩
  · rcases j4 with z | ⟨t, x, t1, t2, hx, z, z2⟩
    · exact Or.inl (by omega)
    · refine Or.inr ⟨t, x, t1, t2, hx, ?_, z2⟩
      by_cases e : 1000 * (t % 10) + x = 1000 * ((a + s i) % 10) + nx s r l i
      · rw [e, upd_s]
      · rw [upd_n e]
        exact z
/-- this state is through -/
theorem hJ_off (h : hOk s r) (hl : l < 1000) (j : hJ s r T a l f w) (hp : f (1000 * (a % 10) + l) = 1 → ∀ i, i < 3 → dg l i = 0 → f (1000 * ((a + s i) % 10) + nx s r l i) = 1) : hJ s r T a (l + 1) (upd f (1000 * (a % 10) + l) 0) w := by
  obtain ⟨j1, j2, j3, j4, j5⟩ := j
  refine ⟨fun k hk => ?_, fun x hx => ?_, fun t x t1 t2 hx z => ?_, ?_, j5⟩
  · by_cases e : k = 1000 * (a % 10) + l
    · rw [e, upd_s]
      exact Or.inl rfl
    · rw [upd_n e]
      exact j1 k hk
  · by_cases e : x = l
    · rw [e, upd_s]
    · rw [upd_n (by omega)]
      exact j2 x (by omega)
  · by_cases e : 1000 * (t % 10) + x = 1000 * (a % 10) + l
    · rw [e, upd_s] at z
      exact absurd z (by decide)
    · rw [upd_n e] at z
      exact j3 t x t1 t2 hx z
  · rcases j4 with z | ⟨t, x, t1, t2, hx, z, z2⟩
    · exact Or.inl z
    · by_cases e : 1000 * (t % 10) + x = 1000 * (a % 10) + l
      · obtain ⟨e1, e2⟩ := ix_u hx hl e
        have e3 : t = a := tm_u t1 t2 (by omega) (by omega) e1
        rw [e] at z
        obtain ⟨b1, b2⟩ := j3 a l (by omega) (by omega) hl z
        rw [e3, e2] at z2
        rcases vI_at (s := s) (r := r) l with q | ⟨v, hv, d, q⟩
        · rw [q] at z2
          exact Or.inl (by omega)
        · obtain ⟨s1, s9⟩ := h.1 v hv
          have nl := nx_lt h (x := l) hl hv
          refine Or.inr ⟨a + s v, nx s r l v, by omega, by omega, nl, ?_, by omega⟩
          rw [upd_n (by omega)]
          exact hp z v hv d
      · exact Or.inr ⟨t, x, t1, t2, hx, by rw [upd_n e]; exact z, z2⟩
/-- this time is through -/
theorem hJ_next (j : hJ s r T a 1000 f w) : hJ s r T (a + 1) 0 f w := by
  obtain ⟨j1, j2, j3, j4, j5⟩ := j
  have no : ∀ x, x < 1000 → ¬ f (1000 * (a % 10) + x) = 1 := fun x hx z => by
    rw [j2 x hx] at z
    exact absurd z (by decide)
  refine ⟨j1, fun x hx => by omega, fun t x t1 t2 hx z => ?_, ?_, j5⟩
  · by_cases e : t = a + 10
    · rw [show t % 10 = a % 10 by omega] at z
      exact absurd z (no x hx)
    · exact j3 t x (by omega) (by omega) hx z
  · rcases j4 with z | ⟨t, x, t1, t2, hx, z, z2⟩
    · exact Or.inl z
    · refine Or.inr ⟨t, x, ?_, by omega, hx, z, z2⟩
      by_cases e : t = a
      · rw [e] at z
        exact absurd z (no x hx)
      · omega
theorem hJ_end (hT : T ≤ 99) (j : hJ s r T 99 0 f w) : w = T := by
  obtain ⟨j1, j2, j3, j4, j5⟩ := j
  rcases j4 with z | ⟨t, x, t1, t2, hx, z, z2⟩
  · omega
  · have := (j3 t x t1 t2 hx z).1
    omega
end HELD
theorem nar1 : vp_nar .boolean 1 = 1 := rfl
theorem nar0 : vp_nar .boolean 0 = 0 := rfl
theorem a10_I {a : Nat} (ha : a < 1000) : nI a - nI a / 10 * 10 = nI (a % 10) := pk_rem (d := 10) (by omega) (by omega) (by omega)
theorem ix_I (a x : Nat) : (1000 : Int32) * nI a + nI x = nI (1000 * a + x) := by
  rw [show (1000 : Int32) * nI a = nI (1000 * a) from pk_mul 1000 a, nI_add]
theorem qst_c {M : qM} {k i : Nat} {v : Int32} : qst M k i v k = upd (M k) i v := qst_s
theorem held_81 {M : qM} {x y T a l w : Nat} (hx : x < 1000) (hy : y < 1000) (h : hOk (dg x) (dg y)) (ha : a < 99) (hl : l < 1000) (hT : T ≤ 99) (j : hJ (dg x) (dg y) T a l (M 12) w) : qOk (qlp (S := Int32 × Int32 × qM) (E := (Int32 × qM)) (fun st => kX8_heldBy_L81 (nI a) (nI l) (nI x) (nI y) st.1 st.2.1 st.2.2) qFu (nI w, 0, M)) (fun o => (∀ c, c ≠ 12 → o.2 c = M c) ∧ ∃ w', o.1 = nI w' ∧ hJ (dg x) (dg y) T a l (o.2 12) w' ∧ (o.2 12 (1000 * (a % 10) + l) = 1 → ∀ i, i < 3 → dg l i = 0 → o.2 12 (1000 * ((a + dg x i) % 10) + nx (dg x) (dg y) l i) = 1)) := by
  have ai : 1000 * (a % 10) + l < 10000 := by omega
  refine qlp_for (fun i st => ∃ w' N, st = (nI w', nI i, N) ∧ (∀ c, c ≠ 12 → N c = M c) ∧ hJ (dg x) (dg y) T a l (N 12) w' ∧ (N 12 (1000 * (a % 10) + l) = 1 → ∀ u, u < i → dg l u = 0 → N 12 (1000 * ((a + dg x u) % 10) + nx (dg x) (dg y) l u) = 1)) 3 (by omega) ⟨w, M, rfl, fun _ _ => rfl, j, fun _ u hu => by omega⟩ ?_ ?_
  · rintro i st hi ⟨w', N, rfl, n1, n2, n3⟩
    show qOk (kX8_heldBy_L81 (nI a) (nI l) (nI x) (nI y) (nI w') (nI i) N) _
    unfold kX8_heldBy_L81
    have w5 := n2.2.2.2.2
    rw [if_neg (show ¬ (3 : Int32) ≤ nI i from nI_ge (b := 3) hi (by decide)), a10_I (by omega), ix_I, qrd_k ai (by omega)]
    rcases n2.1 _ ai with z | z
    · rw [z, if00, qOk_some]
      exact ⟨n1, w', rfl, n2, fun q => absurd (z.symm.trans q) (by decide)⟩
    · rw [z, if10, dgt_eq hl hi, qb1_some]
      have dl := dg_le (v := i) hl
      by_cases d : dg l i = 0
      · obtain ⟨s1, s9⟩ := h.1 i hi
        have nl := nx_lt h (x := l) hl hi
        have ni : 1000 * ((a + dg x i) % 10) + nx (dg x) (dg y) l i < 10000 := by omega
        obtain ⟨p1, p2⟩ := hJ_put h hl n2 z hi d
        have e30 : (if nI a + nI (dg x i) ≤ 99 then some (nI a + nI (dg x i)) else some (99 : Int32)) = some (nI (min 99 (a + dg x i))) := by
          rw [nI_add]
          by_cases q : a + dg x i ≤ 99
          · rw [if_pos (show nI (a + dg x i) ≤ 99 from nI_le (b := 99) q (by decide)), Nat.min_eq_right q]
          · rw [if_neg (show ¬ nI (a + dg x i) ≤ 99 from nI_ge (a := 99) (by omega) (by omega)), Nat.min_eq_left (by omega)]
            rfl
        rw [if_pos (show nI (dg l i) = 0 by rw [d]; rfl), dgt_eq hx hi, qb1_some, e30, qb1_some, dgt_eq hy hi, qb1_some, rested_eq h hl hi, qb1_some, nI_add, a10_I (by omega), ix_I, qwr_k ni (by omega), nar1]
        have em : (if nI (min 99 (a + dg x i)) ≤ nI w' then some (nI w') else some (nI (min 99 (a + dg x i)))) = some (nI (max w' (min 99 (a + dg x i)))) := by
          by_cases q : min 99 (a + dg x i) ≤ w'
          · rw [if_pos (nI_le q (by omega)), Nat.max_eq_left q]
          · rw [if_neg (nI_ge (by omega) (by omega)), Nat.max_eq_right (by omega)]
        rw [em, qb1_some, qb2_some, qvl_eq, nI_1, qOk_some]
        refine ⟨_, _, rfl, fun c hc => by rw [qst_n hc, n1 c hc], by rw [qst_c]; exact p1, fun _ u hu du => ?_⟩
        rw [qst_at]
        by_cases e : 1000 * ((a + dg x u) % 10) + nx (dg x) (dg y) l u = 1000 * ((a + dg x i) % 10) + nx (dg x) (dg y) l i
        · rw [if_pos e]
        · rw [if_neg e]
          refine n3 z u ?_ du
          have : u ≠ i := fun q => e (by rw [q])
          omega
      · rw [if_neg (show ¬ nI (dg l i) = 0 from fun q => d ((nI_inj (by omega) (by omega)).mp (show _ = nI 0 from q))), qb2_some, qvl_eq, nI_1, qOk_some]
        refine ⟨w', N, rfl, n1, n2, fun q u hu du => ?_⟩
        by_cases e : u = i
        · rw [e] at du
          exact absurd du d
        · exact n3 q u (by omega) du
  · rintro st ⟨w', N, rfl, n1, n2, n3⟩
    show qOk (kX8_heldBy_L81 (nI a) (nI l) (nI x) (nI y) (nI w') (nI 3) N) _
    unfold kX8_heldBy_L81
    rw [if_pos (show (3 : Int32) ≤ nI 3 from by decide), qOk_some]
    exact ⟨n1, w', rfl, n2, n3⟩
theorem held_70 {M : qM} {x y T a w : Nat} (hx : x < 1000) (hy : y < 1000) (h : hOk (dg x) (dg y)) (ha : a < 99) (hT : T ≤ 99) (j : hJ (dg x) (dg y) T a 0 (M 12) w) : qOk (qlp (S := Int32 × Int32 × qM) (E := (Int32 × qM)) (fun st => kX8_heldBy_L70 (nI a) (nI x) (nI y) st.1 st.2.1 st.2.2) qFu (nI w, 0, M)) (fun o => (∀ c, c ≠ 12 → o.2 c = M c) ∧ ∃ w', o.1 = nI w' ∧ hJ (dg x) (dg y) T (a + 1) 0 (o.2 12) w') := by
  refine qlp_for (fun l st => ∃ w' N, st = (nI w', nI l, N) ∧ (∀ c, c ≠ 12 → N c = M c) ∧ hJ (dg x) (dg y) T a l (N 12) w') 1000 (by omega) ⟨w, M, rfl, fun _ _ => rfl, j⟩ ?_ ?_
  · rintro l st hl ⟨w', N, rfl, n1, n2⟩
    show qOk (kX8_heldBy_L70 (nI a) (nI x) (nI y) (nI w') (nI l) N) _
    unfold kX8_heldBy_L70
    rw [if_neg (show ¬ (1000 : Int32) ≤ nI l from nI_ge (b := 1000) hl (by decide)), qOk_b2]
    refine qOk.m (held_81 hx hy h ha hl hT n2) (fun o ⟨o1, w2, o2, o3, o4⟩ => ?_)
    rw [o2, a10_I (by omega), ix_I, qwr_k (show 1000 * (a % 10) + l < 10000 by omega) (by omega), nar0, qvl_eq, nI_1, qOk_some]
    exact ⟨w2, _, rfl, fun c hc => by rw [qst_n hc, o1 c hc, n1 c hc], by rw [qst_c]; exact hJ_off h hl o3 o4⟩
  · rintro st ⟨w', N, rfl, n1, n2⟩
    show qOk (kX8_heldBy_L70 (nI a) (nI x) (nI y) (nI w') (nI 1000) N) _
    unfold kX8_heldBy_L70
    rw [if_pos (show (1000 : Int32) ≤ nI 1000 from by decide), qOk_some]
    exact ⟨n1, w', rfl, hJ_next n2⟩
def hT3 (x y v : Nat) : Nat := min 99 (dg x v + vI (dg x) (dg y) (nx (dg x) (dg y) 0 v))
theorem heldBy_eq {M : qM} {x y v : Nat} (hx : x < 1000) (hy : y < 1000) (h : hOk (dg x) (dg y)) (hv : v < 3) : qOk2 (kX8_heldBy M (nI v) (nI x) (nI y)) (fun o N => o = nI (hT3 x y v) ∧ ∀ c, c ≠ 12 → N c = M c) := by
  unfold kX8_heldBy
  rw [qOk2_b1]
  refine qOk.m (held_3 (M := M)) (fun M3 ⟨m1, m2⟩ => ?_)
  obtain ⟨s1, s9⟩ := h.1 v hv
  have nl := nx_lt h (x := 0) (v := v) (by omega) hv
  have hT : hT3 x y v ≤ 99 := Nat.min_le_left _ _
  rw [dgt_eq hx hv, qb1_some, dgt_eq hy hv, qb1_some, show (0 : Int32) = nI 0 from rfl, rested_eq h (by omega) hv, qb1_some, ix_I, qwr_k (show 1000 * dg x v + nx (dg x) (dg y) 0 v < 10000 by omega) (by omega), nar1]
  have t10 : dg x v % 10 = dg x v := by omega
  have j0 : hJ (dg x) (dg y) (hT3 x y v) 1 0 (upd (M3 12) (1000 * dg x v + nx (dg x) (dg y) 0 v) 1) (dg x v) := by
    refine ⟨fun k hk => ?_, fun q hq => by omega, fun t q t1 t2 hq z => ?_, Or.inr ⟨dg x v, nx (dg x) (dg y) 0 v, by omega, by omega, nl, by rw [t10, upd_s], Nat.le_refl _⟩, ?_⟩
    · by_cases e : k = 1000 * dg x v + nx (dg x) (dg y) 0 v
      · rw [e, upd_s]
        exact Or.inr rfl
      · rw [upd_n e]
        exact Or.inl (m2 k hk)
    · by_cases e : 1000 * (t % 10) + q = 1000 * dg x v + nx (dg x) (dg y) 0 v
      · obtain ⟨e1, e2⟩ := ix_u hq nl e
        have e3 : t = dg x v := tm_u (a := 1) t1 t2 (by omega) (by omega) (by omega)
        rw [e3, e2]
        exact ⟨Nat.min_le_right _ _, Nat.le_refl _⟩
      · rw [upd_n e, m2 _ (by omega)] at z
        exact absurd z (by decide)
    · unfold hT3
      omega
  show qOk _ _
  rw [qOk_b2]
  have lp : qOk (qlp (S := Int32 × Int32 × qM) (E := (Int32 × qM)) (fun st => kX8_heldBy_L60 (nI x) (nI y) st.1 st.2.1 st.2.2) qFu (nI (dg x v), 1, qst M3 12 (1000 * dg x v + nx (dg x) (dg y) 0 v) 1)) (fun o => o.1 = nI (hT3 x y v) ∧ ∀ c, c ≠ 12 → o.2 c = M c) := by
    refine qlp_for (fun k st => ∃ w N, st = (nI w, nI (k + 1), N) ∧ (∀ c, c ≠ 12 → N c = M c) ∧ hJ (dg x) (dg y) (hT3 x y v) (k + 1) 0 (N 12) w) 98 (by omega) ⟨dg x v, _, rfl, fun c hc => by rw [qst_n hc, m1 c hc], by rw [qst_c]; exact j0⟩ ?_ ?_
    · rintro k st hk ⟨w, N, rfl, n1, n2⟩
      show qOk (kX8_heldBy_L60 (nI x) (nI y) (nI w) (nI (k + 1)) N) _
      unfold kX8_heldBy_L60
      rw [if_neg (show ¬ (99 : Int32) ≤ nI (k + 1) from nI_ge (b := 99) (by omega) (by decide)), qOk_b2]
      refine qOk.m (held_70 hx hy h (by omega) hT n2) (fun o ⟨o1, w2, o2, o3⟩ => ?_)
      rw [o2, qvl_eq, nI_1, qOk_some]
      exact ⟨w2, _, rfl, fun c hc => by rw [o1 c hc, n1 c hc], o3⟩
    · rintro st ⟨w, N, rfl, n1, n2⟩
      show qOk (kX8_heldBy_L60 (nI x) (nI y) (nI w) (nI (98 + 1)) N) _
      unfold kX8_heldBy_L60
      rw [if_pos (show (99 : Int32) ≤ nI (98 + 1) from by decide), qOk_some]
      exact ⟨by rw [hJ_end hT n2], n1⟩
  refine qOk.m lp (fun o ⟨o1, o2⟩ => ?_)
  rw [qOk_some]
  exact ⟨o1, o2⟩
