/-! a year: the reference, and both -/
theorem yS_D {M N : qM} {A : qN} {k v x y : Nat} (hy : yW A k v x = y) (h : qDn M A) (h0 : y = 0 → qDn N (yA A k v x)) : qDn (if y = 0 then N else M) (yS A k v x) := by
  subst hy
  unfold yS
  by_cases c : yW A k v x = 0
  · rw [if_pos c, if_pos c]
    exact h0 c
  · rw [if_neg c, if_neg c]
    exact h
theorem ite_at {M N O : qM} {y : Nat} {c : Nat} (h1 : N c = O c) (h2 : M c = O c) : (if y = 0 then N else M) c = O c := by
  by_cases d : y = 0
  · rw [if_pos d]; exact h1
  · rw [if_neg d]; exact h2
theorem yearStep {M : qM} {A : qN} {X i m : Nat} (h : qDn M A) (hw : qW A) (hX : X < 65537) (hi : i < m) (hm : m ≤ 99) : qOk (kX8_year_L43 (nI m) (nI X) (nI i) M) (fun r => ∃ N Y, Y = (75 * X + 74) % 65537 ∧ r = .inl (nI Y, nI (i + 1), N) ∧ (∀ c, c ≠ 2 → c ≠ 10 → N c = M c) ∧ qDn N (yS A (kd (Y / 8 % 8)) (Y % 8) (Y / 64 % nm (kd (Y / 8 % 8))))) := by
  unfold kX8_year_L43
  obtain ⟨Y, eY⟩ : ∃ Y, Y = (75 * X + 74) % 65537 := ⟨_, rfl⟩
  have hY : Y < 65537 := by rw [eY]; exact Nat.mod_lt _ (by omega)
  have hv : Y % 8 < 8 := Nat.mod_lt _ (by omega)
  rw [if_neg (nI_ge hi (by omega)), draw_I hX, ← eY, qvl_eq, q8_I hY, qvl_eq, d8_I hY, show nI (Y / 8) - nI (Y / 8) / 8 * 8 = nI (Y / 8 % 8) from pk_rem (d := 8) (by omega) (by omega) (by omega), qvl_eq, d64_I hY, qvl_eq, qOk_b1]
  obtain ⟨q, hq⟩ : ∃ q, q = Y / 8 % 8 := ⟨_, rfl⟩
  have h8 : q < 8 := by omega
  rw [← hq]
  have fin : ∀ N : qM, (∀ c, c ≠ 2 → c ≠ 10 → N c = M c) → qDn N (yS A (kd q) (Y % 8) (Y / 64 % nm (kd q))) → qOk (qvl (nI i + 1) (fun v24 => some (.inl (nI Y, v24, N) : (Int32 × Int32 × qM) ⊕ qM))) (fun r => ∃ N Z, Z = Y ∧ r = .inl (nI Z, nI (i + 1), N) ∧ (∀ c, c ≠ 2 → c ≠ 10 → N c = M c) ∧ qDn N (yS A (kd (Z / 8 % 8)) (Z % 8) (Z / 64 % nm (kd (Z / 8 % 8))))) := fun N a b => by
    rw [qvl_eq, qOk_some]
    exact ⟨N, Y, rfl, by rw [nI_1], a, by rw [← hq]; exact b⟩
  rcases (show q < 3 ∨ q = 3 ∨ (3 < q ∧ q < 6) ∨ q = 6 ∨ q = 7 by omega) with c | c | c | c | c
  · have e : kd q = 0 := if_pos c
    rw [e] at fin
    have hx : Y / 64 % 24 < 24 := Nat.mod_lt _ (by omega)
    rw [if_neg (show ¬ (3 : Int32) ≤ nI q from nI_ge (b := 3) c (by decide)), show nI (Y / 64) - nI (Y / 64) / 24 * 24 = nI (Y / 64 % 24) from pk_rem (d := 24) (by omega) (by omega) (by omega), X8_sing_eq h hw hv hx, qb2_some, qOk_some]
    exact fin _ (fun c c2 _ => ite_at (by rw [qst_n c2]) rfl) (yS_D rfl h (fun _ => sing_D h hv))
  · have e : kd q = 1 := by rw [c]; rfl
    rw [e] at fin
    rw [if_pos (show (3 : Int32) ≤ nI q from nI_le (a := 3) (by omega) (by omega)), if_pos (show nI q = 3 by rw [c]; rfl), X8_hush_eq h hw hv, qb2_some, qOk_some]
    exact fin _ (fun c c2 _ => ite_at (by rw [qst_n c2]) rfl) (yS_D rfl h (fun _ => hush_D h hv))
  · have e : kd q = 2 := by
      rcases (show q = 4 ∨ q = 5 by omega) with z | z <;> rw [z] <;> rfl
    rw [e] at fin
    have hx : Y / 64 % 10 < 10 := Nat.mod_lt _ (by omega)
    rw [if_pos (show (3 : Int32) ≤ nI q from nI_le (a := 3) (by omega) (by omega)), if_neg (show ¬ nI q = 3 from nIne (b := 3) (by omega) (by omega) (by omega)), if_neg (show ¬ (6 : Int32) ≤ nI q from nI_ge (b := 6) (by omega) (by decide)), show nI (Y / 64) - nI (Y / 64) / 10 * 10 = nI (Y / 64 % 10) from pk_rem (d := 10) (by omega) (by omega) (by omega), X8_go_eq h hw hv hx, qb2_some, qOk_some]
    exact fin _ (fun c c2 _ => ite_at (by rw [qst_n c2]) rfl) (yS_D rfl h (fun _ => go_D h hv))
  · have e : kd q = 3 := by rw [c]; rfl
    rw [e] at fin
    have hx : Y / 64 % 10 < 10 := Nat.mod_lt _ (by omega)
    rw [if_pos (show (3 : Int32) ≤ nI q from nI_le (a := 3) (by omega) (by omega)), if_neg (show ¬ nI q = 3 from nIne (b := 3) (by omega) (by omega) (by omega)), if_pos (show (6 : Int32) ≤ nI q from nI_le (a := 6) (by omega) (by omega)), if_pos (show nI q = 6 by rw [c]; rfl), show (34 : Int32) = nI 34 from rfl, qrd_k (show 34 < 36 by omega) (by omega), show nI (Y / 64) - nI (Y / 64) / 10 * 10 = nI (Y / 64 % 10) from pk_rem (d := 10) (by omega) (by omega) (by omega), shl1 (by omega), h.cl, fa_xor, qwr_k (show 34 < 36 by omega) (by omega), qOk_some]
    exact fin _ (fun c c2 _ => by rw [qst_n c2]) (fall_D h _)
  · have e : kd q = 4 := by rw [c]; rfl
    rw [e] at fin
    rw [if_pos (show (3 : Int32) ≤ nI q from nI_le (a := 3) (by omega) (by omega)), if_neg (show ¬ nI q = 3 from nIne (b := 3) (by omega) (by omega) (by omega)), if_pos (show (6 : Int32) ≤ nI q from nI_le (a := 6) (by omega) (by omega)), if_neg (show ¬ nI q = 6 from nIne (b := 6) (by omega) (by omega) (by omega)), qOk_b2']
    refine qOk2.m (X8_beat_eq h hw) (fun r N hr => ?_)
    rw [qOk_some]
    rcases hr with ⟨b1, b2, b3⟩ | ⟨b1, b2, b3, b4⟩
    · have u : yW A 4 (Y % 8) (Y / 64 % nm 4) = 7 := by
        show (if A 11 3 = 999 then 7 else 0) = 7
        rw [if_pos b1]
      have w : yS A 4 (Y % 8) (Y / 64 % nm 4) = A := if_neg (by rw [u]; decide)
      exact fin N (fun c _ _ => by rw [b3]) (by rw [w, b3]; exact h)
    · have u : yW A 4 (Y % 8) (Y / 64 % nm 4) = 0 := by
        show (if A 11 3 = 999 then 7 else 0) = 0
        rw [if_neg b1]
      have w : yS A 4 (Y % 8) (Y / 64 % nm 4) = yBeat A := if_pos u
      exact fin N b3 (by rw [w]; exact b4)
theorem yearLoop {M : qM} {A : qN} {s m : Nat} (h : qDn M A) (hw : qW A) (hs : s ≤ 9999) (hm : m ≤ 99) : qOk (qlp (S := Int32 × Int32 × qM) (E := (qM)) (fun st => kX8_year_L43 (nI m) st.1 st.2.1 st.2.2) qFu (nI s, 0, M)) (fun N => (∀ c, c ≠ 2 → c ≠ 10 → N c = M c) ∧ qDn N (yR s A m)) := by
  refine qlp_for (fun i st => ∃ N, st = (nI (dX s i), nI i, N) ∧ (∀ c, c ≠ 2 → c ≠ 10 → N c = M c) ∧ qDn N (yR s A i)) m (by omega) ⟨M, rfl, fun _ _ _ => rfl, h⟩ ?_ ?_
  · rintro i st hi ⟨N, rfl, n1, n2⟩
    show qOk (kX8_year_L43 (nI m) (nI (dX s i)) (nI i) N) _
    refine qOk.m (yearStep n2 (yR_W hw i) (dX_lt hs i) hi hm) (fun r hr => ?_)
    obtain ⟨O, Y, eY, er, o1, o2⟩ := hr
    rw [er]
    refine ⟨O, by rw [eY]; rfl, fun c a b => by rw [o1 c a b, n1 c a b], ?_⟩
    have : Y = dX s (i + 1) := eY
    rw [this] at o2
    exact o2
  · rintro st ⟨N, rfl, n1, n2⟩
    show qOk (kX8_year_L43 (nI m) (nI (dX s m)) (nI m) N) _
    unfold kX8_year_L43
    rw [if_pos (nI_le (Nat.le_refl m) (by omega)), qOk_some]
    exact ⟨n1, n2⟩
def sVn (A : qN) : Nat → Nat
  | 0 => 0
  | k + 1 => sVn A k + (if 0 < A 5 k then 1 else 0)
theorem sVn_le (A : qN) : ∀ k, sVn A k ≤ k
  | 0 => Nat.le_refl 0
  | k + 1 => by
    have := sVn_le A k
    show sVn A k + (if 0 < A 5 k then 1 else 0) ≤ k + 1
    split <;> omega
theorem yearCount {M : qM} {A : qN} (h : qDn M A) (hw : qW A) : qOk (qlp (S := Int32 × Int32) (E := (Int32)) (fun s => kX8_year_L189 M s.1 s.2) qFu (0, 0)) (fun r => r = nI (sVn A 8)) := by
  refine qlp_for (fun k s => s = (nI (sVn A k), nI k)) 8 (by omega) rfl ?_ ?_
  · rintro k s hk rfl
    show qOk (kX8_year_L189 M (nI (sVn A k)) (nI k)) _
    unfold kX8_year_L189
    have th := hw.th
    have sg := hw.sg k hk
    have to := hw.to k hk
    have e : sVn A (k + 1) = sVn A k + (if 0 < A 5 k then 1 else 0) := rfl
    rw [if_neg (show ¬ (8 : Int32) ≤ nI k from nI_ge (b := 8) hk (by decide)), h.th, X8_has_eq (by omega) (by omega), qb1_some]
    by_cases c : (A 11 0).testBit k = true
    · rw [if_pos c, if10, qrd_k (show k < 36 by omega) (by omega), h.no k hk c]
      by_cases d : A 5 k = 0
      · rw [if_pos ((now_tab _ (by omega)).mpr d), qb1_some, show nI (sVn A k) + 0 = nI (sVn A k) from nI_add _ 0, qvl_eq, qvl_eq, nI_1, qOk_some]
        show (_, _) = (_, _)
        rw [e, if_neg (by omega), Nat.add_zero (sVn A k)]
      · rw [if_neg (fun z => d ((now_tab _ (by omega)).mp z)), qb1_some, nI_1, qvl_eq, qvl_eq, nI_1, qOk_some]
        show (_, _) = (_, _)
        rw [e, if_pos (by omega)]
    · rw [if_neg c, if00, qb1_some, show nI (sVn A k) + 0 = nI (sVn A k) from nI_add _ 0, qvl_eq, qvl_eq, nI_1, qOk_some]
      show (_, _) = (_, _)
      rw [e, if_neg (fun z => c (sg z).2), Nat.add_zero (sVn A k)]
  · rintro s rfl
    show qOk (kX8_year_L189 M (nI (sVn A 8)) (nI 8)) _
    unfold kX8_year_L189
    rw [if_pos (show (8 : Int32) ≤ nI 8 from by decide), qOk_some]
    rfl
theorem bI_01 {m i : Nat} {P : Prop} {D : Decidable P} (h : m.testBit i = true ↔ P) : bI m i = @ite _ P D 1 0 := by
  unfold bI
  have := bit_dm m i
  by_cases c : P
  · rw [if_pos c]
    exact this.mp (h.mpr c)
  · rw [if_neg c]
    have : ¬ m / 2 ^ i % 2 = 1 := fun z => c (h.mp (this.mpr z))
    omega
theorem bc_Si (A : qN) : bc (sSi A) = sVn A 8 := by
  have e : ∀ i, i < 8 → bI (sSi A) i = if 0 < A 5 i then 1 else 0 := fun i hi => bI_01 ((sSi_bit i).trans ⟨fun z => z.2, fun z => ⟨hi, z⟩⟩)
  have o : ∀ i, 8 ≤ i → bI (sSi A) i = 0 := fun i hi => by
    have := bI_01 (m := sSi A) (i := i) (P := False) (D := inferInstance) ((sSi_bit i).trans ⟨fun z => by omega, fun z => z.elim⟩)
    rw [this, if_neg (fun z => z)]
  rw [bc_sum, e 0 (by omega), e 1 (by omega), e 2 (by omega), e 3 (by omega), e 4 (by omega), e 5 (by omega), e 6 (by omega), e 7 (by omega), o 8 (by omega), o 9 (by omega), Nat.add_zero]
  show _ = 0 + _ + _ + _ + _ + _ + _ + _ + _
  rw [Nat.zero_add]
theorem t_year : qT_year qR := by
  intro M1 M2 hR x1 x2 x3
  have hR0 := hR
  obtain ⟨⟨A, hc, hd, hw⟩, -, -, -⟩ := hR
  unfold kX7_year kX8_year
  rcases rg x1 0 9999 (by omega) (by omega) with ⟨a1, a2⟩ | ⟨a1, a2, -, a3⟩ | ⟨s, -, hs, e, a1, a2, -, a3⟩
  · rw [if_pos (show x1 < 0 from a1), show kX8_in x1 0 9999 = some 0 from a2, qb1_some, if00, qOk2_some, qOk2_some]
    exact ⟨rfl, hR0⟩
  · rw [if_neg (show ¬ x1 < 0 from a1), if_pos (show (9999 : Int32) < x1 from a2), show kX8_in x1 0 9999 = some 0 from a3, qb1_some, if00, qOk2_some, qOk2_some]
    exact ⟨rfl, hR0⟩
  rw [if_neg (show ¬ x1 < 0 from a1), if_neg (show ¬ (9999 : Int32) < x1 from a2), show kX8_in x1 0 9999 = some 1 from a3, qb1_some, if10]
  clear a1 a2 a3
  subst e
  rcases rg x2 1 99 (by omega) (by omega) with ⟨a1, a2⟩ | ⟨a1, a2, -, a3⟩ | ⟨m, -, hm, e, a1, a2, -, a3⟩
  · rw [if_pos (show x2 < 1 from a1), show kX8_in x2 1 99 = some 0 from a2, qb1_some, if00, qOk2_some, qOk2_some]
    exact ⟨rfl, hR0⟩
  · rw [if_neg (show ¬ x2 < 1 from a1), if_pos (show (99 : Int32) < x2 from a2), show kX8_in x2 1 99 = some 0 from a3, qb1_some, if00, qOk2_some, qOk2_some]
    exact ⟨rfl, hR0⟩
  rw [if_neg (show ¬ x2 < 1 from a1), if_neg (show ¬ (99 : Int32) < x2 from a2), show kX8_in x2 1 99 = some 1 from a3, qb1_some, if10]
  clear a1 a2 a3
  subst e
  rcases rg x3 0 2 (by omega) (by omega) with ⟨a1, a2⟩ | ⟨a1, -, a2, a3⟩ | ⟨y, -, hy, e, a1, -, a2, a3⟩
  · rw [if_pos (show x3 < 0 from a1), show kX8_in x3 0 2 = some 0 from a2, qb1_some, if00, qOk2_some, qOk2_some]
    exact ⟨rfl, hR0⟩
  · rw [if_neg (show ¬ x3 < 0 from a1), if_neg (show ¬ x3 ≤ 2 from a2), show kX8_in x3 0 2 = some 0 from a3, qb1_some, if00, qOk2_some, qOk2_some]
    exact ⟨rfl, hR0⟩
  rw [if_neg (show ¬ x3 < 0 from a1), if_pos (show x3 ≤ 2 from a2), show kX8_in x3 0 2 = some 1 from a3, qb1_some, if10, qOk2_b1]
  clear a1 a2 a3
  subst e
  refine qOk.m (drawActs_eq hc hw hs hm) (fun N1 ⟨n1, n2⟩ => ?_)
  have hW : qW (yR s A m) := yR_W hw m
  have k1 : qK1 M1 N1 := ⟨fun k hk => n1 k (by omega), by rw [n1 39 (by omega)], n1 40 (by omega)⟩
  have ref : ∀ (y : Nat) (r1 : Int32) (O1 : qM), qK1 N1 O1 → (∀ M8 : qM, qDn M8 (yR s A m) → (if nI y = 0 then (qb1 (kX8_coal M8) (fun v36 => some v36)) else (if nI y = 1 then (qb1 (kX8_lamps M8) (fun v34 => qb1 (kX8_bits v34) (fun v35 => some v35))) else (some (nI (sVn (yR s A m) 8))))) = some r1) → qOk2 (qb1 (kX8_asNow M2) (fun M4 => qb1 (qlp (S := Int32 × Int32 × qM) (E := (qM)) (fun st => kX8_year_L43 (nI m) st.1 st.2.1 st.2.2) qFu (nI s, 0, M4)) (fun M8 => qb1 (qlp (S := Int32 × Int32) (E := (Int32)) (fun st => kX8_year_L189 M8 st.1 st.2) qFu (0, 0)) (fun v27 => qb1 (α := Int32) (if nI y = 0 then (qb1 (kX8_coal M8) (fun v36 => some v36)) else (if nI y = 1 then (qb1 (kX8_lamps M8) (fun v34 => qb1 (kX8_bits v34) (fun v35 => some v35))) else (some v27))) (fun v33 => some (v33, M8)))))) (fun r2 N2 => r2 = r1 ∧ qR O1 N2) := fun y r1 O1 hO hG => by
    rw [qOk2_b1]
    refine qOk.m (X8_asNow_eq M2) (fun N2 hN => ?_)
    obtain ⟨h1, h2, h3, -, -⟩ := hN
    have hn := asNow_D hd h1 h2 h3
    rw [qOk2_b1]
    refine qOk.m (yearLoop hn hw hs hm) (fun O2 ⟨o1, o2⟩ => ?_)
    rw [qOk2_b1]
    refine qOk.m (yearCount o2 hW) (fun v27 hv => ?_)
    rw [hv, hG O2 o2, qb1_some, qOk2_some]
    refine ⟨rfl, hR0.kept (k1.tr hO) ?_⟩
    exact ⟨by rw [o1 1 (by decide) (by decide), h1 1 (by decide) (by decide)], by rw [o1 3 (by decide) (by decide), h1 3 (by decide) (by decide)], by rw [o1 4 (by decide) (by decide), h1 4 (by decide) (by decide)], by rw [o1 5 (by decide) (by decide), h1 5 (by decide) (by decide)], by rw [o1 6 (by decide) (by decide), h1 6 (by decide) (by decide)], by rw [o1 7 (by decide) (by decide), h1 7 (by decide) (by decide)], by rw [o1 8 (by decide) (by decide), h1 8 (by decide) (by decide)], by rw [o1 9 (by decide) (by decide), h1 9 (by decide) (by decide)], by rw [o1 15 (by decide) (by decide), h1 15 (by decide) (by decide)], by rw [o1 16 (by decide) (by decide), h1 16 (by decide) (by decide)], by rw [o1 0 (by decide) (by decide), h3 2 (by decide) (by decide)], by rw [o1 0 (by decide) (by decide), h3 8 (by decide) (by decide)], by rw [o1 0 (by decide) (by decide), h3 9 (by decide) (by decide)], by rw [o1 0 (by decide) (by decide), h3 11 (by decide) (by decide)]⟩
  rcases (show y = 0 ∨ y = 1 ∨ y = 2 by omega) with z | z | z
  · subst z
    rw [if_pos (show nI 0 = (0 : Int32) from rfl), coalInAll_eq n2, qb1_some, qOk2_some]
    exact ref 0 _ _ qK1.rf (fun M8 h8 => by rw [if_pos (show nI 0 = (0 : Int32) from rfl), X8_coal_eq h8, qb1_some])
  · subst z
    rw [if_neg (show ¬ nI 1 = (0 : Int32) from by decide), if_neg (show ¬ nI 1 = (2 : Int32) from by decide), qOk2_b1]
    refine qOk.m (X0_shineOn_eq n2 hW (Or.inl (by omega))) (fun O1 ⟨o1, _, o3⟩ => ?_)
    rw [o3, J6_bits_eq (sB_lt _), qb1_some, qOk2_some]
    exact ref 1 _ _ ⟨fun c hc => o1 c (by omega) (by omega) (by omega), by rw [o1 39 (by omega) (by omega) (by omega)], o1 40 (by omega) (by omega) (by omega)⟩ (fun M8 h8 => by rw [if_neg (show ¬ nI 1 = (0 : Int32) from by decide), if_pos (show nI 1 = (1 : Int32) from rfl), X8_lamps_eq h8 hW, qb1_some, X8_bits_eq (sB_lt _), qb1_some])
  · subst z
    rw [if_neg (show ¬ nI 2 = (0 : Int32) from by decide), if_pos (show nI 2 = (2 : Int32) from rfl), X1_singing_eq n2 hW, qb1_some, show orL (fun v => if 0 < yR s A m 5 v then 2 ^ v else 0) 0 8 = sSi (yR s A m) from rfl, J6_bits_eq (Nat.lt_trans (sSi_lt _) (by decide)), qb1_some, qOk2_some]
    exact ref 2 _ _ qK1.rf (fun M8 h8 => by rw [if_neg (show ¬ nI 2 = (0 : Int32) from by decide), if_neg (show ¬ nI 2 = (1 : Int32) from by decide), bc_Si])
