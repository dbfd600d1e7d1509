/-! losts -/
theorem Lb_row {A : qN} (hw : qW A) (g : Nat) : hcn (Lb A) (100 * g + 100) = hcn (Lb A) (100 * g) + hcn (fF (dA A) A g (A 11 4)).testBit 24 := by
  rw [show 100 * g + 100 = 100 * g + 24 + 76 by omega, hcn_no (a := 100 * g + 24) 76 (fun n hn => by rw [show 100 * g + 24 + n = 100 * g + (24 + n) by omega]; exact Lb_hi (by omega) (by omega))]
  exact hcn_sh 24 (fun n hn => Lb_lo hw hn)
theorem fitCount_eq {M : qM} {A : qN} (hw : qW A) (hf : ∀ g, g < 10 → M 68 g = nI (fF (dA A) A g (A 11 4))) : kX3_fitCount M = some (nI (hcn (Lb A) 1000)) := by
  unfold kX3_fitCount
  refine qOk_eq ?_
  rw [qOk_b1]
  refine qlp_for (fun k s => s = (nI (hcn (Lb A) (100 * k)), nI k)) 10 (by omega) rfl ?_ ?_
  · rintro k s hk rfl
    show qOk (kX3_fitCount_L4 M (nI (hcn (Lb A) (100 * k))) (nI k)) _
    unfold kX3_fitCount_L4
    rw [if_neg (show ¬ (10 : Int32) ≤ nI k from nI_ge (b := 10) hk (by decide)), qrd_k hk (by omega), hf k hk, fam_count (fF_fam hw _ (Nat.le_refl _)), qb1_some, nI_add, ← Lb_row hw k, qvl_eq, qvl_eq, nI_1, qOk_some]
    show (_, _) = (_, _)
    rw [show 100 * (k + 1) = 100 * k + 100 by omega]
  · rintro s rfl
    show qOk (kX3_fitCount_L4 M (nI (hcn (Lb A) (100 * 10))) (nI 10)) _
    unfold kX3_fitCount_L4
    rw [if_pos (show (10 : Int32) ≤ nI 10 from by decide), qOk_some]
    show qOk (some (nI (hcn (Lb A) 1000))) _
    rw [qOk_some]
def lR (p : Nat → Bool) (i : Nat) (r : Int32) : Prop := (∃ l, l < 1000 ∧ p l = true ∧ hcn p l = i ∧ r = nI l) ∨ ((∀ l, l < 1000 → p l = true → hcn p l ≠ i) ∧ r = -6)
theorem lR_u {p : Nat → Bool} {i : Nat} {r r' : Int32} (h : lR p i r) (h' : lR p i r') : r' = r := by
  rcases h with ⟨l, a, b, c, d⟩ | ⟨a, b⟩
  · rcases h' with ⟨l', a', b', c', d'⟩ | ⟨a', -⟩
    · rw [d, d', hcn_u b' b (by omega)]
    · exact absurd c (a' l a b)
  · rcases h' with ⟨l', a', b', c', d'⟩ | ⟨-, b'⟩
    · exact absurd c' (a l' a' b')
    · rw [b, b']
theorem fitAt_eq {M : qM} {A : qN} (hw : qW A) (hf : ∀ g, g < 10 → M 68 g = nI (fF (dA A) A g (A 11 4))) {i : Nat} (hi : i < 2147483648) : qOk (kX3_fitAt M (nI i)) (fun r => lR (Lb A) i r) := by
  unfold kX3_fitAt
  rw [if_pos (nI_pos' hi), qOk_e0]
  refine qlp_for (fun g s => hcn (Lb A) (100 * g) ≤ i ∧ s = (nI (i - hcn (Lb A) (100 * g)), nI g)) 10 (by omega) ⟨Nat.zero_le _, rfl⟩ ?_ ?_
  · rintro g s hg ⟨q, rfl⟩
    show qOk (kX3_fitAt_L11 M (nI (i - hcn (Lb A) (100 * g))) (nI g)) _
    unfold kX3_fitAt_L11
    have fa := fF_fam hw (g := g) (A 11 4) (Nat.le_refl _)
    have row := Lb_row hw g
    have cl := hcn_le (fF (dA A) A g (A 11 4)).testBit 24
    rw [if_neg (show ¬ (10 : Int32) ≤ nI g from nI_ge (b := 10) hg (by decide)), qrd_k hg (by omega), hf g hg, fam_count fa, qb1_some]
    by_cases c : hcn (fF (dA A) A g (A 11 4)).testBit 24 ≤ i - hcn (Lb A) (100 * g)
    · rw [if_pos (nI_le c (by omega)), pk_sub c, qvl_eq, qvl_eq, nI_1, qOk_some]
      refine ⟨by rw [show 100 * (g + 1) = 100 * g + 100 by omega]; omega, ?_⟩
      rw [show 100 * (g + 1) = 100 * g + 100 by omega, row, Nat.sub_sub]
    · obtain ⟨n, h1, h2, h3, h4⟩ := fam_at fa (show i - hcn (Lb A) (100 * g) < _ by omega)
      rw [if_neg (nI_ge (by omega) (by omega)), qrd_k hg (by omega), hf g hg, h4, qb1_some, show (100 : Int32) * nI g + nI n = nI (100 * g + n) by rw [show (100 : Int32) * nI g = nI (100 * g) from pk_mul 100 g, nI_add], qOk_some]
      show qOk (some (nI (100 * g + n))) _
      rw [qOk_some]
      refine Or.inl ⟨100 * g + n, by omega, by rw [Lb_lo hw h1]; exact h2, ?_, rfl⟩
      rw [hcn_sh n (fun m hm => Lb_lo hw (show m < 24 by omega)), h3]
      omega
  · rintro s ⟨q, rfl⟩
    show qOk (kX3_fitAt_L11 M (nI (i - hcn (Lb A) (100 * 10))) (nI 10)) _
    unfold kX3_fitAt_L11
    rw [if_pos (show (10 : Int32) ≤ nI 10 from by decide), qOk_some]
    show qOk (some (-6 : Int32)) _
    rw [qOk_some]
    refine Or.inr ⟨fun l hl z e => ?_, rfl⟩
    have a := hcn_y z
    have b := hcn_mo (Lb A) (show l + 1 ≤ 1000 by omega)
    change hcn (Lb A) 1000 ≤ i at q
    omega
theorem X8_losts_eq {M : qM} {A : qN} (h : qDm M A) (hw : qW A) (x1 : Int32) : qOk2 (kX8_losts M x1) (fun r N => (∀ c, c ≠ 11 → c ≠ 13 → N c = M c) ∧ ((∃ l, l < 1000 ∧ Lb A l = true ∧ nI (hcn (Lb A) l) = x1 ∧ r = nI l) ∨ ((∀ l, l < 1000 → Lb A l = true → nI (hcn (Lb A) l) ≠ x1) ∧ r = if x1 = -1 then nI (hcn (Lb A) 1000) else -6))) := by
  unfold kX8_losts
  rw [qOk2_b1]
  refine qOk.m (layApart_eq h hw) (fun N ⟨n1, n2⟩ => ?_)
  have hN : qDm N A := h.sm (fun c hc => n1 c (by omega) (by omega))
  show qOk _ _
  rw [qOk_e1]
  refine qlp_for (fun k s => s = (nI (hcn (Lb A) k), nI k) ∧ ∀ l, l < k → Lb A l = true → nI (hcn (Lb A) l) ≠ x1) 1000 (by omega) ⟨rfl, fun l hl => by omega⟩ ?_ ?_
  · rintro k s hk ⟨rfl, q⟩
    show qOk (kX8_losts_L8 N x1 (nI (hcn (Lb A) k)) (nI k)) _
    unfold kX8_losts_L8
    rw [if_neg (show ¬ (1000 : Int32) ≤ nI k from nI_ge (b := 1000) hk (by decide)), isLost_eq hN hw n2 hk, qb1_some]
    by_cases c : Lb A k = true
    · rw [if_pos c, if10]
      by_cases e : nI (hcn (Lb A) k) = x1
      · rw [if_pos e, qOk_some]
        show qOk (some (nI k, N)) _
        rw [qOk_some]
        exact ⟨n1, Or.inl ⟨k, hk, c, e, rfl⟩⟩
      · rw [if_neg e, nI_1, qvl_eq, nI_1, qvl_eq, qOk_some]
        refine ⟨by rw [hcn_y c], fun l hl z => ?_⟩
        by_cases w : l = k
        · rw [w]
          exact e
        · exact q l (by omega) z
    · rw [if_neg c, if00, nI_1, qvl_eq, qOk_some]
      refine ⟨by rw [hcn_n c], fun l hl z => ?_⟩
      by_cases w : l = k
      · rw [w] at z
        exact absurd z c
      · exact q l (by omega) z
  · rintro s ⟨rfl, q⟩
    show qOk (kX8_losts_L8 N x1 (nI (hcn (Lb A) 1000)) (nI 1000)) _
    unfold kX8_losts_L8
    rw [if_pos (show (1000 : Int32) ≤ nI 1000 from by decide), qOk_some]
    show qOk (qb1 (α := Int32) (if x1 = (-1) then (some (nI (hcn (Lb A) 1000))) else (some (-6))) (fun v9 => some (v9, N))) _
    by_cases c : x1 = -1
    · rw [if_pos c, qb1_some, qOk_some]
      exact ⟨n1, Or.inr ⟨q, by rw [if_pos c]⟩⟩
    · rw [if_neg c, qb1_some, qOk_some]
      exact ⟨n1, Or.inr ⟨q, by rw [if_neg c]⟩⟩
theorem ap_K {M N : qM} (h : ∀ c, c ≠ 11 → c ≠ 13 → c ≠ 14 → N c = M c) : qK2 M N :=
  ⟨h 1 (by decide) (by decide) (by decide), h 3 (by decide) (by decide) (by decide), h 4 (by decide) (by decide) (by decide), h 5 (by decide) (by decide) (by decide), h 6 (by decide) (by decide) (by decide), h 7 (by decide) (by decide) (by decide), h 8 (by decide) (by decide) (by decide), h 9 (by decide) (by decide) (by decide), h 15 (by decide) (by decide) (by decide), h 16 (by decide) (by decide) (by decide), by rw [h 0 (by decide) (by decide) (by decide)], by rw [h 0 (by decide) (by decide) (by decide)], by rw [h 0 (by decide) (by decide) (by decide)], by rw [h 0 (by decide) (by decide) (by decide)]⟩
theorem t_losts : qT_losts qR := by
  intro M1 M2 hR x1
  have hR0 := hR
  obtain ⟨⟨A, hc, hd, hw⟩, -, -, -⟩ := hR
  unfold kX7_losts
  rw [qOk2_b1]
  refine qOk.m (findFits_eq hc hw) (fun N1 ⟨n1, n2⟩ => ?_)
  have k1 : qK1 M1 N1 := ⟨fun k hk => n1 k (by omega) (by omega), by rw [n1 39 (by omega) (by omega)], n1 40 (by omega) (by omega)⟩
  have hb := hcn_le (Lb A)
  by_cases c : x1 = -1
  · rw [if_pos c, fitCount_eq hw n2, qb1_some, qb1_some, qOk2_some]
    refine qOk2.m (X8_losts_eq hd hw x1) (fun r N2 ⟨u1, u2⟩ => ?_)
    have hk : qR N1 N2 := hR0.kept k1 (ap_K (fun c a b _ => u1 c a b))
    rcases u2 with ⟨l, a1, a2, a3, -⟩ | ⟨-, a2⟩
    · rw [c] at a3
      exact absurd a3 (nI_m1 (by have := hb l; omega))
    · rw [a2, if_pos c]
      exact ⟨rfl, hk⟩
  · rw [if_neg c]
    rcases Classical.em (x1 < 0) with a | a
    · have e1 : kX3_fitAt N1 x1 = some (-6) := by
        unfold kX3_fitAt
        rw [if_neg (Int32.not_le.mpr a)]
      rw [e1, qb1_some, qb1_some, qOk2_some]
      refine qOk2.m (X8_losts_eq hd hw x1) (fun r N2 ⟨u1, u2⟩ => ?_)
      have hk : qR N1 N2 := hR0.kept k1 (ap_K (fun c a b _ => u1 c a b))
      rcases u2 with ⟨l, a1, a2, a3, -⟩ | ⟨-, a2⟩
      · rw [← a3] at a
        exact absurd a (nI_pos (by have := hb l; omega))
      · rw [a2, if_neg c]
        exact ⟨rfl, hk⟩
    · obtain ⟨i, hi, e⟩ := nI_of a
      rw [e]
      refine (qOk2_b1.mpr (qOk_b1.mpr (qOk.m (fitAt_eq hw n2 (i := i) (by omega)) (fun r1 hr1 => ?_))))
      rw [qOk_some, qOk2_some]
      refine qOk2.m (X8_losts_eq hd hw (nI i)) (fun r N2 ⟨u1, u2⟩ => ?_)
      have hk : qR N1 N2 := hR0.kept k1 (ap_K (fun c a b _ => u1 c a b))
      refine ⟨lR_u hr1 ?_, hk⟩
      rcases u2 with ⟨l, a1, a2, a3, a4⟩ | ⟨a1, a2⟩
      · exact Or.inl ⟨l, a1, a2, (nI_inj (by have := hb l; omega) (by omega)).mp a3, a4⟩
      · exact Or.inr ⟨fun l h1 h2 h3 => a1 l h1 h2 (by rw [h3]), by rw [a2, if_neg (nI_m1 (by omega))]⟩
