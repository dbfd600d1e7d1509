/-! WAY -/
def sNx (P : Nat → Nat) (X s x j v : Nat) : Prop := (P x).testBit v = true ∧ rF P X s (j - 1) v
def sNr (P : Nat → Nat) (X s x j lo : Nat) (r : Int32) : Prop := (∃ v, lo ≤ v ∧ v < 10 ∧ sNx P X s x j v ∧ (∀ w, lo ≤ w → w < v → ¬ sNx P X s x j w) ∧ r = nI v) ∨ ((∀ v, lo ≤ v → v < 10 → ¬ sNx P X s x j v) ∧ r = -6)
theorem sNr_eq {P : Nat → Nat} {X s x j : Nat} {r r' : Int32} (h : sNr P X s x j 0 r) (h' : sNr P X s x j 0 r') : r' = r := by
  rcases h with ⟨v, -, v1, v2, v3, v4⟩ | ⟨v1, v2⟩
  · rcases h' with ⟨w, -, w1, w2, w3, w4⟩ | ⟨w1, w2⟩
    · have e : w = v := by
        have u1 : ¬ w < v := fun q => v3 w (Nat.zero_le _) q w2
        have u2 : ¬ v < w := fun q => w3 v (Nat.zero_le _) q v2
        omega
      rw [v4, w4, e]
    · exact absurd v2 (w1 v (Nat.zero_le _) v1)
  · rcases h' with ⟨w, -, w1, w2, w3, w4⟩ | ⟨w1, w2⟩
    · exact absurd w2 (v1 w (Nat.zero_le _) w1)
    · rw [v2, w2]
theorem fr_nx {P : Nat → Nat} {X s : Nat} {z : Int32} {f : Nat → Int32} (h : qFr P X s z f) (hz : ∀ k : Nat, k < 10 → ¬ z = nI k) {j v : Nat} (hj : 0 < j) (hj2 : j < 10) (hv : v < 10) : f v = nI (j - 1) ↔ rF P X s (j - 1) v := by
  rcases h v hv with ⟨i, hi, a, b⟩ | ⟨a, b⟩
  · rw [b, nI_inj (by omega) (by omega)]
    constructor
    · intro e
      rw [← e]
      exact a
    · intro e
      have u1 : ¬ i < j - 1 := fun q => e.2 i q a.1
      have u2 : ¬ j - 1 < i := fun q => a.2 (j - 1) q e.1
      omega
  · rw [b]
    exact ⟨fun e => absurd e (hz _ (by omega)), fun e => absurd e.1 (a _)⟩
theorem X6_next_eq {M : qM} {P : Nat → Nat} {X s x j : Nat} (hP : ∀ g, g < 10 → M (1 + 1) g = nI (P g)) (hl : ∀ g, g < 10 → P g < 1024) (hf : qFr P X s (-6) (M (63 + 1))) (hx : x < 10) (hj : 0 < j) (hj2 : j < 10) (e : M (63 + 1) x = nI j) : qOk (kX6_nextFrom 63 M (nI x) (1 + 1) 10) (fun r => sNr P X s x j 0 r) := by
  unfold kX6_nextFrom
  rw [qrd_k hx (by omega), e, if_neg (nI_m6 (by omega)), qrd_k hx (by omega), e, if_neg (fun z => by rw [show (0 : Int32) = nI 0 from rfl, nI_inj (by omega) (by omega)] at z; omega), qOk_e0]
  refine qlp_for (fun k st => st = nI k ∧ ∀ w, w < k → ¬ sNx P X s x j w) 10 (by omega) ⟨rfl, fun _ z => by omega⟩ ?_ ?_
  · rintro k st hk ⟨rfl, hn⟩
    unfold kX6_nextFrom_L25
    have pl := hl x hx
    rw [if_neg (show ¬ (10 : Int32) ≤ nI k from nI_ge hk (by decide)), qrd_k hx (by omega), hP x hx, X7_has_eq (by omega) (by omega), qb1_some]
    have no : ¬ sNx P X s x j k → qOk (qvl (nI k + 1) (fun v6 => some (Sum.inl (β := (Int32 ⊕ Unit)) v6))) (Sum.elim (fun st => st = nI (k + 1) ∧ ∀ w, w < k + 1 → ¬ sNx P X s x j w) (Sum.elim (fun a => qOk (some a) (fun r => sNr P X s x j 0 r)) (fun _ => qOk (some (-6)) (fun r => sNr P X s x j 0 r)))) := fun c => by
      rw [qvl_eq, qOk_some]
      refine ⟨by rw [nI_succ], fun w hw => ?_⟩
      by_cases q : w = k
      · subst q; exact c
      · exact hn w (by omega)
    by_cases c1 : (P x).testBit k = true
    · rw [if_pos c1, if10, qrd_k hk (by omega), qrd_k hx (by omega), e, tone_pred hj]
      by_cases c2 : M (63 + 1) k = nI (j - 1)
      · rw [if_pos c2, qOk_some]
        show qOk (some _) _
        rw [qOk_some]
        exact Or.inl ⟨k, Nat.zero_le _, hk, ⟨c1, (fr_nx hf (fun k hk z => nI_m6 (by omega) z.symm) hj hj2 hk).mp c2⟩, fun w _ hw => hn w hw, rfl⟩
      · rw [if_neg c2]
        exact no (fun z => c2 ((fr_nx hf (fun k hk z => nI_m6 (by omega) z.symm) hj hj2 hk).mpr z.2))
    · rw [if_neg c1, if00]
      exact no (fun z => c1 z.1)
  · rintro st ⟨rfl, hn⟩
    unfold kX6_nextFrom_L25
    rw [if_pos (show (10 : Int32) ≤ nI 10 from by decide), qOk_some]
    show qOk (some _) _
    rw [qOk_some]
    exact Or.inr ⟨fun v _ hv => hn v hv, rfl⟩
theorem X8_next_eq {M : qM} {P : Nat → Nat} {X s x j : Nat} (hP : ∀ g, g < 10 → M 6 g = nI (P g)) (hl : ∀ g, g < 10 → P g < 1024) (hf : qFr P X s 1000000 (M 11)) (hx : x < 10) (hs : s < 10) (hxs : x ≠ s) (hj : 0 < j) (hj2 : j < 10) (e : M 11 x = nI j) : qOk (qlp (S := Int32 × Int32) (E := (Int32)) (fun st => kX8_way_L84 (nI x) (nI s) M st.1 st.2) qFu ((-6), 9)) (fun r => sNr P X s x j 0 r) := by
  refine qlp_for (fun k st => st.2 = nI (10 - k) - 1 ∧ sNr P X s x j (10 - k) st.1) 10 (by omega) ⟨by decide, Or.inr ⟨fun v _ _ => by omega, rfl⟩⟩ ?_ ?_
  · rintro k ⟨r, y⟩ hk ⟨ey, hr⟩
    replace ey : y = nI (10 - k) - 1 := ey
    replace hr : sNr P X s x j (10 - k) r := hr
    obtain ⟨m, hm⟩ : ∃ m, 10 - k = m + 1 := ⟨9 - k, by omega⟩
    rw [hm] at ey hr
    rw [nI_pred] at ey
    subst ey
    show qOk (kX8_way_L84 (nI x) (nI s) M r (nI m)) _
    unfold kX8_way_L84
    have pl := hl x hx
    have hm10 : m < 10 := by omega
    rw [if_neg (show ¬ nI m < (0 : Int32) from nI_nlt (b := 0) (by omega) (by omega)), if_neg (fun z => hxs ((nI_inj (by omega) (by omega)).mp z)), qrd_k hx (by omega), hP x hx, X8_has_eq (by omega) (by omega), qb1_some]
    have e10 : 10 - (k + 1) = m := by omega
    have ed : nI m + (-1) = nI m - 1 := by rw [Int32.sub_eq_add_neg]
    have fin : ∀ r', sNr P X s x j m r' → qOk (qb1 (some r') (fun v14 => qvl (nI m + (-1)) (fun v17 => some (Sum.inl (β := Int32) (v14, v17))))) (Sum.elim (fun st => st.2 = nI (10 - (k + 1)) - 1 ∧ sNr P X s x j (10 - (k + 1)) st.1) (fun r => sNr P X s x j 0 r)) := fun r' h => by
      rw [qb1_some, qvl_eq, qOk_some, e10, ed]
      exact ⟨rfl, h⟩
    have no : ¬ sNx P X s x j m → sNr P X s x j m r := fun c => by
      rcases hr with ⟨v, v0, v1, v2, v3, v4⟩ | ⟨v1, v2⟩
      · refine Or.inl ⟨v, by omega, v1, v2, fun w w0 w1 => ?_, v4⟩
        by_cases q : w = m
        · subst q; exact c
        · exact v3 w (by omega) w1
      · refine Or.inr ⟨fun w w0 w1 => ?_, v2⟩
        by_cases q : w = m
        · subst q; exact c
        · exact v1 w (by omega) w1
    have hz : ∀ k : Nat, k < 10 → ¬ (1000000 : Int32) = nI k := fun k hk z => by
      rw [show (1000000 : Int32) = nI 1000000 from rfl, nI_inj (by omega) (by omega)] at z
      omega
    by_cases c1 : (P x).testBit m = true
    · rw [if_pos c1, if10, qrd_k hm10 (by omega), qrd_k hx (by omega), e]
      have eq : (M 11 m + 1 = nI j) ↔ M 11 m = nI (j - 1) := by
        rw [← tone_pred hj]
        constructor
        · intro z
          rw [← z, Int32.add_sub_cancel]
        · intro z
          rw [z, Int32.sub_add_cancel]
      by_cases c2 : M 11 m + 1 = nI j
      · rw [if_pos c2]
        exact fin (nI m) (Or.inl ⟨m, Nat.le_refl _, hm10, ⟨c1, (fr_nx hf hz hj hj2 hm10).mp (eq.mp c2)⟩, fun w w0 w1 => by omega, rfl⟩)
      · rw [if_neg c2]
        exact fin r (no (fun z => c2 (eq.mpr ((fr_nx hf hz hj hj2 hm10).mpr z.2))))
    · rw [if_neg c1, if00]
      exact fin r (no (fun z => c1 z.1))
  · rintro ⟨r, y⟩ ⟨ey, hr⟩
    replace ey : y = nI (10 - 10) - 1 := ey
    subst ey
    show qOk (kX8_way_L84 (nI x) (nI s) M r (nI (10 - 10) - 1)) _
    unfold kX8_way_L84
    rw [if_pos (by decide), qOk_some]
    exact hr
theorem X8_next_0 {M : qM} {x : Int32} : qOk (qlp (S := Int32 × Int32) (E := (Int32)) (fun st => kX8_way_L84 x x M st.1 st.2) qFu ((-6), 9)) (fun r => r = -6) := by
  refine qlp_for (fun _ st => st = (-6, 9)) 0 (by omega) rfl (fun _ _ z => by omega) ?_
  rintro st rfl
  show qOk (kX8_way_L84 x x M (-6) 9) _
  unfold kX8_way_L84
  rw [if_neg (by decide), if_pos rfl, qOk_some]
  rfl
theorem t_way : qT_way qR := by
  intro M1 M2 hR x1 x2 x3
  have hR0 := hR
  obtain ⟨⟨A, hc, hd, hw⟩, -, -, -⟩ := hR
  unfold kX7_way kX8_way
  rcases gal x1 with ⟨a1, a2⟩ | ⟨x, hx, e, a1, a2⟩
  · rw [a1, a2, qb1_some, qb1_some, if00, if00, qOk2_some, qOk2_some]
    exact ⟨rfl, hR0⟩
  rw [a1, a2, qb1_some, qb1_some, if10, if10]
  clear a1 a2
  subst e
  rcases gal x2 with ⟨a1, a2⟩ | ⟨s, hs, e, a1, a2⟩
  · rw [a1, a2, qb1_some, qb1_some, if00, if00, qOk2_some, qOk2_some]
    exact ⟨rfl, hR0⟩
  rw [a1, a2, qb1_some, qb1_some, if10, if10]
  clear a1 a2
  subst e
  rcases rg x3 0 1 (by omega) (by omega) with ⟨a1, a2⟩ | ⟨a1, -, a2, a3⟩ | ⟨y, -, hy, e, a1, -, a2, a3⟩
  · rw [if_pos (show x3 < 0 from a1), show kX8_in x3 0 1 = some 0 from a2, qb1_some, if00, qOk2_some, qOk2_some]
    exact ⟨rfl, hR0⟩
  · rw [if_neg (show ¬ x3 < 0 from a1), if_neg (show ¬ x3 ≤ 1 from a2), show kX8_in x3 0 1 = some 0 from a3, qb1_some, if00, qOk2_some, qOk2_some]
    exact ⟨rfl, hR0⟩
  rw [if_neg (show ¬ x3 < 0 from a1), if_pos (show x3 ≤ 1 from a2), show kX8_in x3 0 1 = some 1 from a3, qb1_some, if10, qOk2_b1]
  clear a1 a2 a3
  subst e
  refine qOk.m (X0_shineOn_eq hc hw (Or.inr (by omega))) (fun N1 ⟨f1, _, f3⟩ => ?_)
  have hc1 : qC 1 N1 A := hc.same (fun k _ _ => f1 k (by omega) (by omega) (by omega))
  obtain ⟨e1, e2⟩ := open_X hw.cl (sB_lt A)
  rw [f3, hc1.cl, e1, qOk2_b1]
  refine qOk.m (X6_measure_eq (b0 := 63) (k2 := 1 + 1) hc1.ps hw.ps (by decide) e2 hs) (fun O1 ⟨g1, g2⟩ => ?_)
  have hc2 : qC 1 O1 A := hc1.same (fun k _ _ => g1 k (by omega))
  have k1 : qK1 M1 O1 := ⟨fun k hk => by rw [g1 k (by omega), f1 k (by omega) (by omega) (by omega)], by rw [g1 39 (by omega), f1 39 (by omega) (by omega) (by omega)], by rw [g1 40 (by omega), f1 40 (by omega) (by omega) (by omega)]⟩
  obtain ⟨X, hX⟩ : ∃ X, X = sB A &&& (A 11 2 ^^^ 1023) := ⟨_, rfl⟩
  have ref : ∀ (r1 : Int32) (G : qM → Option (Int32 × qM)), (∀ O2 : qM, (∀ g, g < 10 → O2 6 g = nI (A 6 g)) → qFr (A 6) X s 1000000 (O2 11) → qOk2 (G O2) (fun r2 N => N = O2 ∧ r2 = r1)) → qOk2 (qb1 (kX8_asNow M2) (fun M4 => qb1 (kX8_lamps M4) (fun v5 => qrd (M4 1) 36 34 (fun v6 => qb1 (kX8_layFar M4 (nI s) (v5 &&& (v6 ^^^ (-1)))) G)))) (fun r2 N2 => r2 = r1 ∧ qR O1 N2) := fun r1 G hG => by
    rw [qOk2_b1]
    refine qOk.m (X8_asNow_eq M2) (fun N2 hN => ?_)
    obtain ⟨h1, h2, h3, -, -⟩ := hN
    have hn := asNow_D hd h1 h2 h3
    rw [X8_lamps_eq hn hw, qb1_some, show (34 : Int32) = nI 34 from rfl, qrd_k (show 34 < 36 by omega) (by omega), h1 1 (by decide) (by decide), hd.cl, e1, qOk2_b1]
    refine qOk.m (X8_layFar_eq (P := A 6) hn.ps hw.ps e2 hs) (fun O2 ⟨o1, o2⟩ => ?_)
    rw [← hX] at o2
    refine qOk2.m (hG O2 (fun g hg => by rw [o1 6 (by decide)]; exact hn.ps g hg) o2) (fun r2 N ⟨en, er⟩ => ?_)
    subst en
    refine ⟨er, hR0.kept k1 ?_⟩
    exact ⟨by rw [o1 1 (by decide), h1 1 (by decide) (by decide)], by rw [o1 3 (by decide), h1 3 (by decide) (by decide)], by rw [o1 4 (by decide), h1 4 (by decide) (by decide)], by rw [o1 5 (by decide), h1 5 (by decide) (by decide)], by rw [o1 6 (by decide), h1 6 (by decide) (by decide)], by rw [o1 7 (by decide), h1 7 (by decide) (by decide)], by rw [o1 8 (by decide), h1 8 (by decide) (by decide)], by rw [o1 9 (by decide), h1 9 (by decide) (by decide)], by rw [o1 15 (by decide), h1 15 (by decide) (by decide)], by rw [o1 16 (by decide), h1 16 (by decide) (by decide)], by rw [o1 0 (by decide), h3 2 (by decide) (by decide)], by rw [o1 0 (by decide), h3 8 (by decide) (by decide)], by rw [o1 0 (by decide), h3 9 (by decide) (by decide)], by rw [o1 0 (by decide), h3 11 (by decide) (by decide)]⟩
  rw [← hX] at g2
  rcases (show y = 0 ∨ y = 1 by omega) with rfl | rfl
  · rw [if_pos (show nI 0 = (0 : Int32) from rfl), qrd_k hx (by omega), qb1_some, qOk2_some]
    refine ref _ _ (fun O2 _ o2 => ?_)
    rw [qrd_k hx (by omega)]
    rcases fr_m6 g2 o2 hx with ⟨j, hj, -, a, b⟩ | ⟨-, a, b⟩
    · rw [b, if_pos (show nI j < (1000000 : Int32) from nI_lt (b := 1000000) (by omega) (by decide)), if_pos (show nI 0 = (0 : Int32) from rfl), qrd_k hx (by omega), qOk2_some, a, b]
      exact ⟨rfl, rfl⟩
    · rw [b, if_neg (by decide), qOk2_some, a]
      exact ⟨rfl, rfl⟩
  · rw [if_neg (show ¬ nI 1 = (0 : Int32) from by decide)]
    rcases g2 x hx with ⟨j, hj, a, b⟩ | ⟨a, b⟩
    · by_cases j0 : j = 0
      · subst j0
        have xs : s = x := ((rS_0 x).mp a.1).2
        unfold kX6_nextFrom
        rw [qrd_k hx (by omega), b, if_neg (nI_m6 (by omega)), qrd_k hx (by omega), b, if_pos (show nI 0 = (0 : Int32) from rfl), qb1_some, qb1_some, qOk2_some]
        refine ref _ _ (fun O2 _ o2 => ?_)
        rw [qrd_k hx (by omega)]
        rcases fr_m6 g2 o2 hx with ⟨i, hi, -, a', b'⟩ | ⟨z, -, -⟩
        · rw [b', if_pos (show nI i < (1000000 : Int32) from nI_lt (b := 1000000) (by omega) (by decide)), if_neg (show ¬ nI 1 = (0 : Int32) from by decide), qOk2_b1, xs]
          refine qOk.m X8_next_0 (fun r hr => ?_)
          rw [hr, qOk2_some]
          exact ⟨rfl, rfl⟩
        · exact absurd a.1 (z 0)
      · have xs : x ≠ s := fun q => by
          have xx := rS_X _ _ a.1
          exact a.2 0 (by omega) ((rS_0 x).mpr ⟨xx, q.symm⟩)
        rw [qOk2_b1, qOk_b1]
        refine qOk.m (X6_next_eq hc2.ps hw.ps g2 hx (by omega) hj b) (fun r hr => ?_)
        rw [qOk_some, qOk2_some]
        refine ref _ _ (fun O2 p2 o2 => ?_)
        rw [qrd_k hx (by omega)]
        rcases fr_m6 g2 o2 hx with ⟨i, hi, -, a', b'⟩ | ⟨z, -, -⟩
        · have ij : i = j := (nI_inj (by omega) (by omega)).mp (a'.symm.trans b)
          subst ij
          rw [b', if_pos (show nI i < (1000000 : Int32) from nI_lt (b := 1000000) (by omega) (by decide)), if_neg (show ¬ nI 1 = (0 : Int32) from by decide), qOk2_b1]
          refine qOk.m (X8_next_eq p2 hw.ps o2 hx hs xs (by omega) hi b') (fun r' hr' => ?_)
          rw [qOk2_some]
          exact ⟨rfl, sNr_eq hr hr'⟩
        · exact absurd a.1 (z j)
    · unfold kX6_nextFrom
      rw [qrd_k hx (by omega), b, if_pos rfl, qb1_some, qb1_some, qOk2_some]
      refine ref _ _ (fun O2 _ o2 => ?_)
      rw [qrd_k hx (by omega)]
      rcases fr_m6 g2 o2 hx with ⟨i, hi, z, -, -⟩ | ⟨-, -, b'⟩
      · exact absurd z.1 (a i)
      · rw [b', if_neg (by decide), qOk2_some]
        exact ⟨rfl, rfl⟩
