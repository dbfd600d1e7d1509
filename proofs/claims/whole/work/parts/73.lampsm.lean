/-! LAMPS of the reference -/
theorem in_nI {k a b : Nat} (hk : k < 2147483648) (ha : a < 2147483648) (hb : b < 2147483648) : (nI a ≤ nI k ∧ nI k ≤ nI b) ↔ a ≤ k ∧ k ≤ b := by rw [nI_leI ha hk, nI_leI hk hb]
theorem X8_isThere_eq {M : qM} {T k : Nat} (h : M 0 2 = nI T) (hT : T < 256) (hk : k < 8) : kX8_isThere M (nI k) = some (if T.testBit k = true then 1 else 0) := by
  unfold kX8_isThere
  rw [X8_in_eq, if_pos (show (0 : Int32) ≤ nI k ∧ nI k ≤ 7 from (in_nI (a := 0) (b := 7) (by omega) (by decide) (by decide)).mpr ⟨Nat.zero_le _, by omega⟩), qb1_some, if_neg (by decide), h, X8_has_eq (by omega) (by omega), qb1_some]
  by_cases t : T.testBit k = true
  · rw [if_pos t, if_neg (by decide)]; rfl
  · rw [if_neg t, if_pos rfl]; rfl
theorem X8_isThere_out {M : qM} {x : Int32} (hx : ¬ (0 ≤ x ∧ x < 8)) : kX8_isThere M x = some 0 := by
  unfold kX8_isThere
  rw [X8_in_eq, if_neg ?_]
  · rfl
  · intro z
    refine hx ⟨z.1, ?_⟩
    have h7 : (7 : Int32).toInt = 7 := by decide
    have h8 : (8 : Int32).toInt = 8 := by decide
    have := Int32.le_iff_toInt_le.mp z.2
    rw [Int32.lt_iff_toInt_lt]
    omega
theorem X1_isThere_eq {b : Nat} {M : qM} {T k : Nat} (h : M b 5 = nI T) (hT : T < 256) (hk : k < 8) : kX1_isThere b M (nI k) = some (if T.testBit k = true then 1 else 0) := by
  unfold kX1_isThere
  rw [X7_isVoice_eq, if_pos (show (0 : Int32) ≤ nI k ∧ nI k < 8 from ⟨nI_pos' (by omega), nI_lt hk (by decide)⟩), qb1_some, if_neg (by decide), h, X7_has_eq (by omega) (by omega), qb1_some]
  by_cases t : T.testBit k = true
  · rw [if_pos t, if_neg (by decide)]; rfl
  · rw [if_neg t, if_pos rfl]; rfl
theorem X1_isThere_out {b : Nat} {M : qM} {x : Int32} (hx : ¬ (0 ≤ x ∧ x < 8)) : kX1_isThere b M x = some 0 := by
  unfold kX1_isThere
  rw [X7_isVoice_eq, if_neg hx]
  rfl
theorem now_tab : ∀ t, t < 25 → (((if t = 0 then (-6 : Int32) else nI (t - 1)) < 0) ↔ t = 0) := by decide
theorem lit_add (a k : Nat) : nI a + nI k = nI (a + k) := nI_add a k
def qab2 (d : Int32) : Int32 := if 0 ≤ d then d else -d
theorem dif2_tab : ∀ a, a < 25 → 0 < a → ∀ b, b < 25 → 0 < b → ((qab2 (nI (a - 1) - nI (b - 1)) = 3 ∨ qab2 (nI (a - 1) - nI (b - 1)) = 4) ↔ sDif a b = true) := by decide
section LM
variable {M : qM} {A : qN}
theorem X8_sings_eq (h : qDn M A) (hw : qW A) {k g : Nat} (hk : k < 8) (hg : g < 10) : kX8_sings M (nI k) (nI g) = some (if 0 < A 5 k ∧ A 0 k = g then 1 else 0) := by
  unfold kX8_sings
  rw [X8_isThere_eq h.th hw.th hk, qb1_some]
  by_cases t : (A 11 0).testBit k = true
  · rw [if_neg (by rw [ite01_0]; exact fun z => z t), show (16 : Int32) + nI k = nI (16 + k) from nI_add 16 k, qrd_k (show 16 + k < 36 by omega) (by omega), h.pl k hk, qrd_k (show k < 36 by omega) (by omega), h.no k hk t]
    have p1 := hw.pl k hk
    have p2 := now_tab (A 5 k) (by have := hw.to k hk; omega)
    by_cases e : A 0 k = g
    · rw [if_pos (by rw [e])]
      by_cases z : A 5 k = 0
      · rw [if_pos (p2.mpr z), if_neg (by omega)]; rfl
      · rw [if_neg (fun y => z (p2.mp y)), if_pos ⟨by omega, e⟩]; rfl
    · rw [if_neg (fun y => e ((nI_inj (by omega) (by omega)).mp y)), if_neg (fun y => e y.2)]; rfl
  · rw [if_pos (by rw [ite01_0]; exact t), if_neg (fun y => t (hw.sg k hk y.1).2)]; rfl
theorem X8_areHushed_eq (h : qDn M A) (hw : qW A) {k x : Nat} (hk : k < 8) (hx : x < 8) (pk : 0 < A 5 k) (px : 0 < A 5 x) : kX8_areHushed M (nI k) (nI x) = some (if sDif (A 5 k) (A 5 x) = true then 1 else 0) := by
  unfold kX8_areHushed
  rw [qrd_k (show k < 36 by omega) (by omega), qrd_k (show x < 36 by omega) (by omega), h.no k hk (hw.sg k hk pk).2, h.no x hx (hw.sg x hx px).2, if_neg (by omega), if_neg (by omega), qvl_eq]
  have ht := dif2_tab (A 5 k) (by have := hw.to k hk; omega) pk (A 5 x) (by have := hw.to x hx; omega) px
  unfold qab2 at ht
  rw [show (if 0 ≤ nI (A 5 k - 1) - nI (A 5 x - 1) then some (nI (A 5 k - 1) - nI (A 5 x - 1)) else some (-(nI (A 5 k - 1) - nI (A 5 x - 1)))) = some (if 0 ≤ nI (A 5 k - 1) - nI (A 5 x - 1) then nI (A 5 k - 1) - nI (A 5 x - 1) else -(nI (A 5 k - 1) - nI (A 5 x - 1))) by split <;> rfl, qb1_some]
  by_cases d : sDif (A 5 k) (A 5 x) = true
  · rw [if_pos d]
    rcases ht.mpr d with e | e
    · rw [if_pos e]; rfl
    · rw [if_neg (by rw [e]; decide), if_pos e]; rfl
  · rw [if_neg d, if_neg (fun e => d (ht.mp (Or.inl e))), if_neg (fun e => d (ht.mp (Or.inr e)))]; rfl
/-- the inner loop: whether v's note counts in its gallery -/
theorem X8_counts_eq (h : qDn M A) (hw : qW A) {v : Nat} (hv : v < 8) {g : Nat} (hg : g < 10) : qOk (qlp (S := Int32 × Int32) (E := (Int32)) (fun s => kX8_ownLight_L21 M (nI g) (nI v) s.1 s.2) qFu ((if 0 < A 5 v ∧ A 0 v = g then 1 else 0), 0)) (fun r => r = if 0 < A 5 v ∧ A 0 v = g ∧ sHu A v = false then 1 else 0) := by
  by_cases t : 0 < A 5 v ∧ A 0 v = g
  · rw [if_pos t]
    refine qlp_for (fun k s => s.2 = nI k ∧ s.1 = if (∀ w, w < k → sCl A v w = false) then 1 else 0) 8 (by omega) ⟨rfl, by rw [if_pos (fun w hw => by omega)]⟩ ?_ ?_
    · rintro k ⟨a, c⟩ hk ⟨e, e2⟩
      have e : c = nI k := e
      subst e
      have e2 : a = if (∀ w, w < k → sCl A v w = false) then 1 else 0 := e2
      show qOk (kX8_ownLight_L21 M (nI g) (nI v) a (nI k)) _
      unfold kX8_ownLight_L21
      rw [if_neg (show ¬ (8 : Int32) ≤ nI k from nI_ge hk (by decide))]
      by_cases c : ∀ w, w < k → sCl A v w = false
      · rw [if_pos c] at e2
        subst e2
        have nx : ∀ q : Prop, [Decidable q] → (q ↔ sCl A v k = false) → (if q then (1 : Int32) else 0) = if (∀ w, w < k + 1 → sCl A v w = false) then 1 else 0 := by
          intro q _ hq
          by_cases z : sCl A v k = false
          · rw [if_pos (hq.mpr z), if_pos (fun w hw => by
              by_cases e : w = k
              · subst e; exact z
              · exact c w (by omega))]
          · rw [if_neg (fun y => z (hq.mp y)), if_neg (fun y => z (y k (by omega)))]
        have p2 := hw.ga
        rw [if_neg (by decide), h.ga, X8_has_eq (by omega) (by omega), qb1_some]
        by_cases gb : (A 11 1).testBit g = true
        · rw [if_neg (by rw [ite01_0]; exact fun z => z gb)]
          by_cases ev : k = v
          · rw [if_pos (by rw [ev]), qb1_some, qvl_eq, qOk_some]
            refine ⟨nI_1 k, ?_⟩
            show (1 : Int32) = _
            rw [← nx True ⟨fun _ => ?_, fun _ => trivial⟩, if_pos trivial]
            subst ev
            unfold sCl sDif
            have : decide (A 5 k = A 5 k + 3) = false := by simp
            simp
          · rw [if_neg (fun y => ev ((nI_inj (by omega) (by omega)).mp y)), X8_sings_eq h hw hk hg, qb1_some]
            by_cases s : 0 < A 5 k ∧ A 0 k = g
            · rw [if_neg (by rw [ite01_0]; exact fun z => z s), X8_areHushed_eq h hw hv hk t.1 s.1, qb1_some]
              have hc : sCl A v k = sDif (A 5 v) (A 5 k) := by
                unfold sCl
                rw [t.2, s.2, gb, decide_eq_true t.1, decide_eq_true s.1]
                simp
              by_cases d : sDif (A 5 v) (A 5 k) = true
              · rw [if_neg (by rw [ite01_0]; exact fun z => z d), qb1_some, qvl_eq, qOk_some]
                refine ⟨nI_1 k, ?_⟩
                show (0 : Int32) = _
                rw [← nx False ⟨fun z => z.elim, fun z => by rw [hc, d] at z; cases z⟩, if_neg (fun z => z)]
              · rw [if_pos (by rw [ite01_0]; exact d), qb1_some, qvl_eq, qOk_some]
                refine ⟨nI_1 k, ?_⟩
                show (1 : Int32) = _
                rw [← nx True ⟨fun _ => by rw [hc]; exact Bool.eq_false_iff.mpr d, fun _ => trivial⟩, if_pos trivial]
            · rw [if_pos (by rw [ite01_0]; exact s), qb1_some, qvl_eq, qOk_some]
              refine ⟨nI_1 k, ?_⟩
              show (1 : Int32) = _
              rw [← nx True ⟨fun _ => ?_, fun _ => trivial⟩, if_pos trivial]
              refine Bool.eq_false_iff.mpr (fun z => ?_)
              unfold sCl at z
              simp only [Bool.and_eq_true, decide_eq_true_eq] at z
              exact s ⟨z.1.2.1.2, by rw [← z.1.2.2]; exact t.2⟩
        · rw [if_pos (by rw [ite01_0]; exact gb), qb1_some, qvl_eq, qOk_some]
          refine ⟨nI_1 k, ?_⟩
          show (1 : Int32) = _
          rw [← nx True ⟨fun _ => ?_, fun _ => trivial⟩, if_pos trivial]
          unfold sCl
          rw [t.2, Bool.eq_false_iff.mpr gb]
          rfl
      · rw [if_neg c] at e2
        subst e2
        rw [if_pos rfl, qOk_some]
        show (0 : Int32) = _
        rw [if_neg (fun z => c (fun w hw => sAny_f.mp z.2.2 w (by omega)))]
    · rintro ⟨a, c⟩ ⟨e, e2⟩
      have e : c = nI 8 := e
      subst e
      change a = _ at e2
      show qOk (kX8_ownLight_L21 M (nI g) (nI v) a (nI 8)) _
      unfold kX8_ownLight_L21
      rw [if_pos (show (8 : Int32) ≤ nI 8 from Int32.le_refl _), qOk_some]
      show a = _
      rw [e2]
      by_cases c : ∀ w, w < 8 → sCl A v w = false
      · rw [if_pos c, if_pos ⟨t.1, t.2, sAny_f.mpr c⟩]
      · rw [if_neg c, if_neg (fun z => c (sAny_f.mp z.2.2))]
  · rw [if_neg t, if_neg (fun z => t ⟨z.1, z.2.1⟩)]
    refine qlp_for (fun k s => s = (0, nI 0)) 0 (by omega) rfl (fun k s hk => by omega) ?_
    rintro s rfl
    show qOk (kX8_ownLight_L21 M (nI g) (nI v) 0 (nI 0)) _
    unfold kX8_ownLight_L21
    rw [if_neg (show ¬ (8 : Int32) ≤ nI 0 from by decide), if_pos rfl, qOk_some]
    rfl
theorem tone_p1 {t : Nat} (h : 0 < t) : nI (t - 1) + 1 = nI t := by rw [nI_1, show t - 1 + 1 = t by omega]
theorem X8_ownLight_eq (h : qDn M A) (hw : qW A) {g : Nat} (hg : g < 10) : kX8_ownLight M (nI g) = some (nI (sOwn A g 8)) := by
  refine qOk_eq ?_
  unfold kX8_ownLight
  rw [qOk_b1]
  refine qlp_for (fun v s => s = (nI (sOwn A g v), nI v)) 8 (by omega) rfl ?_ ?_
  · rintro v s hv rfl
    show qOk (kX8_ownLight_L4 M (nI g) (nI (sOwn A g v)) (nI v)) _
    unfold kX8_ownLight_L4
    rw [if_neg (show ¬ (8 : Int32) ≤ nI v from nI_ge hv (by decide)), X8_sings_eq h hw hv hg, qb1_some, qOk_b1]
    refine qOk.m (X8_counts_eq h hw hv hg) (fun r hr => ?_)
    subst hr
    have p1 := sOwn_le hw g v (by omega)
    have p2 := hw.to v hv
    by_cases c : 0 < A 5 v ∧ A 0 v = g ∧ sHu A v = false
    · rw [if_pos c, if_neg (by decide), qrd_k (show v < 36 by omega) (by omega), qrd_k (show v < 36 by omega) (by omega), h.no v hv (hw.sg v hv c.1).2, if_neg (show ¬ A 5 v = 0 by omega), tone_p1 c.1]
      by_cases l : A 5 v ≤ sOwn A g v
      · rw [if_pos ((nI_leI (by omega) (by omega)).mpr l), qb1_some, qvl_eq, qOk_some]
        show (nI (sOwn A g v), nI v + 1) = (nI (sOwn A g (v + 1)), nI (v + 1))
        rw [nI_1, sOwn_s, if_pos c, Nat.max_eq_left l]
      · rw [if_neg (fun z => l ((nI_leI (by omega) (by omega)).mp z)), qb1_some, qvl_eq, qOk_some]
        show (nI (A 5 v), nI v + 1) = (nI (sOwn A g (v + 1)), nI (v + 1))
        rw [nI_1, sOwn_s, if_pos c, Nat.max_eq_right (by omega)]
    · rw [if_neg c, if_pos rfl, qb1_some, qvl_eq, qOk_some]
      show (nI (sOwn A g v), nI v + 1) = (nI (sOwn A g (v + 1)), nI (v + 1))
      rw [nI_1, sOwn_s, if_neg c]
  · rintro s rfl
    show qOk (kX8_ownLight_L4 M (nI g) (nI (sOwn A g 8)) (nI 8)) _
    unfold kX8_ownLight_L4
    rw [if_pos (show (8 : Int32) ≤ nI 8 from Int32.le_refl _), qOk_some]
    show qOk (some _) _
    rw [qOk_some]
theorem sLt_own (A : qN) (g : Nat) : ∀ n, sOwn A g 8 ≤ sLt A g n := by
  intro n
  induction n with
  | zero => exact Nat.le_refl _
  | succ n ih =>
    rw [sLt_s]
    split <;> omega
theorem X8_lightOf_eq (h : qDn M A) (hw : qW A) {g : Nat} (hg : g < 10) : kX8_lightOf M (nI g) = some (nI (sL A g)) := by
  refine qOk_eq ?_
  unfold kX8_lightOf
  rw [X8_ownLight_eq h hw hg, qb1_some, qOk_b1]
  refine qlp_for (fun v s => s = (nI (sLt A g v), nI v)) 10 (by omega) rfl ?_ ?_
  · rintro v s hv rfl
    show qOk (kX8_lightOf_L8 (nI g) M (nI (sLt A g v)) (nI v)) _
    unfold kX8_lightOf_L8
    have p1 := sLt_le hw g v (by omega)
    have p2 := sOwn_le hw v 8 (by omega)
    have p3 := sLt_own A g v
    have p4 := hw.ec v hv
    rw [if_neg (show ¬ (10 : Int32) ≤ nI v from nI_ge hv (by decide))]
    by_cases e : v = g
    · rw [if_pos (by rw [e]), qb1_some, qvl_eq, qOk_some]
      show (nI (sLt A g v), nI v + 1) = (nI (sLt A g (v + 1)), nI (v + 1))
      rw [nI_1, sLt_s]
      subst e
      rw [Nat.max_eq_left (by omega)]
      split <;> rfl
    · rw [if_neg (fun y => e ((nI_inj (by omega) (by omega)).mp y)), qrd_k hv (by omega), h.ec v hv]
      by_cases e2 : A 7 v = g
      · rw [if_pos (by rw [e2]), X8_ownLight_eq h hw hv, qb1_some, qvl_eq, half_nI (by omega)]
        by_cases l : sOwn A v 8 / 2 ≤ sLt A g v
        · rw [if_pos ((nI_leI (by omega) (by omega)).mpr l), qb1_some, qb1_some, qvl_eq, qOk_some]
          show (nI (sLt A g v), nI v + 1) = (nI (sLt A g (v + 1)), nI (v + 1))
          rw [nI_1, sLt_s, if_pos e2, Nat.max_eq_left l]
        · rw [if_neg (fun z => l ((nI_leI (by omega) (by omega)).mp z)), qb1_some, qb1_some, qvl_eq, qOk_some]
          show (nI (sOwn A v 8 / 2), nI v + 1) = (nI (sLt A g (v + 1)), nI (v + 1))
          rw [nI_1, sLt_s, if_pos e2, Nat.max_eq_right (by omega)]
      · rw [if_neg (fun y => e2 ((nI_inj (by omega) (by omega)).mp y)), qb1_some, qvl_eq, qOk_some]
        show (nI (sLt A g v), nI v + 1) = (nI (sLt A g (v + 1)), nI (v + 1))
        rw [nI_1, sLt_s, if_neg e2]
  · rintro s rfl
    show qOk (kX8_lightOf_L8 (nI g) M (nI (sLt A g 10)) (nI 10)) _
    unfold kX8_lightOf_L8
    rw [if_pos (show (10 : Int32) ≤ nI 10 from Int32.le_refl _), qOk_some]
    show qOk (some _) _
    rw [qOk_some]
    rfl
theorem X8_lamps_eq (h : qDn M A) (hw : qW A) : kX8_lamps M = some (nI (sB A)) := by
  refine qOk_eq ?_
  unfold kX8_lamps
  rw [qOk_b1]
  refine qlp_for (fun v s => s = (nI (sMk (fun g => decide (0 < sL A g)) v), nI v)) 10 (by omega) rfl ?_ ?_
  · rintro v s hv rfl
    show qOk (kX8_lamps_L4 M (nI (sMk (fun g => decide (0 < sL A g)) v)) (nI v)) _
    unfold kX8_lamps_L4
    have p1 := sL_le hw v
    rw [if_neg (show ¬ (10 : Int32) ≤ nI v from nI_ge hv (by decide)), X8_lightOf_eq h hw hv, qb1_some, shl1 (by omega)]
    by_cases z : sL A v = 0
    · rw [if_pos ((le0_nI (by omega)).mpr z), qb1_some, qvl_eq, qvl_eq, qOk_some]
      show (nI _ ||| 0, nI v + 1) = (nI (sMk _ (v + 1)), nI (v + 1))
      rw [nI_1, sMk_s, show decide (0 < sL A v) = false by simp [z], show (0 : Int32) = nI 0 from rfl, fa_or]
      rfl
    · rw [if_neg (fun y => z ((le0_nI (by omega)).mp y)), qb1_some, qvl_eq, qvl_eq, qOk_some]
      show (nI _ ||| nI (2 ^ v), nI v + 1) = (nI (sMk _ (v + 1)), nI (v + 1))
      rw [nI_1, sMk_s, show decide (0 < sL A v) = true by simp; omega, fa_or]
      rfl
  · rintro s rfl
    show qOk (kX8_lamps_L4 M (nI (sMk (fun g => decide (0 < sL A g)) 10)) (nI 10)) _
    unfold kX8_lamps_L4
    rw [if_pos (show (10 : Int32) ≤ nI 10 from Int32.le_refl _), qOk_some]
    show qOk (some _) _
    rw [qOk_some]
    rfl
end LM
