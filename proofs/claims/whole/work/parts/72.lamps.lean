/-! LAMPS -/
def sDif (a b : Nat) : Bool := decide (a = b + 3) || decide (a = b + 4) || decide (b = a + 3) || decide (b = a + 4)
/-- the notes of v and w take each other out, in gas -/
def sCl (A : qN) (v w : Nat) : Bool := (A 11 1).testBit (A 0 v) && (decide (0 < A 5 v) && decide (0 < A 5 w) && decide (A 0 v = A 0 w)) && sDif (A 5 v) (A 5 w)
def sAny (p : Nat → Bool) : Nat → Bool
  | 0 => false
  | n + 1 => sAny p n || p n
theorem sAny_f {p : Nat → Bool} {n : Nat} : sAny p n = false ↔ ∀ k, k < n → p k = false := by
  induction n with
  | zero => exact ⟨fun _ k h => by omega, fun _ => rfl⟩
  | succ n ih =>
    unfold sAny
    rw [Bool.or_eq_false_iff, ih]
    refine ⟨fun h k hk => ?_, fun h => ⟨fun k hk => h k (by omega), h n (by omega)⟩⟩
    by_cases e : k = n
    · subst e; exact h.2
    · exact h.1 k (by omega)
theorem sAny_t {p : Nat → Bool} {n k : Nat} (hk : k < n) (h : p k = true) : sAny p n = true := by
  cases e : sAny p n with
  | true => rfl
  | false => rw [sAny_f.mp e k hk] at h; cases h
def sHu (A : qN) (v : Nat) : Bool := sAny (sCl A v) 8
def sOwn (A : qN) (g : Nat) : Nat → Nat
  | 0 => 0
  | n + 1 => if 0 < A 5 n ∧ A 0 n = g ∧ sHu A n = false then max (sOwn A g n) (A 5 n) else sOwn A g n
def sLt (A : qN) (g : Nat) : Nat → Nat
  | 0 => sOwn A g 8
  | h + 1 => if A 7 h = g then max (sLt A g h) (sOwn A h 8 / 2) else sLt A g h
/-- the light of g -/
def sL (A : qN) (g : Nat) : Nat := sLt A g 10
def sMk (p : Nat → Bool) : Nat → Nat
  | 0 => 0
  | n + 1 => sMk p n ||| (if p n then 2 ^ n else 0)
/-- which lamps burn -/
def sB (A : qN) : Nat := sMk (fun g => decide (0 < sL A g)) 10
theorem sOwn_le {A : qN} (hw : qW A) (g : Nat) : ∀ n, n ≤ 8 → sOwn A g n ≤ 24 := by
  intro n
  induction n with
  | zero => intro _; exact Nat.zero_le _
  | succ n ih =>
    intro hn
    have h1 := ih (by omega)
    have h2 := hw.to n (by omega)
    unfold sOwn
    split <;> omega
theorem sLt_le {A : qN} (hw : qW A) (g : Nat) : ∀ n, n ≤ 10 → sLt A g n ≤ 24 := by
  intro n
  induction n with
  | zero => intro _; exact sOwn_le hw g 8 (by omega)
  | succ n ih =>
    intro hn
    have h1 := ih (by omega)
    have h2 := sOwn_le hw n 8 (by omega)
    unfold sLt
    split <;> omega
theorem sL_le {A : qN} (hw : qW A) (g : Nat) : sL A g ≤ 24 := sLt_le hw g 10 (by omega)
theorem sMk_lt (p : Nat → Bool) : ∀ n, sMk p n < 2 ^ n := by
  intro n
  induction n with
  | zero => exact Nat.one_pos
  | succ n ih =>
    unfold sMk
    have h2 : 2 ^ n < 2 ^ (n + 1) := Nat.pow_lt_pow_right (by omega) (by omega)
    refine Nat.or_lt_two_pow (by omega) ?_
    split
    · exact h2
    · exact Nat.pow_pos (by omega)
theorem sB_lt (A : qN) : sB A < 1024 := sMk_lt _ 10
theorem tone_tab : ∀ t, t < 25 → (nI t - 1 = -1 ↔ t = 0) := by decide
theorem tone_0 {t : Nat} (h : t ≤ 24) : nI t - 1 = -1 ↔ t = 0 := tone_tab t (by omega)
def qab (d : Int32) : Int32 := if 0 ≤ d then d else 0 - d
theorem dif_tab : ∀ a, a < 25 → ∀ b, b < 25 → ((qab ((nI a - 1) - (nI b - 1)) = 3 ∨ qab ((nI a - 1) - (nI b - 1)) = 4) ↔ sDif a b = true) := by decide
section LC
variable {b : Nat} {M : qM} {A : qN}
theorem X1_isSinging_eq (h : qC b M A) (hw : qW A) {v : Nat} (hv : v < 8) : kX1_isSinging b M (nI v) = some (if 0 < A 5 v then 1 else 0) := by
  unfold kX1_isSinging
  rw [qrd_k hv (by omega), h.no v hv]
  by_cases e : A 5 v = 0
  · rw [if_pos ((tone_0 (hw.to v hv)).mpr e), if_neg (by omega)]; rfl
  · rw [if_neg (fun z => e ((tone_0 (hw.to v hv)).mp z)), if_pos (by omega)]; rfl
theorem X1_singTogether_eq (h : qC b M A) (hw : qW A) {v w : Nat} (hv : v < 8) (hw8 : w < 8) : kX1_singTogether b M (nI v) (nI w) = some (if 0 < A 5 v ∧ 0 < A 5 w ∧ A 0 v = A 0 w then 1 else 0) := by
  unfold kX1_singTogether
  rw [qrd_k hv (by omega), qrd_k hw8 (by omega), qrd_k hv (by omega), qrd_k hw8 (by omega), h.no v hv, h.no w hw8, h.pl v hv, h.pl w hw8]
  by_cases e : A 5 v = 0
  · rw [if_pos ((tone_0 (hw.to v hv)).mpr e), if_neg (by omega)]; rfl
  · rw [if_neg (fun z => e ((tone_0 (hw.to v hv)).mp z))]
    by_cases e2 : A 5 w = 0
    · rw [if_pos ((tone_0 (hw.to w hw8)).mpr e2), if_neg (by omega)]; rfl
    · rw [if_neg (fun z => e2 ((tone_0 (hw.to w hw8)).mp z))]
      have p1 := hw.pl v hv
      have p2 := hw.pl w hw8
      by_cases e3 : A 0 v = A 0 w
      · rw [if_pos (by rw [e3]), if_pos ⟨by omega, by omega, e3⟩]; rfl
      · rw [if_neg (fun z => e3 ((nI_inj (by omega) (by omega)).mp z)), if_neg (fun z => e3 z.2.2)]; rfl
theorem X1_clash_eq (h : qC b M A) (hw : qW A) {v w : Nat} (hv : v < 8) (hw8 : w < 8) : kX1_clash b M (nI v) (nI w) = some (if sCl A v w = true then 1 else 0) := by
  unfold kX1_clash
  have p1 := hw.pl v hv
  have p2 := hw.ga
  rw [qrd_k hv (by omega), h.pl v hv, h.ga, X7_has_eq (by omega) (by omega), qb1_some, X1_singTogether_eq h hw hv hw8, qb1_some, qrd_k hv (by omega), qrd_k hw8 (by omega), h.no v hv, h.no w hw8]
  by_cases g : (A 11 1).testBit (A 0 v) = true
  · rw [if_neg (by rw [ite01_0]; exact fun z => z g)]
    by_cases t : 0 < A 5 v ∧ 0 < A 5 w ∧ A 0 v = A 0 w
    · rw [if_neg (by rw [ite01_0]; exact fun z => z t)]
      have ht := dif_tab (A 5 v) (by have := hw.to v hv; omega) (A 5 w) (by have := hw.to w hw8; omega)
      unfold qab at ht
      rw [qvl_eq]
      have hc : sCl A v w = sDif (A 5 v) (A 5 w) := by
        unfold sCl
        rw [g, decide_eq_true t.1, decide_eq_true t.2.1, decide_eq_true t.2.2]
        rfl
      rw [hc]
      by_cases d : sDif (A 5 v) (A 5 w) = true
      · rw [if_pos d]
        rcases ht.mpr d with e | e
        · rw [if_pos e]; rfl
        · rw [if_neg (by rw [e]; decide), if_pos e]; rfl
      · rw [if_neg d, if_neg (fun e => d (ht.mp (Or.inl e))), if_neg (fun e => d (ht.mp (Or.inr e)))]; rfl
    · rw [if_pos (by rw [ite01_0]; exact t), if_neg ?_]
      unfold sCl
      intro z
      simp only [Bool.and_eq_true, decide_eq_true_eq] at z
      exact t ⟨z.1.2.1.1, z.1.2.1.2, z.1.2.2⟩
  · rw [if_pos (by rw [ite01_0]; exact g), if_neg ?_]
    unfold sCl
    intro z
    simp only [Bool.and_eq_true, decide_eq_true_eq] at z
    exact g z.1.1
theorem X1_isTakenOut_eq (h : qC b M A) (hw : qW A) {v : Nat} (hv : v < 8) : kX1_isTakenOut b M (nI v) = some (if sHu A v = true then 1 else 0) := by
  unfold kX1_isTakenOut
  have p1 := hw.pl v hv
  have p2 := hw.ga
  rw [qrd_k hv (by omega), h.pl v hv, h.ga, X7_has_eq (by omega) (by omega), qb1_some]
  by_cases g : (A 11 1).testBit (A 0 v) = true
  · rw [if_neg (by rw [ite01_0]; exact fun z => z g)]
    refine qOk_eq ?_
    rw [qOk_e0]
    refine qlp_for (fun k s => s = nI k ∧ ∀ w, w < k → sCl A v w = false) 8 (by omega) ⟨rfl, fun w hw => by omega⟩ ?_ ?_
    · rintro k s hk ⟨rfl, hi⟩
      unfold kX1_isTakenOut_L20
      rw [if_neg (show ¬ (8 : Int32) ≤ nI k from nI_ge hk (by decide)), X1_clash_eq h hw hv hk, qb1_some]
      by_cases c : sCl A v k = true
      · rw [if_neg (by rw [ite01_0]; exact fun z => z c), qOk_some]
        show qOk (some 1) _
        rw [qOk_some]
        have : sHu A v = true := sAny_t hk c
        rw [if_pos this]
      · rw [if_pos (by rw [ite01_0]; exact c), qvl_eq, qOk_some]
        refine ⟨nI_1 k, fun w hw => ?_⟩
        by_cases e : w = k
        · subst e; exact Bool.eq_false_iff.mpr c
        · exact hi w (by omega)
    · rintro s ⟨rfl, hi⟩
      unfold kX1_isTakenOut_L20
      rw [if_pos (show (8 : Int32) ≤ nI 8 from Int32.le_refl _), qOk_some]
      show qOk (some 0) _
      rw [qOk_some]
      have : sHu A v = false := sAny_f.mpr hi
      rw [this]
      rfl
  · rw [if_pos (by rw [ite01_0]; exact g), if_neg ?_]
    have : sHu A v = false := by
      refine sAny_f.mpr (fun w _ => ?_)
      unfold sCl
      rw [Bool.eq_false_iff.mpr g]
      rfl
    rw [this]
    decide
end LC
theorem J7_fill_eq (M : qM) (k n : Nat) (x : Int32) (hn : n < 20000) : qOk (kJ7_fill_53178 M k n x) (fun M' => (∀ c, c ≠ k → M' c = M c) ∧ ∀ i, i < n → M' k i = x) := by
  unfold kJ7_fill_53178
  rw [qOk_vl, qOk_b1]
  refine qlp_for (fun i s => s.1 = nI i ∧ (∀ c, c ≠ k → s.2 c = M c) ∧ ∀ j, j < i → s.2 k j = x) n hn ⟨rfl, fun _ _ => rfl, fun _ h => by omega⟩ ?_ ?_
  · rintro i ⟨a, N⟩ hi ⟨e, h1, h2⟩
    have e : a = nI i := e
    subst e
    show qOk (kJ7_fill_53178_L5 (nI n) k n x (nI i) N) _
    unfold kJ7_fill_53178_L5
    rw [if_neg (nI_ge hi (by omega)), qwr_k hi (by omega), qvl_eq, qOk_some]
    refine ⟨nI_1 i, fun c hc => ?_, fun j hj => ?_⟩
    · show qst N k i x c = M c
      rw [qst_n hc]; exact h1 c hc
    · show qst N k i x k j = x
      rw [qst_at]
      by_cases ej : j = i
      · rw [if_pos ej]
      · rw [if_neg ej]; exact h2 j (by omega)
  · rintro ⟨a, N⟩ ⟨e, h1, h2⟩
    have e : a = nI n := e
    subst e
    show qOk (kJ7_fill_53178_L5 (nI n) k n x (nI n) N) _
    unfold kJ7_fill_53178_L5
    rw [if_pos (Int32.le_refl _), qOk_some]
    show qOk (some N) _
    rw [qOk_some]
    exact ⟨h1, h2⟩
theorem one_tone (t : Nat) : (1 : Int32) + (nI t - 1) = nI t := by rw [Int32.add_comm, Int32.sub_add_cancel]
theorem max_nI {a b : Nat} (ha : a < 2147483648) (hb : b < 2147483648) : (if nI a < nI b then nI b else nI a) = nI (max a b) := by
  by_cases h : a < b
  · rw [if_pos ((nI_ltI ha hb).mpr h), Nat.max_eq_right (by omega)]
  · rw [if_neg (fun z => h ((nI_ltI ha hb).mp z)), Nat.max_eq_left (by omega)]
theorem half_nI {a : Nat} (ha : a < 2147483648) : nI a / 2 = nI (a / 2) := pk_div (d := 2) ha (by omega) (by omega)
theorem le0_nI {a : Nat} (ha : a < 2147483648) : nI a ≤ 0 ↔ a = 0 := by
  rw [show (0 : Int32) = nI 0 from rfl, nI_leI ha (by omega)]
  omega
theorem sOwn_s {A : qN} {g n : Nat} : sOwn A g (n + 1) = if 0 < A 5 n ∧ A 0 n = g ∧ sHu A n = false then max (sOwn A g n) (A 5 n) else sOwn A g n := rfl
theorem sLt_s {A : qN} {g n : Nat} : sLt A g (n + 1) = if A 7 n = g then max (sLt A g n) (sOwn A n 8 / 2) else sLt A g n := rfl
theorem sMk_s {p : Nat → Bool} {n : Nat} : sMk p (n + 1) = sMk p n ||| (if p n then 2 ^ n else 0) := rfl
section LC2
variable {b0 b1 : Nat} {M : qM} {A : qN}
theorem X0_shineOn_eq (h : qC b1 M A) (hw : qW A) (hd : b0 + 2 < b1 ∨ b1 + 11 < b0) : qOk (kX0_shineOn b0 M b1) (fun M' => (∀ c, c ≠ b0 → c ≠ b0 + 1 → c ≠ b0 + 2 → M' c = M c) ∧ (∀ g, g < 10 → M' (b0 + 2) g = nI (sL A g)) ∧ M' b0 2 = nI (sB A)) := by
  unfold kX0_shineOn
  rw [qOk_b1]
  refine qOk.m (J7_fill_eq M (b0 + 1) 10 0 (by omega)) (fun M1 hM1 => ?_)
  obtain ⟨f1, f2⟩ := hM1
  rw [qOk_b1]
  refine qlp_for (fun v s => s.1 = nI v ∧ (∀ c, c ≠ b0 + 1 → s.2 c = M c) ∧ ∀ g, g < 10 → s.2 (b0 + 1) g = nI (sOwn A g v)) 8 (by omega) ⟨rfl, f1, f2⟩ ?_ ?_
  · rintro v ⟨a, N⟩ hv ⟨e, h1, h2⟩
    have e : a = nI v := e
    subst e
    have h1 : ∀ c, c ≠ b0 + 1 → N c = M c := h1
    have h2 : ∀ g, g < 10 → N (b0 + 1) g = nI (sOwn A g v) := h2
    have hN : qC b1 N A := h.same (fun k k1 k2 => h1 k (by omega))
    show qOk (kX0_shineOn_L10 b1 b0 (nI v) N) _
    unfold kX0_shineOn_L10
    rw [if_neg (show ¬ (8 : Int32) ≤ nI v from nI_ge hv (by decide)), X1_isSinging_eq hN hw hv, qb1_some]
    have keep : (∀ g, ¬ (0 < A 5 v ∧ A 0 v = g ∧ sHu A v = false)) → qOk (qb1 (some N) (fun M6 => qvl (nI v + 1) (fun v12 => some (Sum.inl (v12, M6))))) (Sum.elim (fun s : Int32 × qM => s.1 = nI (v + 1) ∧ (∀ c, c ≠ b0 + 1 → s.2 c = M c) ∧ ∀ g, g < 10 → s.2 (b0 + 1) g = nI (sOwn A g (v + 1))) (fun M4 : qM => qOk (qvl (qcp M4 (b0 + 2) (va_cpy (M4 (b0 + 1)) (M4 (b0 + 2)) 0 0 10)) (fun M13 => qb1 (qlp (S := Int32 × qM) (E := (qM)) (fun s => kX0_shineOn_L85 b1 b0 s.1 s.2) qFu (0, M13)) (fun M16 => qvl (qst M16 b0 2 0) (fun M22 => qb1 (qlp (S := Int32 × qM) (E := (qM)) (fun s => kX0_shineOn_L134 b0 s.1 s.2) qFu (0, M22)) (fun M25 => some M25))))) (fun M' => (∀ c, c ≠ b0 → c ≠ b0 + 1 → c ≠ b0 + 2 → M' c = M c) ∧ (∀ g, g < 10 → M' (b0 + 2) g = nI (sL A g)) ∧ M' b0 2 = nI (sB A)))) := by
      intro hk
      rw [qb1_some, qvl_eq, qOk_some]
      refine ⟨nI_1 v, h1, fun g hg => ?_⟩
      show N (b0 + 1) g = nI (sOwn A g (v + 1))
      rw [sOwn_s, if_neg (hk g)]
      exact h2 g hg
    by_cases t : 0 < A 5 v
    · rw [if_neg (by rw [ite01_0]; exact fun z => z t), X1_isTakenOut_eq hN hw hv, qb1_some]
      by_cases u : sHu A v = true
      · rw [if_neg (by rw [ite01_0]; exact fun z => z u)]
        exact keep (fun g z => by rw [u] at z; cases z.2.2)
      · rw [if_pos (by rw [ite01_0]; exact u)]
        have p1 := hw.pl v hv
        have p2 := hw.to v hv
        have p3 := sOwn_le hw (A 0 v) v (by omega)
        rw [qrd_k hv (by omega), hN.pl v hv, qrd_k p1 (by omega), qrd_k hv (by omega), hN.no v hv, one_tone, h2 _ p1, max_nI (by omega) (by omega), qwr_k p1 (by omega), qb1_some, qvl_eq, qOk_some]
        refine ⟨nI_1 v, fun c hc => ?_, fun g hg => ?_⟩
        · show qst N (b0 + 1) (A 0 v) _ c = M c
          rw [qst_n hc]; exact h1 c hc
        · show qst N (b0 + 1) (A 0 v) _ (b0 + 1) g = nI (sOwn A g (v + 1))
          rw [qst_at, sOwn_s]
          by_cases eg : g = A 0 v
          · rw [if_pos eg, if_pos ⟨t, eg.symm, Bool.eq_false_iff.mpr u⟩, eg]
          · rw [if_neg eg, if_neg (fun z => eg z.2.1.symm)]
            exact h2 g hg
    · rw [if_pos (by rw [ite01_0]; exact t)]
      exact keep (fun g z => t z.1)
  · rintro ⟨a, M4⟩ ⟨e, h1, h2⟩
    have e : a = nI 8 := e
    subst e
    have h1 : ∀ c, c ≠ b0 + 1 → M4 c = M c := h1
    have h2 : ∀ g, g < 10 → M4 (b0 + 1) g = nI (sOwn A g 8) := h2
    show qOk (kX0_shineOn_L10 b1 b0 (nI 8) M4) _
    unfold kX0_shineOn_L10
    rw [if_pos (show (8 : Int32) ≤ nI 8 from Int32.le_refl _), qOk_some]
    show qOk (qvl _ _) _
    rw [qvl_eq, qOk_b1]
    refine qlp_for (fun v s => s.1 = nI v ∧ (∀ c, c ≠ b0 + 1 → c ≠ b0 + 2 → s.2 c = M c) ∧ (∀ g, g < 10 → s.2 (b0 + 1) g = nI (sOwn A g 8)) ∧ ∀ g, g < 10 → s.2 (b0 + 2) g = nI (sLt A g v)) 10 (by omega) ⟨rfl, fun c c1 c2 => ?_, fun g hg => ?_, fun g hg => ?_⟩ ?_ ?_
    · show qcp M4 (b0 + 2) _ c = M c
      rw [qcp_n c2]; exact h1 c c1
    · show qcp M4 (b0 + 2) _ (b0 + 1) g = _
      rw [qcp_n (by omega)]; exact h2 g hg
    · show qcp M4 (b0 + 2) _ (b0 + 2) g = _
      rw [qcp_s, pk_cpy_in (by omega) (by omega)]
      show M4 (b0 + 1) (0 + (g - 0)) = _
      rw [show 0 + (g - 0) = g by omega]
      exact h2 g hg
    · rintro v ⟨a, N⟩ hv ⟨e, g1, g2, g3⟩
      have e : a = nI v := e
      subst e
      have g1 : ∀ c, c ≠ b0 + 1 → c ≠ b0 + 2 → N c = M c := g1
      have g2 : ∀ g, g < 10 → N (b0 + 1) g = nI (sOwn A g 8) := g2
      have g3 : ∀ g, g < 10 → N (b0 + 2) g = nI (sLt A g v) := g3
      have hN : qC b1 N A := h.same (fun k k1 k2 => g1 k (by omega) (by omega))
      have p1 := hw.ec v hv
      have p2 := sLt_le hw (A 7 v) v (by omega)
      have p3 := sOwn_le hw v 8 (by omega)
      show qOk (kX0_shineOn_L85 b1 b0 (nI v) N) _
      unfold kX0_shineOn_L85
      rw [if_neg (show ¬ (10 : Int32) ≤ nI v from nI_ge hv (by decide)), qrd_k hv (by omega), hN.ec v hv, qrd_k p1 (by omega), qrd_k hv (by omega), g2 v hv, g3 _ p1, half_nI (by omega), max_nI (by omega) (by omega), qwr_k p1 (by omega), qvl_eq, qOk_some]
      refine ⟨nI_1 v, fun c c1 c2 => ?_, fun g hg => ?_, fun g hg => ?_⟩
      · show qst N (b0 + 2) (A 7 v) _ c = M c
        rw [qst_n c2]; exact g1 c c1 c2
      · show qst N (b0 + 2) (A 7 v) _ (b0 + 1) g = _
        rw [qst_n (by omega)]; exact g2 g hg
      · show qst N (b0 + 2) (A 7 v) _ (b0 + 2) g = nI (sLt A g (v + 1))
        rw [qst_at, sLt_s]
        by_cases eg : g = A 7 v
        · rw [if_pos eg, if_pos eg.symm, eg]
        · rw [if_neg eg, if_neg (fun z => eg z.symm)]
          exact g3 g hg
    · rintro ⟨a, M16⟩ ⟨e, g1, g2, g3⟩
      have e : a = nI 10 := e
      subst e
      have g1 : ∀ c, c ≠ b0 + 1 → c ≠ b0 + 2 → M16 c = M c := g1
      have g3 : ∀ g, g < 10 → M16 (b0 + 2) g = nI (sL A g) := g3
      show qOk (kX0_shineOn_L85 b1 b0 (nI 10) M16) _
      unfold kX0_shineOn_L85
      rw [if_pos (show (10 : Int32) ≤ nI 10 from Int32.le_refl _), qOk_some]
      show qOk (qvl _ _) _
      rw [qvl_eq, qOk_b1]
      refine qlp_for (fun v s => s.1 = nI v ∧ (∀ c, c ≠ b0 → s.2 c = M16 c) ∧ s.2 b0 2 = nI (sMk (fun g => decide (0 < sL A g)) v)) 10 (by omega) ⟨rfl, fun c c1 => ?_, ?_⟩ ?_ ?_
      · exact qst_n c1
      · show qst M16 b0 2 0 b0 2 = _
        rw [qst_at, if_pos rfl]
        rfl
      · rintro v ⟨a, N⟩ hv ⟨e, k1, k2⟩
        have e : a = nI v := e
        subst e
        have k1 : ∀ c, c ≠ b0 → N c = M16 c := k1
        have k2 : N b0 2 = nI (sMk (fun g => decide (0 < sL A g)) v) := k2
        have p1 := sL_le hw v
        show qOk (kX0_shineOn_L134 b0 (nI v) N) _
        unfold kX0_shineOn_L134
        rw [if_neg (show ¬ (10 : Int32) ≤ nI v from nI_ge hv (by decide)), qrd_k hv (by omega), k1 _ (by omega), g3 v hv, k2, shl1 (by omega)]
        by_cases z : sL A v = 0
        · rw [if_pos ((le0_nI (by omega)).mpr z), qb1_some, qvl_eq, qvl_eq, qOk_some]
          refine ⟨nI_1 v, fun c c1 => ?_, ?_⟩
          · show qst N b0 2 _ c = M16 c
            rw [qst_n c1]; exact k1 c c1
          · show qst N b0 2 _ b0 2 = _
            rw [qst_at, if_pos rfl, sMk_s, show decide (0 < sL A v) = false by simp [z]]
            exact fa_or _ 0
        · rw [if_neg (fun y => z ((le0_nI (by omega)).mp y)), qb1_some, qvl_eq, qvl_eq, qOk_some]
          refine ⟨nI_1 v, fun c c1 => ?_, ?_⟩
          · show qst N b0 2 _ c = M16 c
            rw [qst_n c1]; exact k1 c c1
          · show qst N b0 2 _ b0 2 = _
            rw [qst_at, if_pos rfl, sMk_s, show decide (0 < sL A v) = true by simp; omega]
            exact fa_or _ _
      · rintro ⟨a, N⟩ ⟨e, k1, k2⟩
        have e : a = nI 10 := e
        subst e
        have k1 : ∀ c, c ≠ b0 → N c = M16 c := k1
        show qOk (kX0_shineOn_L134 b0 (nI 10) N) _
        unfold kX0_shineOn_L134
        rw [if_pos (show (10 : Int32) ≤ nI 10 from Int32.le_refl _), qOk_some]
        show qOk (some N) _
        rw [qOk_some]
        refine ⟨fun c c1 c2 c3 => (k1 c c1).trans (g1 c c2 c3), fun g hg => ?_, k2⟩
        rw [k1 _ (by omega)]
        exact g3 g hg
end LC2
