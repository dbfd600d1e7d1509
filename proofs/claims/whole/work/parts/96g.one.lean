/-! the reference: one act of a text -/
theorem qDn.sm {M N : qM} {A : qN} (h : qDn M A) (h1 : ∀ c, 2 ≤ c → c ≤ 8 → N c = M c) (h2 : N 0 2 = M 0 2) (h3 : N 0 8 = M 0 8) (h4 : N 0 9 = M 0 9) : qDn N A := by
  show qDn N A
  unfold qDn
  rw [h1 2 (by omega) (by omega), h1 3 (by omega) (by omega), h1 4 (by omega) (by omega), h1 5 (by omega) (by omega), h1 6 (by omega) (by omega), h1 7 (by omega) (by omega), h1 8 (by omega) (by omega), h2, h3, h4]
  exact h
theorem sing_D {M : qM} {A : qN} (h : qDn M A) {v n : Nat} (hv : v < 8) : qDn (qst M 2 v (nI n)) (aU A 5 v (n + 1)) := qDn.st (h.set_no hv (n + 1) (fun _ => by rw [if_neg (by omega)]; rfl))
theorem hush_D {M : qM} {A : qN} (h : qDn M A) {v : Nat} (hv : v < 8) : qDn (qst M 2 v (-6)) (aU A 5 v 0) := qDn.st (h.set_no hv 0 (fun _ => by rw [if_pos rfl]))
theorem go_D {M : qM} {A : qN} (h : qDn M A) {v g : Nat} (hv : v < 8) : qDn (qst M 2 (16 + v) (nI g)) (aU A 0 v g) := qDn.st (h.set_pl hv g)
theorem fall_D {M : qM} {A : qN} (h : qDn M A) (x : Nat) : qDn (qst M 2 34 (nI x)) (aU A 11 2 x) := qDn.st (h.set_cl x)
theorem pA_cases {p : Nat → Nat} {S i k v x j : Nat} (h : pA p S i = some (k, v, x, j)) : (i < S ∧ p i = 46 ∧ k = 4 ∧ j = i + 1) ∨ (i + 1 < S ∧ p i = 42 ∧ 48 ≤ p (i + 1) ∧ p (i + 1) ≤ 57 ∧ k = 3 ∧ x = p (i + 1) - 48 ∧ j = i + 2) ∨ (i + 1 < S ∧ (65 ≤ p i ∧ p i ≤ 72) ∧ v = p i - 65 ∧ 97 ≤ p (i + 1) ∧ p (i + 1) ≤ 120 ∧ k = 0 ∧ x = p (i + 1) - 97 ∧ j = i + 2) ∨ (i + 1 < S ∧ (65 ≤ p i ∧ p i ≤ 72) ∧ v = p i - 65 ∧ p (i + 1) = 45 ∧ k = 1 ∧ j = i + 2) ∨ (i + 2 < S ∧ (65 ≤ p i ∧ p i ≤ 72) ∧ v = p i - 65 ∧ p (i + 1) = 62 ∧ 48 ≤ p (i + 2) ∧ p (i + 2) ≤ 57 ∧ k = 2 ∧ x = p (i + 2) - 48 ∧ j = i + 3) := by
  unfold pA at h
  by_cases c1 : sg p S i = 46
  · obtain ⟨a1, a2⟩ := sg_in (p := p) (S := S) (i := i) (by omega)
    rw [if_pos c1] at h
    cases h
    exact Or.inl ⟨a1, by omega, rfl, rfl⟩
  rw [if_neg c1] at h
  by_cases c2 : sg p S i = 42
  · obtain ⟨a1, a2⟩ := sg_in (p := p) (S := S) (i := i) (by omega)
    rw [if_pos c2] at h
    by_cases c3 : 48 ≤ sg p S (i + 1) ∧ sg p S (i + 1) ≤ 57
    · obtain ⟨a3, a4⟩ := sg_in (p := p) (S := S) (i := i + 1) (by omega)
      rw [if_pos c3] at h
      cases h
      exact Or.inr (Or.inl ⟨a3, by omega, by omega, by omega, rfl, by omega, rfl⟩)
    · rw [if_neg c3] at h
      cases h
  rw [if_neg c2] at h
  by_cases c3 : 65 ≤ sg p S i ∧ sg p S i ≤ 72
  · obtain ⟨a1, a2⟩ := sg_in (p := p) (S := S) (i := i) (by omega)
    rw [if_pos c3] at h
    by_cases c4 : 97 ≤ sg p S (i + 1) ∧ sg p S (i + 1) ≤ 120
    · obtain ⟨a3, a4⟩ := sg_in (p := p) (S := S) (i := i + 1) (by omega)
      rw [if_pos c4] at h
      cases h
      exact Or.inr (Or.inr (Or.inl ⟨a3, by omega, by omega, by omega, by omega, rfl, by omega, rfl⟩))
    rw [if_neg c4] at h
    by_cases c5 : sg p S (i + 1) = 45
    · obtain ⟨a3, a4⟩ := sg_in (p := p) (S := S) (i := i + 1) (by omega)
      rw [if_pos c5] at h
      cases h
      exact Or.inr (Or.inr (Or.inr (Or.inl ⟨a3, by omega, by omega, by omega, rfl, rfl⟩)))
    rw [if_neg c5] at h
    by_cases c6 : sg p S (i + 1) = 62
    · obtain ⟨a3, a4⟩ := sg_in (p := p) (S := S) (i := i + 1) (by omega)
      rw [if_pos c6] at h
      by_cases c7 : 48 ≤ sg p S (i + 2) ∧ sg p S (i + 2) ≤ 57
      · obtain ⟨a5, a6⟩ := sg_in (p := p) (S := S) (i := i + 2) (by omega)
        rw [if_pos c7] at h
        cases h
        exact Or.inr (Or.inr (Or.inr (Or.inr ⟨a5, by omega, by omega, by omega, by omega, by omega, rfl, by omega, rfl⟩)))
      · rw [if_neg c7] at h
        cases h
    · rw [if_neg c6] at h
      cases h
  · rw [if_neg c3] at h
    cases h
def oA (v4 v8 : Int32) (M9 : qM) : Option (Int32 × qM) := if v8 = 46 then (qb2 (kX8_beat M9) (fun v30 M29 => qvl (qst M29 0 16 v30) (fun M31 => qvl (v4 + 1) (fun v32 => some (v32, M31))))) else (if v8 = 42 then (qrd (M9 2) 36 34 (fun v25 => qrd (M9 9) 60 (v4 + 1) (fun v26 => qwr M9 2 36 34 (v25 ^^^ ((1 : Int32) <<< ((v26 - 48) &&& 31))) (fun M27 => qvl (v4 + 2) (fun v28 => some (v28, M27)))))) else (qrd (M9 9) 60 (v4 + 1) (fun v12 => qb2 (α1 := Int32) (α2 := qM) (if v12 = 45 then (qb2 (kX8_hush M9 (v8 - 65)) (fun v21 M20 => some (v21, M20))) else (if v12 = 62 then (qrd (M9 9) 60 (v4 + 2) (fun v17 => qb2 (kX8_go M9 (v8 - 65) (v17 - 48)) (fun v19 M18 => some (v19, M18)))) else (qb2 (kX8_sing M9 (v8 - 65) (v12 - 97)) (fun v16 M15 => some (v16, M15))))) (fun v13 M14 => qvl (qst M14 0 16 v13) (fun M22 => qb1 (α := Int32) (if v12 = 62 then (some 3) else (some 2)) (fun v23 => qvl (v4 + v23) (fun v24 => some (v24, M22))))))))
def oP (A : qN) (k v x j : Nat) (M N : qM) (r : Int32) : Prop := r = nI j ∧ N 0 16 = nI (yW A k v x) ∧ (∀ i, i ≠ 16 → N 0 i = M 0 i) ∧ (∀ c, c ≠ 0 → c ≠ 2 → c ≠ 10 → N c = M c) ∧ (yW A k v x = 0 → qDn N (yA A k v x))
theorem oP_of {A : qN} {k v x j y : Nat} {M N0 : qM} (hy : yW A k v x = y) (h1 : ∀ c, c ≠ 2 → c ≠ 10 → N0 c = M c) (h2 : y = 0 → qDn N0 (yA A k v x)) : oP A k v x j M (qst N0 0 16 (nI y)) (nI j) := by
  subst hy
  exact ⟨rfl, by rw [qst_at, if_pos rfl], fun i hi => by rw [qst_at, if_neg hi, h1 0 (by decide) (by decide)], fun c a b d => by rw [qst_n a, h1 c b d], fun z => (h2 z).sm (fun c a b => by rw [qst_n (by omega)]) (by rw [qst_at, if_neg (by decide)]) (by rw [qst_at, if_neg (by decide)]) (by rw [qst_at, if_neg (by decide)])⟩
theorem nIne {a b : Nat} (h : a ≠ b) (ha : a < 2147483648) (hb : b < 2147483648) : ¬ nI a = nI b := fun z => h ((nI_inj ha hb).mp z)
theorem oA_eq {M : qM} {A : qN} {p : Nat → Nat} {S i k v x j : Nat} (h : qDn M A) (hw : qW A) (hS : S ≤ 60) (h9 : ∀ i, i < S → M 9 i = nI (p i)) (h16 : M 0 16 = 0) (ha : pA p S i = some (k, v, x, j)) : qOk2 (oA (nI i) (nI (p i)) M) (fun r N => oP A k v x j M N r) := by
  unfold oA
  rcases pA_cases ha with ⟨a1, a2, ek, ej⟩ | ⟨a1, a2, a3, a4, ek, ex, ej⟩ | ⟨a1, a2, ev, a3, a4, ek, ex, ej⟩ | ⟨a1, a2, ev, a3, ek, ej⟩ | ⟨a1, a2, ev, a3, a4, a5, ek, ex, ej⟩
  · rw [if_pos (show nI (p i) = 46 by rw [a2]; rfl), qOk2_b2]
    refine qOk2.m (X8_beat_eq h hw) (fun r N hr => ?_)
    rw [qvl_eq, qvl_eq, nI_1, qOk2_some, ek, ej]
    rcases hr with ⟨b1, b2, b3⟩ | ⟨b1, b2, b3, b4⟩
    · have e : yW A 4 v x = 7 := by
        show (if A 11 3 = 999 then 7 else 0) = 7
        rw [if_pos b1]
      rw [b2, b3]
      exact oP_of (y := 7) e (fun _ _ _ => rfl) (fun z => absurd z (by decide))
    · have e : yW A 4 v x = 0 := by
        show (if A 11 3 = 999 then 7 else 0) = 0
        rw [if_neg b1]
      rw [b2]
      exact oP_of (y := 0) e b3 (fun _ => b4)
  · rw [if_neg (show ¬ nI (p i) = 46 from nIne (b := 46) (by omega) (by omega) (by omega)), if_pos (show nI (p i) = 42 by rw [a2]; rfl), show (34 : Int32) = nI 34 from rfl, qrd_k (show 34 < 36 by omega) (by omega), nI_1, qrd_k (show i + 1 < 60 by omega) (by omega), h9 (i + 1) a1, show nI (p (i + 1)) - 48 = nI (p (i + 1) - 48) from pk_sub (b := 48) a3, shl1 (by omega), h.cl, fa_xor, qwr_k (show 34 < 36 by omega) (by omega), qvl_eq, show nI i + 2 = nI (i + 2) from nI_add i 2, qOk2_some, ek, ej, ex]
    have e : ∀ x, yW A 3 v x = 0 := fun x => rfl
    refine ⟨rfl, ?_, fun i _ => by rw [qst_n (by decide)], fun c _ b _ => by rw [qst_n b], fun _ => ?_⟩
    · rw [e, qst_n (by decide), h16]
      rfl
    · exact fall_D h _
  · rw [if_neg (show ¬ nI (p i) = 46 from nIne (b := 46) (by omega) (by omega) (by omega)), if_neg (show ¬ nI (p i) = 42 from nIne (b := 42) (by omega) (by omega) (by omega)), nI_1, qrd_k (show i + 1 < 60 by omega) (by omega), h9 (i + 1) a1, if_neg (show ¬ nI (p (i + 1)) = 45 from nIne (b := 45) (by omega) (by omega) (by omega)), if_neg (show ¬ nI (p (i + 1)) = 62 from nIne (b := 62) (by omega) (by omega) (by omega)), show nI (p i) - 65 = nI (p i - 65) from pk_sub (b := 65) a2.1, show nI (p (i + 1)) - 97 = nI (p (i + 1) - 97) from pk_sub (b := 97) a3, ← ev, ← ex, X8_sing_eq h hw (by omega) (by omega), qb2_some, qb2_some, qvl_eq, if_neg (show ¬ nI (p (i + 1)) = 62 from nIne (b := 62) (by omega) (by omega) (by omega)), qb1_some, qvl_eq, show nI i + 2 = nI (i + 2) from nI_add i 2, qOk2_some, ek, ej]
    refine oP_of rfl (fun c b _ => ?_) (fun z => ?_)
    · by_cases d : ySing A v x = 0
      · rw [if_pos d, qst_n b]
      · rw [if_neg d]
    · rw [if_pos z]
      exact sing_D h (by omega)
  · rw [if_neg (show ¬ nI (p i) = 46 from nIne (b := 46) (by omega) (by omega) (by omega)), if_neg (show ¬ nI (p i) = 42 from nIne (b := 42) (by omega) (by omega) (by omega)), nI_1, qrd_k (show i + 1 < 60 by omega) (by omega), h9 (i + 1) a1, if_pos (show nI (p (i + 1)) = 45 by rw [a3]; rfl), show nI (p i) - 65 = nI (p i - 65) from pk_sub (b := 65) a2.1, ← ev, X8_hush_eq h hw (by omega), qb2_some, qb2_some, qvl_eq, if_neg (show ¬ nI (p (i + 1)) = 62 from nIne (b := 62) (by omega) (by omega) (by omega)), qb1_some, qvl_eq, show nI i + 2 = nI (i + 2) from nI_add i 2, qOk2_some, ek, ej]
    refine oP_of rfl (fun c b _ => ?_) (fun z => ?_)
    · by_cases d : yHush A v = 0
      · rw [if_pos d, qst_n b]
      · rw [if_neg d]
    · rw [if_pos z]
      exact hush_D h (by omega)
  · rw [if_neg (show ¬ nI (p i) = 46 from nIne (b := 46) (by omega) (by omega) (by omega)), if_neg (show ¬ nI (p i) = 42 from nIne (b := 42) (by omega) (by omega) (by omega)), nI_1, qrd_k (show i + 1 < 60 by omega) (by omega), h9 (i + 1) (by omega), if_neg (show ¬ nI (p (i + 1)) = 45 from nIne (b := 45) (by omega) (by omega) (by omega)), if_pos (show nI (p (i + 1)) = 62 by rw [a3]; rfl), show nI i + 2 = nI (i + 2) from nI_add i 2, qrd_k (show i + 2 < 60 by omega) (by omega), h9 (i + 2) a1, show nI (p i) - 65 = nI (p i - 65) from pk_sub (b := 65) a2.1, show nI (p (i + 2)) - 48 = nI (p (i + 2) - 48) from pk_sub (b := 48) a4, ← ev, ← ex, X8_go_eq h hw (by omega) (by omega), qb2_some, qb2_some, qvl_eq, if_pos (show nI (p (i + 1)) = 62 by rw [a3]; rfl), qb1_some, qvl_eq, show nI i + 3 = nI (i + 3) from nI_add i 3, qOk2_some, ek, ej]
    refine oP_of rfl (fun c b _ => ?_) (fun z => ?_)
    · by_cases d : yGo A v x = 0
      · rw [if_pos d, qst_n b]
      · rw [if_neg d]
    · rw [if_pos z]
      exact go_D h (by omega)
