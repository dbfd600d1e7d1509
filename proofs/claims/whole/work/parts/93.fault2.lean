/-! the class reads the pad -/
def qPc (M : qM) (S : Nat) (p : Nat → Nat) : Prop := S ≤ 60 ∧ M 39 1 = nI S ∧ ∀ i, i < S → M 40 i = nI (p i) ∧ 33 ≤ p i ∧ p i ≤ 126
theorem sg_le {M : qM} {S : Nat} {p : Nat → Nat} (h : qPc M S p) (i : Nat) : sg p S i ≤ 126 := by
  unfold sg
  by_cases c : i < S
  · rw [if_pos c]; exact (h.2.2 i c).2.2
  · rw [if_neg c]; omega
theorem signAt_eq {M : qM} {S : Nat} {p : Nat → Nat} (h : qPc M S p) {i : Nat} (hi : i < 1000) : kX2_signAt M (nI i) = some (nI (sg p S i)) := by
  obtain ⟨hS, h1, h2⟩ := h
  unfold kX2_signAt sg
  rw [if_neg (show ¬ nI i < (0 : Int32) from nI_nlt (b := 0) (by omega) (by omega)), h1]
  by_cases c : i < S
  · rw [if_neg (nI_ge c (by omega)), if_neg (show ¬ (60 : Int32) ≤ nI i from nI_ge (b := 60) (by omega) (by decide)), qrd_k (show i < 60 by omega) (by omega), (h2 i c).1, if_pos c, qb1_some]
  · rw [if_pos (nI_le (by omega) (by omega)), if_neg c, qb1_some]
    rfl
/-- one act more -/
def qAd (M N : qM) (n k v x j : Nat) : Prop := N 39 6 = nI j ∧ N 39 5 = nI (n + 1) ∧ N 39 1 = M 39 1 ∧ (∀ c, c < 39 ∨ c = 40 ∨ 44 ≤ c → N c = M c) ∧ (N 41 n = nI k ∧ N 42 n = nI v ∧ N 43 n = nI x) ∧ ∀ m, m ≠ n → N 41 m = M 41 m ∧ N 42 m = M 42 m ∧ N 43 m = M 43 m
theorem addAct_eq {M O : qM} {n j : Nat} (hn : n < 60) (h5 : M 39 5 = nI n) (h6 : M 39 6 = nI j) (h1 : M 39 1 = O 39 1) (ho : ∀ c, c ≠ 39 → M c = O c) (k v x : Nat) : qOk2 (kX2_addAct M (nI k) (nI v) (nI x)) (fun r N => r = 1 ∧ qAd O N n k v x j) := by
  unfold kX2_addAct
  rw [h5, if_pos (show nI n < (60 : Int32) from nI_lt (b := 60) hn (by decide)), qwr_k hn (by omega), qst_n (show (39 : Nat) ≠ 41 by decide), h5, qwr_k hn (by omega), qst_n (show (39 : Nat) ≠ 42 by decide), qst_n (show (39 : Nat) ≠ 41 by decide), h5, qwr_k hn (by omega), qst_n (show (39 : Nat) ≠ 43 by decide), qst_n (show (39 : Nat) ≠ 42 by decide), qst_n (show (39 : Nat) ≠ 41 by decide), h5, qvl_eq, qOk2_some, ← nI_succ]
  refine ⟨rfl, ?_, ?_, ?_, fun c hc => ?_, ⟨?_, ?_, ?_⟩, fun m hm => ⟨?_, ?_, ?_⟩⟩
  · rw [qst_at, if_neg (by decide), qst_n (by decide), qst_n (by decide), qst_n (by decide), h6]
  · rw [qst_at, if_pos rfl]
  · rw [qst_at, if_neg (by decide), qst_n (by decide), qst_n (by decide), qst_n (by decide), h1]
  · rw [qst_n (by omega), qst_n (by omega), qst_n (by omega), qst_n (by omega), ho c (by omega)]
  · rw [qst_n (by decide), qst_n (by decide), qst_n (by decide), qst_at, if_pos rfl]
  · rw [qst_n (by decide), qst_n (by decide), qst_at, if_pos rfl]
  · rw [qst_n (by decide), qst_at, if_pos rfl]
  · rw [qst_n (by decide), qst_n (by decide), qst_n (by decide), qst_at, if_neg hm, ho 41 (by decide)]
  · rw [qst_n (by decide), qst_n (by decide), qst_at, if_neg hm, qst_n (by decide), ho 42 (by decide)]
  · rw [qst_n (by decide), qst_at, if_neg hm, qst_n (by decide), qst_n (by decide), ho 43 (by decide)]
/-- the reading stopped -/
def qNo (M N : qM) (j : Nat) : Prop := N 39 6 = nI j ∧ N 39 1 = M 39 1 ∧ ∀ c, c < 39 ∨ c = 40 ∨ 44 ≤ c → N c = M c
theorem gallery_eq {M O : qM} {S : Nat} {p : Nat → Nat} (hp : qPc O S p) {n i : Nat} (hn : n < 60) (hi : i < 900) (h5 : M 39 5 = nI n) (h6 : M 39 6 = nI i) (h1 : M 39 1 = O 39 1) (ho : ∀ c, c ≠ 39 → M c = O c) (k v : Nat) : qOk2 (kX2_readGallery M (nI k) (nI v)) (fun r N => (48 ≤ sg p S i ∧ sg p S i ≤ 57 ∧ r = 1 ∧ qAd O N n k v (sg p S i - 48) (i + 1)) ∨ (¬ (48 ≤ sg p S i ∧ sg p S i ≤ 57) ∧ r = 0 ∧ qNo O N i)) := by
  have hpM : qPc M S p := ⟨hp.1, by rw [h1]; exact hp.2.1, by rw [ho 40 (by decide)]; exact hp.2.2⟩
  have l := sg_le hp i
  unfold kX2_readGallery
  rw [h6, signAt_eq hpM (by omega), qb1_some]
  by_cases c1 : sg p S i < 48
  · rw [if_pos (show nI (sg p S i) < (48 : Int32) from nI_lt (b := 48) c1 (by decide)), qOk2_some]
    exact Or.inr ⟨by omega, rfl, h6, h1, fun c hc => ho c (by omega)⟩
  · rw [if_neg (show ¬ nI (sg p S i) < (48 : Int32) from nI_nlt (b := 48) (by omega) (by omega))]
    by_cases c2 : sg p S i ≤ 57
    · rw [if_pos (show nI (sg p S i) ≤ (57 : Int32) from nI_le (b := 57) c2 (by decide)), qvl_eq, qOk2_b2, show nI (sg p S i) - 48 = nI (sg p S i - 48) from pk_sub (b := 48) (by omega), ← nI_succ]
      refine qOk2.m (addAct_eq (O := O) (n := n) (j := i + 1) hn (by rw [qst_at, if_neg (by decide), h5]) (by rw [qst_at, if_pos rfl]) (by rw [qst_at, if_neg (by decide), h1]) (fun c hc => by rw [qst_n hc, ho c hc]) k v _) (fun r N ⟨er, hN⟩ => ?_)
      rw [er, qbl_1, qOk2_some]
      exact Or.inl ⟨by omega, c2, rfl, hN⟩
    · rw [if_neg (show ¬ nI (sg p S i) ≤ (57 : Int32) from nI_ge (a := 57) (by omega) (by omega)), qOk2_some]
      exact Or.inr ⟨by omega, rfl, h6, h1, fun c hc => ho c (by omega)⟩
theorem readAct_eq {M : qM} {S : Nat} {p : Nat → Nat} (hp : qPc M S p) {n i : Nat} (hn : n < 60) (hi : i < 800) (h5 : M 39 5 = nI n) (h6 : M 39 6 = nI i) : qOk2 (kX2_readAct M) (fun r N => (∃ k v x j, pA p S i = some (k, v, x, j) ∧ r = 1 ∧ qAd M N n k v x j) ∨ (pA p S i = none ∧ r = 0 ∧ qNo M N (pE p S i))) := by
  unfold kX2_readAct
  have l := sg_le hp i
  have l1 := sg_le hp (i + 1)
  rw [h6, signAt_eq hp (by omega), qb1_some]
  have eqc : ∀ {a b : Nat}, a ≤ 126 → b ≤ 126 → (nI a = nI b ↔ a = b) := fun ha hb => nI_inj (by omega) (by omega)
  have st : ∀ j : Nat, (qst M 39 6 (nI j)) 39 5 = nI n ∧ (qst M 39 6 (nI j)) 39 6 = nI j ∧ (qst M 39 6 (nI j)) 39 1 = M 39 1 ∧ ∀ c, c ≠ 39 → (qst M 39 6 (nI j)) c = M c := fun j => ⟨by rw [qst_at, if_neg (by decide), h5], by rw [qst_at, if_pos rfl], by rw [qst_at, if_neg (by decide)], fun c hc => by rw [qst_n hc]⟩
  obtain ⟨s1, s2, s3, s4⟩ := st (i + 1)
  by_cases c1 : sg p S i = 46
  · rw [if_pos (show nI (sg p S i) = (46 : Int32) by rw [c1]; rfl), qvl_eq, qOk2_b2, ← nI_succ]
    refine qOk2.m (addAct_eq (O := M) (n := n) (j := i + 1) hn s1 s2 s3 s4 4 0 0) (fun r N ⟨er, hN⟩ => ?_)
    rw [er, qbl_1, qOk2_some]
    exact Or.inl ⟨4, 0, 0, i + 1, if_pos c1, rfl, hN⟩
  rw [if_neg (show ¬ nI (sg p S i) = (46 : Int32) from fun z => c1 ((eqc l (b := 46) (by omega)).mp z))]
  by_cases c2 : sg p S i = 42
  · rw [if_pos (show nI (sg p S i) = (42 : Int32) by rw [c2]; rfl), qvl_eq, qOk2_b2, ← nI_succ]
    refine qOk2.m (gallery_eq hp hn (by omega) s1 s2 s3 s4 3 0) (fun r N hr => ?_)
    rcases hr with ⟨d1, d2, er, hN⟩ | ⟨d, er, hN⟩
    · rw [er, qbl_1, qOk2_some]
      exact Or.inl ⟨3, 0, _, i + 2, by unfold pA; rw [if_neg c1, if_pos c2, if_pos ⟨d1, d2⟩], rfl, hN⟩
    · rw [er, qbl_0, qOk2_some]
      exact Or.inr ⟨by unfold pA; rw [if_neg c1, if_pos c2, if_neg d], rfl, by rw [show pE p S i = i + 1 from if_pos c2]; exact hN⟩
  rw [if_neg (show ¬ nI (sg p S i) = (42 : Int32) from fun z => c2 ((eqc l (b := 42) (by omega)).mp z))]
  have bad : ¬ (65 ≤ sg p S i ∧ sg p S i ≤ 72) → qOk2 (some ((0 : Int32), M)) (fun r N => (∃ k v x j, pA p S i = some (k, v, x, j) ∧ r = 1 ∧ qAd M N n k v x j) ∨ (pA p S i = none ∧ r = 0 ∧ qNo M N (pE p S i))) := fun c => by
    rw [qOk2_some]
    refine Or.inr ⟨by unfold pA; rw [if_neg c1, if_neg c2, if_neg c], rfl, ?_⟩
    rw [show pE p S i = i from by unfold pE; rw [if_neg c2, if_neg c]]
    exact ⟨h6, rfl, fun _ _ => rfl⟩
  by_cases c3 : sg p S i < 65
  · rw [if_pos (show nI (sg p S i) < (65 : Int32) from nI_lt (b := 65) c3 (by decide))]
    exact bad (by omega)
  rw [if_neg (show ¬ nI (sg p S i) < (65 : Int32) from nI_nlt (b := 65) (by omega) (by omega))]
  by_cases c4 : sg p S i < 73
  · rw [if_pos (show nI (sg p S i) < (73 : Int32) from nI_lt (b := 73) c4 (by decide)), qvl_eq, qOk2_b2, show nI (sg p S i) - 65 = nI (sg p S i - 65) from pk_sub (b := 65) (by omega), ← nI_succ]
    have c5 : 65 ≤ sg p S i ∧ sg p S i ≤ 72 := by omega
    have hpO : qPc (qst M 39 6 (nI (i + 1))) S p := ⟨hp.1, by rw [s3]; exact hp.2.1, by rw [s4 40 (by decide)]; exact hp.2.2⟩
    unfold kX2_readDeed
    rw [s2, signAt_eq hpO (by omega), qb1_some]
    have t2 : ∀ j : Nat, (qst (qst M 39 6 (nI (i + 1))) 39 6 (nI j)) 39 5 = nI n ∧ (qst (qst M 39 6 (nI (i + 1))) 39 6 (nI j)) 39 6 = nI j ∧ (qst (qst M 39 6 (nI (i + 1))) 39 6 (nI j)) 39 1 = M 39 1 ∧ ∀ c, c ≠ 39 → (qst (qst M 39 6 (nI (i + 1))) 39 6 (nI j)) c = M c := fun j => ⟨by rw [qst_at, if_neg (by decide), s1], by rw [qst_at, if_pos rfl], by rw [qst_at, if_neg (by decide), s3], fun c hc => by rw [qst_n hc, s4 c hc]⟩
    obtain ⟨u1, u2, u3, u4⟩ := t2 (i + 1 + 1)
    have P1 : ∀ {X : Option (Int32 × qM)}, qOk2 X (fun r N => qOk2 (qbl r (some (r, N))) (fun r N => (∃ k v x j, pA p S i = some (k, v, x, j) ∧ r = 1 ∧ qAd M N n k v x j) ∨ (pA p S i = none ∧ r = 0 ∧ qNo M N (pE p S i)))) → qOk2 X (fun r N => qOk2 (qbl r (some (r, N))) (fun r N => (∃ k v x j, pA p S i = some (k, v, x, j) ∧ r = 1 ∧ qAd M N n k v x j) ∨ (pA p S i = none ∧ r = 0 ∧ qNo M N (pE p S i)))) := fun h => h
    sorry
  · rw [if_neg (show ¬ nI (sg p S i) < (73 : Int32) from nI_nlt (b := 73) (by omega) (by omega))]
    exact bad (by omega)
