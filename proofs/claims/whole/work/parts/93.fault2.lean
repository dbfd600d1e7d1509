/-! the class reads the pad -/
def qPc (M : qM) (S : Nat) (p : Nat → Nat) : Prop := S ≤ 60 ∧ M 39 1 = nI S ∧ ∀ i, i < S → M 40 i = nI (p i) ∧ 33 ≤ p i ∧ p i ≤ 126
theorem sg_le {M : qM} {S : Nat} {p : Nat → Nat} (h : qPc M S p) (i : Nat) : sg p S i ≤ 126 := by
  unfold sg
  by_cases c : i < S
  · rw [if_pos c]; exact (h.2.2 i c).2.2
  · rw [if_neg c]; omega
theorem signAt_eq {M : qM} {S : Nat} {p : Nat → Nat} (h : qPc M S p) {i : Nat} (hi : i < 1000) : kX2_signAt M (nI i) = some (nI (sg p S i)) := by
  obtain ⟨hS, h1, h2⟩ := h
  unfold kX2_signAt sg
  rw [if_neg (show ¬ nI i < (0 : Int32) from nI_nlt (b := 0) (by omega) (by omega)), h1]
  by_cases c : i < S
  · rw [if_neg (nI_ge c (by omega)), if_neg (show ¬ (60 : Int32) ≤ nI i from nI_ge (b := 60) (by omega) (by decide)), qrd_k (show i < 60 by omega) (by omega), (h2 i c).1, if_pos c, qb1_some]
  · rw [if_pos (nI_le (by omega) (by omega)), if_neg c, qb1_some]
    rfl
/-- one act more -/
def qAd (M N : qM) (n k v x j : Nat) : Prop := N 39 6 = nI j ∧ N 39 5 = nI (n + 1) ∧ N 39 1 = M 39 1 ∧ (∀ c, c < 39 ∨ c = 40 ∨ 44 ≤ c → N c = M c) ∧ (N 41 n = nI k ∧ N 42 n = nI v ∧ N 43 n = nI x) ∧ ∀ m, m ≠ n → N 41 m = M 41 m ∧ N 42 m = M 42 m ∧ N 43 m = M 43 m
theorem addAct_eq {M O : qM} {n j : Nat} (hn : n < 60) (h5 : M 39 5 = nI n) (h6 : M 39 6 = nI j) (h1 : M 39 1 = O 39 1) (ho : ∀ c, c ≠ 39 → M c = O c) (k v x : Nat) : qOk2 (kX2_addAct M (nI k) (nI v) (nI x)) (fun r N => r = 1 ∧ qAd O N n k v x j) := by
  unfold kX2_addAct
  rw [h5, if_pos (show nI n < (60 : Int32) from nI_lt (b := 60) hn (by decide)), qwr_k hn (by omega), qst_n (show (39 : Nat) ≠ 41 by decide), h5, qwr_k hn (by omega), qst_n (show (39 : Nat) ≠ 42 by decide), qst_n (show (39 : Nat) ≠ 41 by decide), h5, qwr_k hn (by omega), qst_n (show (39 : Nat) ≠ 43 by decide), qst_n (show (39 : Nat) ≠ 42 by decide), qst_n (show (39 : Nat) ≠ 41 by decide), h5, qvl_eq, qOk2_some, ← nI_succ]
  refine ⟨rfl, ?_, ?_, ?_, fun c hc => ?_, ⟨?_, ?_, ?_⟩, fun m hm => ⟨?_, ?_, ?_⟩⟩
  · rw [qst_at, if_neg (by decide), qst_n (by decide), qst_n (by decide), qst_n (by decide), h6]
  · rw [qst_at, if_pos rfl]
  · rw [qst_at, if_neg (by decide), qst_n (by decide), qst_n (by decide), qst_n (by decide), h1]
  · rw [qst_n (by omega), qst_n (by omega), qst_n (by omega), qst_n (by omega), ho c (by omega)]
  · rw [qst_n (by decide), qst_n (by decide), qst_n (by decide), qst_at, if_pos rfl]
  · rw [qst_n (by decide), qst_n (by decide), qst_at, if_pos rfl]
  · rw [qst_n (by decide), qst_at, if_pos rfl]
  · rw [qst_n (by decide), qst_n (by decide), qst_n (by decide), qst_at, if_neg hm, ho 41 (by decide)]
  · rw [qst_n (by decide), qst_n (by decide), qst_at, if_neg hm, qst_n (by decide), ho 42 (by decide)]
  · rw [qst_n (by decide), qst_at, if_neg hm, qst_n (by decide), qst_n (by decide), ho 43 (by decide)]
/-- the reading stopped -/
def qNo (M N : qM) (j : Nat) : Prop := N 39 6 = nI j ∧ N 39 1 = M 39 1 ∧ ∀ c, c < 39 ∨ c = 40 ∨ 44 ≤ c → N c = M c
theorem gallery_eq {M O : qM} {S : Nat} {p : Nat → Nat} (hp : qPc O S p) {n i : Nat} (hn : n < 60) (hi : i < 900) (h5 : M 39 5 = nI n) (h6 : M 39 6 = nI i) (h1 : M 39 1 = O 39 1) (ho : ∀ c, c ≠ 39 → M c = O c) (k v : Nat) : qOk2 (kX2_readGallery M (nI k) (nI v)) (fun r N => (48 ≤ sg p S i ∧ sg p S i ≤ 57 ∧ r = 1 ∧ qAd O N n k v (sg p S i - 48) (i + 1)) ∨ (¬ (48 ≤ sg p S i ∧ sg p S i ≤ 57) ∧ r = 0 ∧ qNo O N i)) := by
  have hpM : qPc M S p := ⟨hp.1, by rw [h1]; exact hp.2.1, by rw [ho 40 (by decide)]; exact hp.2.2⟩
  have l := sg_le hp i
  unfold kX2_readGallery
  rw [h6, signAt_eq hpM (by omega), qb1_some]
  by_cases c1 : sg p S i < 48
  · rw [if_pos (show nI (sg p S i) < (48 : Int32) from nI_lt (b := 48) c1 (by decide)), qOk2_some]
    exact Or.inr ⟨by omega, rfl, h6, h1, fun c hc => ho c (by omega)⟩
  · rw [if_neg (show ¬ nI (sg p S i) < (48 : Int32) from nI_nlt (b := 48) (by omega) (by omega))]
    by_cases c2 : sg p S i ≤ 57
    · rw [if_pos (show nI (sg p S i) ≤ (57 : Int32) from nI_le (b := 57) c2 (by decide)), qvl_eq, qOk2_b2, show nI (sg p S i) - 48 = nI (sg p S i - 48) from pk_sub (b := 48) (by omega), ← nI_succ]
      refine qOk2.m (addAct_eq (O := O) (n := n) (j := i + 1) hn (by rw [qst_at, if_neg (by decide), h5]) (by rw [qst_at, if_pos rfl]) (by rw [qst_at, if_neg (by decide), h1]) (fun c hc => by rw [qst_n hc, ho c hc]) k v _) (fun r N ⟨er, hN⟩ => ?_)
      rw [er, qbl_1, qOk2_some]
      exact Or.inl ⟨by omega, c2, rfl, hN⟩
    · rw [if_neg (show ¬ nI (sg p S i) ≤ (57 : Int32) from nI_ge (a := 57) (by omega) (by omega)), qOk2_some]
      exact Or.inr ⟨by omega, rfl, h6, h1, fun c hc => ho c (by omega)⟩
theorem readAct_eq {M : qM} {S : Nat} {p : Nat → Nat} (hp : qPc M S p) {n i : Nat} (hn : n < 60) (hi : i < 800) (h5 : M 39 5 = nI n) (h6 : M 39 6 = nI i) : qOk2 (kX2_readAct M) (fun r N => (∃ k v x j, pA p S i = some (k, v, x, j) ∧ r = 1 ∧ qAd M N n k v x j) ∨ (pA p S i = none ∧ r = 0 ∧ qNo M N (pE p S i))) := by
  unfold kX2_readAct
  have l := sg_le hp i
  have l1 := sg_le hp (i + 1)
  rw [h6, signAt_eq hp (by omega), qb1_some]
  have eqc : ∀ {a b : Nat}, a ≤ 126 → b ≤ 126 → (nI a = nI b ↔ a = b) := fun ha hb => nI_inj (by omega) (by omega)
  have st : ∀ j : Nat, (qst M 39 6 (nI j)) 39 5 = nI n ∧ (qst M 39 6 (nI j)) 39 6 = nI j ∧ (qst M 39 6 (nI j)) 39 1 = M 39 1 ∧ ∀ c, c ≠ 39 → (qst M 39 6 (nI j)) c = M c := fun j => ⟨by rw [qst_at, if_neg (by decide), h5], by rw [qst_at, if_pos rfl], by rw [qst_at, if_neg (by decide)], fun c hc => by rw [qst_n hc]⟩
  obtain ⟨s1, s2, s3, s4⟩ := st (i + 1)
  by_cases c1 : sg p S i = 46
  · rw [if_pos (show nI (sg p S i) = (46 : Int32) by rw [c1]; rfl), qvl_eq, qOk2_b2, ← nI_succ]
    refine qOk2.m (addAct_eq (O := M) (n := n) (j := i + 1) hn s1 s2 s3 s4 4 0 0) (fun r N ⟨er, hN⟩ => ?_)
    rw [er, qbl_1, qOk2_some]
    exact Or.inl ⟨4, 0, 0, i + 1, if_pos c1, rfl, hN⟩
  rw [if_neg (show ¬ nI (sg p S i) = (46 : Int32) from fun z => c1 ((eqc l (b := 46) (by omega)).mp z))]
  by_cases c2 : sg p S i = 42
  · rw [if_pos (show nI (sg p S i) = (42 : Int32) by rw [c2]; rfl), qvl_eq, qOk2_b2, ← nI_succ]
    refine qOk2.m (gallery_eq hp hn (by omega) s1 s2 s3 s4 3 0) (fun r N hr => ?_)
    rcases hr with ⟨d1, d2, er, hN⟩ | ⟨d, er, hN⟩
    · rw [er, qbl_1, qOk2_some]
      exact Or.inl ⟨3, 0, _, i + 2, by unfold pA; rw [if_neg c1, if_pos c2, if_pos ⟨d1, d2⟩], rfl, hN⟩
    · rw [er, qbl_0, qOk2_some]
      exact Or.inr ⟨by unfold pA; rw [if_neg c1, if_pos c2, if_neg d], rfl, by rw [show pE p S i = i + 1 from if_pos c2]; exact hN⟩
  rw [if_neg (show ¬ nI (sg p S i) = (42 : Int32) from fun z => c2 ((eqc l (b := 42) (by omega)).mp z))]
  have bad : ¬ (65 ≤ sg p S i ∧ sg p S i ≤ 72) → qOk2 (some ((0 : Int32), M)) (fun r N => (∃ k v x j, pA p S i = some (k, v, x, j) ∧ r = 1 ∧ qAd M N n k v x j) ∨ (pA p S i = none ∧ r = 0 ∧ qNo M N (pE p S i))) := fun c => by
    rw [qOk2_some]
    refine Or.inr ⟨by unfold pA; rw [if_neg c1, if_neg c2, if_neg c], rfl, ?_⟩
    rw [show pE p S i = i from by unfold pE; rw [if_neg c2, if_neg c]]
    exact ⟨h6, rfl, fun _ _ => rfl⟩
  by_cases c3 : sg p S i < 65
  · rw [if_pos (show nI (sg p S i) < (65 : Int32) from nI_lt (b := 65) c3 (by decide))]
    exact bad (by omega)
  rw [if_neg (show ¬ nI (sg p S i) < (65 : Int32) from nI_nlt (b := 65) (by omega) (by omega))]
  by_cases c4 : sg p S i < 73
  · rw [if_pos (show nI (sg p S i) < (73 : Int32) from nI_lt (b := 73) c4 (by decide)), qvl_eq, qOk2_b2, show nI (sg p S i) - 65 = nI (sg p S i - 65) from pk_sub (b := 65) (by omega), ← nI_succ]
    have c5 : 65 ≤ sg p S i ∧ sg p S i ≤ 72 := by omega
    have hpO : qPc (qst M 39 6 (nI (i + 1))) S p := ⟨hp.1, by rw [s3]; exact hp.2.1, by rw [s4 40 (by decide)]; exact hp.2.2⟩
    unfold kX2_readDeed
    rw [s2, signAt_eq hpO (by omega), qb1_some]
    have t2 : ∀ j : Nat, (qst (qst M 39 6 (nI (i + 1))) 39 6 (nI j)) 39 5 = nI n ∧ (qst (qst M 39 6 (nI (i + 1))) 39 6 (nI j)) 39 6 = nI j ∧ (qst (qst M 39 6 (nI (i + 1))) 39 6 (nI j)) 39 1 = M 39 1 ∧ ∀ c, c ≠ 39 → (qst (qst M 39 6 (nI (i + 1))) 39 6 (nI j)) c = M c := fun j => ⟨by rw [qst_at, if_neg (by decide), s1], by rw [qst_at, if_pos rfl], by rw [qst_at, if_neg (by decide), s3], fun c hc => by rw [qst_n hc, s4 c hc]⟩
    obtain ⟨u1, u2, u3, u4⟩ := t2 (i + 1 + 1)
    obtain ⟨O, hO⟩ : ∃ O, O = qst M 39 6 (nI (i + 1)) := ⟨_, rfl⟩
    rw [← hO] at s1 s2 s3 s4 u1 u2 u3 u4 ⊢
    obtain ⟨D, hD⟩ : ∃ D, D = sg p S (i + 1) := ⟨_, rfl⟩
    rw [← hD] at l1 ⊢
    obtain ⟨Q, hQ⟩ : ∃ Q : Int32 → qM → Prop, Q = fun r N => (∃ k v x j, pA p S i = some (k, v, x, j) ∧ r = 1 ∧ qAd M N n k v x j) ∨ (pA p S i = none ∧ r = 0 ∧ qNo M N (pE p S i)) := ⟨_, rfl⟩
    have dA : ∀ k x, pA p S i = some (k, sg p S i - 65, x, i + 2) → qOk2 (qb2 (kX2_addAct (qst O 39 6 (nI (i + 1 + 1))) (nI k) (nI (sg p S i - 65)) (nI x)) (fun v7 M6 => qbl v7 (some (v7, M6)))) (fun r N => qOk2 (qbl r (some (r, N))) Q) := fun k x hk => by
      rw [qOk2_b2]
      refine qOk2.m (addAct_eq (O := M) (n := n) (j := i + 1 + 1) hn u1 u2 u3 u4 k (sg p S i - 65) x) (fun r N ⟨er, hN⟩ => ?_)
      rw [er, qbl_1, qOk2_some, qbl_1, qOk2_some, hQ]
      exact Or.inl ⟨k, _, x, i + 2, hk, rfl, hN⟩
    have rest : ¬ (97 ≤ D ∧ D ≤ 120) → qOk2 (if nI D = 45 then (qvl (qst O 39 6 (nI (i + 1) + 1)) (fun M5 => qb2 (kX2_addAct M5 1 (nI (sg p S i - 65)) 0) (fun v7 M6 => qbl v7 (some (v7, M6))))) else (if nI D = 62 then (qvl (qst O 39 6 (nI (i + 1) + 1)) (fun M2 => qb2 (kX2_readGallery M2 2 (nI (sg p S i - 65))) (fun v4 M3 => qbl v4 (some (v4, M3))))) else (some (0, O)))) (fun r N => qOk2 (qbl r (some (r, N))) Q) := fun d1 => by
      rw [hD] at d1
      by_cases d2 : D = 45
      · rw [if_pos (show nI D = (45 : Int32) by rw [d2]; rfl), qvl_eq, ← nI_succ]
        rw [hD] at d2
        exact dA 1 0 (by unfold pA; rw [if_neg c1, if_neg c2, if_pos c5, if_neg d1, if_pos d2])
      · rw [if_neg (show ¬ nI D = (45 : Int32) from fun z => d2 ((eqc l1 (b := 45) (by omega)).mp z))]
        by_cases d3 : D = 62
        · rw [if_pos (show nI D = (62 : Int32) by rw [d3]; rfl), qvl_eq, ← nI_succ, qOk2_b2]
          rw [hD] at d2 d3
          refine qOk2.m (gallery_eq hp hn (by omega) u1 u2 u3 u4 2 (sg p S i - 65)) (fun r N hr => ?_)
          rcases hr with ⟨e1, e2, er, hN⟩ | ⟨e, er, hN⟩
          · rw [er, qbl_1, qOk2_some, qbl_1, qOk2_some, hQ]
            exact Or.inl ⟨2, _, _, i + 3, by unfold pA; rw [if_neg c1, if_neg c2, if_pos c5, if_neg d1, if_neg d2, if_pos d3, if_pos ⟨e1, e2⟩], rfl, hN⟩
          · rw [er, qbl_0, qOk2_some, qbl_0, qOk2_some, hQ]
            exact Or.inr ⟨by unfold pA; rw [if_neg c1, if_neg c2, if_pos c5, if_neg d1, if_neg d2, if_pos d3, if_neg e], rfl, by rw [show pE p S i = i + 2 from by unfold pE; rw [if_neg c2, if_pos c5, if_pos d3]]; exact hN⟩
        · rw [if_neg (show ¬ nI D = (62 : Int32) from fun z => d3 ((eqc l1 (b := 62) (by omega)).mp z)), qOk2_some, qbl_0, qOk2_some, hQ]
          rw [hD] at d2 d3
          refine Or.inr ⟨by unfold pA; rw [if_neg c1, if_neg c2, if_pos c5, if_neg d1, if_neg d2, if_neg d3], rfl, ?_⟩
          rw [show pE p S i = i + 1 from by unfold pE; rw [if_neg c2, if_pos c5, if_neg d3]]
          exact ⟨s2, s3, fun c hc => s4 c (by omega)⟩
    rw [← hQ]
    by_cases f1 : D < 97
    · rw [if_pos (show nI D < (97 : Int32) from nI_lt (b := 97) f1 (by decide))]
      exact rest (by omega)
    · rw [if_neg (show ¬ nI D < (97 : Int32) from nI_nlt (b := 97) (by omega) (by omega))]
      by_cases f2 : D < 121
      · rw [if_neg (show ¬ (121 : Int32) ≤ nI D from nI_ge (b := 121) f2 (by decide)), qvl_eq, ← nI_succ, show nI D - 97 = nI (D - 97) from pk_sub (b := 97) (by omega)]
        have d1 : 97 ≤ sg p S (i + 1) ∧ sg p S (i + 1) ≤ 120 := by omega
        rw [hD]
        exact dA 0 _ (by unfold pA; rw [if_neg c1, if_neg c2, if_pos c5, if_pos d1])
      · rw [if_pos (show (121 : Int32) ≤ nI D from nI_le (a := 121) (by omega) (by omega))]
        exact rest (by omega)
  · rw [if_neg (show ¬ nI (sg p S i) < (73 : Int32) from nI_nlt (b := 73) (by omega) (by omega))]
    exact bad (by omega)
/-- where the m-th act begins -/
def pq (p : Nat → Nat) (S : Nat) : Nat → Nat
  | 0 => 0
  | m + 1 => match pA p S (pq p S m) with
    | some (_, _, _, j) => j
    | none => pq p S m
theorem pq_1 {p : Nat → Nat} {S m k v x j : Nat} (h : pA p S (pq p S m) = some (k, v, x, j)) : pq p S (m + 1) = j := by
  show (match pA p S (pq p S m) with
    | some (_, _, _, j) => j
    | none => pq p S m) = j
  rw [h]
/-- the first K acts stand in the rows -/
def qAc (N : qM) (p : Nat → Nat) (S K : Nat) : Prop := ∀ m, m < K → ∃ k v x, pA p S (pq p S m) = some (k, v, x, pq p S (m + 1)) ∧ N 41 m = nI k ∧ N 42 m = nI v ∧ N 43 m = nI x
theorem readActs_eq {M : qM} {S : Nat} {p : Nat → Nat} (hp : qPc M S p) : qOk2 (kX2_readActs M) (fun r N => (∀ c, c < 39 ∨ c = 40 ∨ 44 ≤ c → N c = M c) ∧ N 39 1 = M 39 1 ∧ ((r = -6 ∧ sAt p S = some 0 ∧ ∃ K, K ≤ 60 ∧ N 39 5 = nI K ∧ pq p S K = S ∧ qAc N p S K) ∨ (∃ e, r = nI e ∧ ((e < S ∧ ∃ st, sAt p e = some st ∧ fN st (p e) = none) ∨ (e = S ∧ ∃ t, t ≠ 0 ∧ sAt p S = some t))))) := by
  unfold kX2_readActs
  obtain ⟨hS, h1, h2⟩ := hp
  rw [qvl_eq, qvl_eq]
  show qOk _ _
  rw [qOk_e1]
  refine qlp_for (fun k s => ∃ N, s = (nI k, N) ∧ (∀ c, c < 39 ∨ c = 40 ∨ 44 ≤ c → N c = M c) ∧ N 39 1 = M 39 1 ∧ N 39 5 = nI k ∧ N 39 6 = nI (pq p S k) ∧ k ≤ pq p S k ∧ pq p S k ≤ S ∧ sAt p (pq p S k) = some 0 ∧ qAc N p S k) 60 (by omega) ⟨_, rfl, fun c hc => by rw [qst_n (by omega), qst_n (by omega)], by rw [qst_at, if_neg (by decide), qst_at, if_neg (by decide)], by rw [qst_at, if_neg (by decide), qst_at, if_pos rfl]; rfl, by rw [qst_at, if_pos rfl]; rfl, Nat.le_refl _, Nat.zero_le _, rfl, fun m hm => by omega⟩ ?_ ?_
  · rintro k s hk ⟨N, rfl, n1, n2, n3, n4, n5, n6, n7, n8⟩
    show qOk (kX2_readActs_L12 (nI k) N) _
    unfold kX2_readActs_L12
    rw [if_neg (show ¬ (60 : Int32) ≤ nI k from nI_ge hk (by decide)), show N 39 1 = nI S from n2.trans h1, n4]
    by_cases c : pq p S k < S
    · rw [if_neg (nI_ge c (by omega)), qOk_b2']
      have hpN : qPc N S p := ⟨hS, by rw [n2]; exact h1, by rw [n1 40 (by omega)]; exact h2⟩
      refine qOk2.m (readAct_eq hpN hk (by omega) n3 n4) (fun r O hr => ?_)
      rcases hr with ⟨a, v, x, j, e, rfl, o1, o2, o3, o4, ⟨o5, o6, o7⟩, o8⟩ | ⟨e, rfl, o1, o2, o3⟩
      · rw [if10, qvl_eq, qOk_some]
        obtain ⟨j1, j2, j3⟩ := pA_some n7 e
        have ej := pq_1 e
        refine ⟨O, by rw [nI_succ], fun c hc => by rw [o4 c hc, n1 c hc], by rw [o3, n2], o2, by rw [o1, ej], by omega, by omega, by rw [ej]; exact j3, fun m hm => ?_⟩
        by_cases q : m = k
        · subst q
          exact ⟨a, v, x, by rw [ej]; exact e, o5, o6, o7⟩
        · obtain ⟨a', v', x', y1, y2, y3, y4⟩ := n8 m (by omega)
          obtain ⟨z1, z2, z3⟩ := o8 m q
          exact ⟨a', v', x', y1, by rw [z1, y2], by rw [z2, y3], by rw [z3, y4]⟩
      · rw [if00, qOk_some]
        show qOk (some (O 39 6, O)) _
        rw [qOk_some]
        refine ⟨fun c hc => by dsimp only; rw [o3 c hc, n1 c hc], by dsimp only; rw [o2, n2], Or.inr ⟨_, o1, pA_none c n7 e⟩⟩
    · rw [if_pos (nI_le (by omega) (by omega)), qOk_some]
      show qOk (some ((-6 : Int32), N)) _
      rw [qOk_some]
      have e : pq p S k = S := by omega
      exact ⟨n1, n2, Or.inl ⟨rfl, by rw [← e]; exact n7, k, by omega, n3, e, n8⟩⟩
  · rintro s ⟨N, rfl, n1, n2, n3, n4, n5, n6, n7, n8⟩
    show qOk (kX2_readActs_L12 (nI 60) N) _
    unfold kX2_readActs_L12
    rw [if_pos (show (60 : Int32) ≤ nI 60 from by decide), qOk_some]
    show qOk (some ((-6 : Int32), N)) _
    rw [qOk_some]
    have e : pq p S 60 = S := by omega
    exact ⟨n1, n2, Or.inl ⟨rfl, by rw [← e]; exact n7, 60, by omega, n3, e, n8⟩⟩
theorem t_fault : qT_fault qR := by
  intro M1 M2 hR
  have hR0 := hR
  obtain ⟨-, ⟨S, p, s1, s2, s3, s4⟩, -, -⟩ := hR
  unfold kX7_fault kX8_fault
  rw [qOk2_b2]
  refine qOk2.m (readActs_eq (S := S) (p := p) ⟨s1, s2, fun i hi => ⟨(s4 i hi).1, (s4 i hi).2.2⟩⟩) (fun r N ⟨n1, n2, n3⟩ => ?_)
  rw [qOk2_some]
  have hk : qR N M2 := hR0.kept ⟨fun k hk => n1 k (by omega), n2, n1 40 (by omega)⟩ qK2.rf
  have h2 : ∀ i, i < S → M2 9 i = nI (p i) ∧ 33 ≤ p i ∧ p i ≤ 126 := fun i hi => (s4 i hi).2
  rcases n3 with ⟨rfl, h, -⟩ | ⟨e, rfl, ⟨h, st, a, b⟩ | ⟨rfl, t, a, b⟩⟩
  · rw [fo_end s1 s3 h2 h, qb1_some, qOk_some]
    exact ⟨rfl, hk⟩
  · rw [fo_at s1 s3 h2 h a b, qb1_some, qOk_some]
    exact ⟨rfl, hk⟩
  · rw [fo_end s1 s3 h2 b, qb1_some, qOk_some, if_neg a]
    exact ⟨rfl, hk⟩
