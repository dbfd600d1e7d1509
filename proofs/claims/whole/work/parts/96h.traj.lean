/-! A behind m acts of a text; the class tries them -/
def aT (p : Nat → Nat) (S : Nat) (A : qN) : Nat → qN
  | 0 => A
  | m + 1 => match pA p S (pq p S m) with
    | some (k, v, x, _) => yA (aT p S A m) k v x
    | none => aT p S A m
def yT (p : Nat → Nat) (S : Nat) (A : qN) (m : Nat) : Nat := match pA p S (pq p S m) with
  | some (k, v, x, _) => yW (aT p S A m) k v x
  | none => 0
theorem aT_1 {p : Nat → Nat} {S : Nat} {A : qN} {m k v x j : Nat} (h : pA p S (pq p S m) = some (k, v, x, j)) : aT p S A (m + 1) = yA (aT p S A m) k v x := by
  show (match pA p S (pq p S m) with
    | some (k, v, x, _) => yA (aT p S A m) k v x
    | none => aT p S A m) = _
  rw [h]
theorem yT_at {p : Nat → Nat} {S : Nat} {A : qN} {m k v x j : Nat} (h : pA p S (pq p S m) = some (k, v, x, j)) : yT p S A m = yW (aT p S A m) k v x := by
  unfold yT
  rw [h]
def dD (p : Nat → Nat) (S : Nat) (A : qN) (m : Nat) : Nat := sB (aT p S A m) &&& (sB (aT p S A (m + 1)) ^^^ 1023)
theorem dD_lt {p : Nat → Nat} {S : Nat} {A : qN} {m : Nat} : dD p S A m < 1024 := Nat.lt_of_le_of_lt Nat.and_le_left (sB_lt _)
def dT (p : Nat → Nat) (S : Nat) (A : qN) : Nat → Int32 × Int32
  | 0 => (-6, -6)
  | m + 1 => if (dT p S A m).1 = -6 ∧ dD p S A m ≠ 0 then (nI m, nI (lb (dD p S A m))) else dT p S A m
theorem dT_y {p : Nat → Nat} {S : Nat} {A : qN} {m : Nat} (h : (dT p S A m).1 = -6 ∧ dD p S A m ≠ 0) : dT p S A (m + 1) = (nI m, nI (lb (dD p S A m))) := if_pos h
theorem dT_n {p : Nat → Nat} {S : Nat} {A : qN} {m : Nat} (h : ¬ ((dT p S A m).1 = -6 ∧ dD p S A m ≠ 0)) : dT p S A (m + 1) = dT p S A m := if_neg h
theorem dT_ok {p : Nat → Nat} {S : Nat} {A : qN} : ∀ m, m ≤ 60 → (dT p S A m).1 = -6 ∨ (0 : Int32) ≤ (dT p S A m).1
  | 0, _ => Or.inl rfl
  | m + 1, hm => by
    by_cases c : (dT p S A m).1 = -6 ∧ dD p S A m ≠ 0
    · rw [dT_y c]
      exact Or.inr (nI_pos' (by omega))
    · rw [dT_n c]
      exact dT_ok m (by omega)
theorem yW_lt (A : qN) (k v x : Nat) : yW A k v x < 8 := by
  unfold yW ySing yHush yGo
  repeat' split
  all_goals omega
def qAp (p : Nat → Nat) (S K : Nat) : Prop := ∀ m, m < K → ∃ k v x, pA p S (pq p S m) = some (k, v, x, pq p S (m + 1))
theorem aT_W {p : Nat → Nat} {S K : Nat} {A : qN} (hc : qAp p S K) (hw : qW A) : ∀ m, m ≤ K → (∀ i, i < m → yT p S A i = 0) → qW (aT p S A m)
  | 0, _, _ => hw
  | m + 1, hm, h => by
    obtain ⟨k, v, x, y⟩ := hc m (by omega)
    have e := h m (by omega)
    rw [yT_at y] at e
    rw [aT_1 y]
    exact yA_W (aT_W hc hw m (by omega) (fun i hi => h i (by omega))) (pA_valid y) e
theorem tryActs_eq {M : qM} {A : qN} {p : Nat → Nat} {S K : Nat} (h : qC 1 M A) (hw : qW A) (hK : K ≤ 60) (h5 : M 39 5 = nI K) (hc : qAc M p S K) : qOk (kX4_tryActs M 1) (fun N => (∀ c, c < 47 → N c = M c) ∧ ((∃ m, m < K ∧ (∀ i, i < m → yT p S A i = 0) ∧ yT p S A m ≠ 0 ∧ N 47 1 = nI m ∧ N 47 2 = nI (yT p S A m)) ∨ ((∀ i, i < K → yT p S A i = 0) ∧ N 47 1 = -6 ∧ N 47 2 = -6 ∧ qC 48 N (aT p S A K) ∧ N 47 3 = (dT p S A K).1 ∧ N 47 4 = (dT p S A K).2))) := by
  have hp : qAp p S K := fun m hm => by
    obtain ⟨k, v, x, y, -⟩ := hc m hm
    exact ⟨k, v, x, y⟩
  unfold kX4_tryActs
  rw [qOk_b1]
  refine qOk.m (X1_become_eq (b0 := 48) (b1 := 1) (Or.inr (by omega)) h hw) (fun M1 ⟨m1, m2⟩ => ?_)
  rw [qvl_eq, qvl_eq, qvl_eq, qvl_eq, qOk_b1]
  obtain ⟨M5, e5⟩ : ∃ M5, M5 = qst (qst (qst (qst M1 47 1 (-6)) 47 2 (-6)) 47 3 (-6)) 47 4 (-6) := ⟨_, rfl⟩
  rw [← e5]
  have f5 : ∀ c, c ≠ 47 → M5 c = M1 c := fun c hc => by rw [e5, qst_n hc, qst_n hc, qst_n hc, qst_n hc]
  have g1 : M5 47 1 = -6 := by rw [e5, qst_at, if_neg (by decide), qst_at, if_neg (by decide), qst_at, if_neg (by decide), qst_at, if_pos rfl]
  have g2 : M5 47 2 = -6 := by rw [e5, qst_at, if_neg (by decide), qst_at, if_neg (by decide), qst_at, if_pos rfl]
  have g3 : M5 47 3 = -6 := by rw [e5, qst_at, if_neg (by decide), qst_at, if_pos rfl]
  have g4 : M5 47 4 = -6 := by rw [e5, qst_at, if_pos rfl]
  have c5 : qC 48 M5 A := m2.same (fun k a b => f5 k (by omega))
  refine qOk.m (X0_shineOn_eq c5 hw (Or.inr (by omega))) (fun M6 ⟨s1, s2, s3⟩ => ?_)
  rw [qOk_e1]
  refine qlp_for (fun m s => ∃ N, s = (nI m, N) ∧ (∀ c, c < 47 → N c = M c) ∧ (∀ i, i < m → yT p S A i = 0) ∧ N 47 1 = -6 ∧ N 47 2 = -6 ∧ qC 48 N (aT p S A m) ∧ (∀ g, g < 10 → N (60 + 2) g = nI (sL (aT p S A m) g)) ∧ N 60 2 = nI (sB (aT p S A m)) ∧ N 47 3 = (dT p S A m).1 ∧ N 47 4 = (dT p S A m).2) K (by omega) ⟨M6, rfl, fun c hc => by rw [s1 c (by omega) (by omega) (by omega), f5 c (by omega), m1 c (by omega)], fun i hi => by omega, by rw [s1 47 (by omega) (by omega) (by omega)]; exact g1, by rw [s1 47 (by omega) (by omega) (by omega)]; exact g2, c5.same (fun k a b => s1 k (by omega) (by omega) (by omega)), s2, s3, by rw [s1 47 (by omega) (by omega) (by omega)]; exact g3, by rw [s1 47 (by omega) (by omega) (by omega)]; exact g4⟩ ?_ ?_
  · rintro m s hm ⟨N, rfl, n1, n2, n3, n4, n5, n6, n7, n8, n9⟩
    show qOk (kX4_tryActs_L45 (nI m) N) _
    unfold kX4_tryActs_L45
    obtain ⟨k, v, x, y1, y2, y3, y4⟩ := hc m hm
    have ha := pA_valid y1
    have hWm : qW (aT p S A m) := aT_W hp hw m (by omega) n2
    have e39 : N 39 5 = nI K := by rw [n1 39 (by omega)]; exact h5
    have e41 : N 41 m = nI k := by rw [n1 41 (by omega)]; exact y2
    have e42 : N 42 m = nI v := by rw [n1 42 (by omega)]; exact y3
    have e43 : N 43 m = nI x := by rw [n1 43 (by omega)]; exact y4
    have eW : yT p S A m = yW (aT p S A m) k v x := yT_at y1
    have lW := yW_lt (aT p S A m) k v x
    rw [e39, if_neg (nI_ge hm (by omega)), if_neg (show ¬ (60 : Int32) ≤ nI m from nI_ge (b := 60) (by omega) (by decide)), qrd_k (show m < 60 by omega) (by omega), qrd_k (show m < 60 by omega) (by omega), qrd_k (show m < 60 by omega) (by omega), e41, e42, e43, X4_whyNot_eq n5 hWm ha, qb1_some]
    by_cases c : yW (aT p S A m) k v x = 0
    · rw [if_pos (show nI (yW (aT p S A m) k v x) = 0 by rw [c]; rfl), qvl_eq, n7, qrd_k (show m < 60 by omega) (by omega), qrd_k (show m < 60 by omega) (by omega), qrd_k (show m < 60 by omega) (by omega), e41, e42, e43, qOk_b1]
      refine qOk.m (X4_act_eq n5 hWm n6 ha) (fun O ⟨o1, o2⟩ => ?_)
      rw [← aT_1 y1] at o2
      have hW1 : qW (aT p S A (m + 1)) := by rw [aT_1 y1]; exact yA_W hWm ha c
      rw [qOk_b1]
      refine qOk.m (X0_shineOn_eq o2 hW1 (Or.inr (by omega))) (fun Q ⟨q1, q2, q3⟩ => ?_)
      rw [q3, andnot (sB_lt _), show sB (aT p S A m) &&& (sB (aT p S A (m + 1)) ^^^ 1023) = dD p S A m from rfl, qOk_b1]
      refine qOk.m (X4_dark_eq (m := m) dD_lt) (fun T ⟨t1, t2, t3⟩ => ?_)
      rw [qvl_eq, qOk_some]
      have w3 : Q 47 3 = (dT p S A m).1 := by rw [q1 47 (by omega) (by omega) (by omega), o1 47 (by omega)]; exact n8
      have w4 : Q 47 4 = (dT p S A m).2 := by rw [q1 47 (by omega) (by omega) (by omega), o1 47 (by omega)]; exact n9
      rw [w3, w4] at t3
      have t4 : T 47 3 = (dT p S A (m + 1)).1 ∧ T 47 4 = (dT p S A (m + 1)).2 := by
        by_cases d : (dT p S A m).1 = -6 ∧ dD p S A m ≠ 0
        · rw [if_pos d] at t3
          rw [dT_y d]
          exact t3
        · rw [if_neg d] at t3
          rw [dT_n d]
          exact t3
      refine ⟨T, by rw [nI_succ], fun c hc => by rw [t1 c (by omega), q1 c (by omega) (by omega) (by omega), o1 c (by omega), n1 c hc], fun i hi => ?_, ?_, ?_, o2.same (fun k a b => by rw [t1 k (by omega), q1 k (by omega) (by omega) (by omega)]), fun g hg => by rw [t1 (60 + 2) (by decide)]; exact q2 g hg, by rw [t1 60 (by decide)]; exact q3, t4.1, t4.2⟩
      · by_cases e : i = m
        · rw [e, eW]; exact c
        · exact n2 i (by omega)
      · rw [t2 1 (by decide) (by decide), q1 47 (by omega) (by omega) (by omega), o1 47 (by omega)]; exact n3
      · rw [t2 2 (by decide) (by decide), q1 47 (by omega) (by omega) (by omega), o1 47 (by omega)]; exact n4
    · rw [if_neg (show ¬ nI (yW (aT p S A m) k v x) = 0 from fun z => c ((nI_inj (by omega) (by omega)).mp (show _ = nI 0 from z))), qvl_eq, qvl_eq, qOk_some]
      show qOk (some (qst (qst N 47 1 (nI m)) 47 2 (nI (yW (aT p S A m) k v x)))) _
      rw [qOk_some]
      refine ⟨fun c hc => by rw [qst_n (by omega), qst_n (by omega), n1 c hc], Or.inl ⟨m, hm, n2, by rw [eW]; exact c, ?_, ?_⟩⟩
      · rw [qst_at, if_neg (by decide), qst_at, if_pos rfl]
      · rw [qst_at, if_pos rfl, eW]
  · rintro s ⟨N, rfl, n1, n2, n3, n4, n5, n6, n7, n8, n9⟩
    show qOk (kX4_tryActs_L45 (nI K) N) _
    unfold kX4_tryActs_L45
    have e39 : N 39 5 = nI K := by rw [n1 39 (by omega)]; exact h5
    rw [e39, if_pos (nI_le (Nat.le_refl K) (by omega)), qOk_some]
    show qOk (some N) _
    rw [qOk_some]
    exact ⟨n1, Or.inr ⟨n2, n3, n4, n5, n8, n9⟩⟩
