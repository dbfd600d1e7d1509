theorem cpy_lt {f g : Nat → Int32} {n k : Nat} (h : k < n) : va_cpy f g 0 0 n k = f k := by
  unfold va_cpy
  rw [if_pos ⟨Nat.zero_le _, by omega⟩]
  simp
theorem qOk_let {α β : Type} {x : α} {F : α → Option β} {P : β → Prop} (h : ∀ a, a = x → qOk (F a) P) : qOk (qvl x F) P := h x rfl
set_option maxHeartbeats 2000000 in
theorem X1_become_eq {b0 b1 : Nat} {M : qM} {A : qN} (hd : b0 + 12 ≤ b1 ∨ b1 + 12 ≤ b0) (h : qC b1 M A) (hw : qW A) : qOk (kX1_become b0 M b1) (fun N => (∀ k, k < b0 ∨ b0 + 12 ≤ k → N k = M k) ∧ qC b0 N A) := by
  unfold kX1_become
  refine qOk_let (fun N1 h1 => ?_)
  refine qOk_let (fun N2 h2 => ?_)
  refine qOk_let (fun N3 h3 => ?_)
  refine qOk_let (fun N4 h4 => ?_)
  refine qOk_let (fun N5 h5 => ?_)
  refine qOk_let (fun N6 h6 => ?_)
  refine qOk_let (fun N7 h7 => ?_)
  refine qOk_let (fun N8 h8 => ?_)
  refine qOk_let (fun N9 h9 => ?_)
  refine qOk_let (fun N10 h10 => ?_)
  refine qOk_let (fun N11 h11 => ?_)
  refine qOk_let (fun N12 h12 => ?_)
  refine qOk_let (fun N13 h13 => ?_)
  refine qOk_let (fun N14 h14 => ?_)
  refine qOk_let (fun N15 h15 => ?_)
  refine qOk_let (fun N16 h16 => ?_)
  rw [qOk_some]
  have u1 : ∀ k, k < b0 ∨ b0 + 12 ≤ k → N1 k = M k := fun k hk => by rw [h1, qst_n (by omega)]
  have u2 : ∀ k, k < b0 ∨ b0 + 12 ≤ k → N2 k = M k := fun k hk => by rw [h2, qst_n (by omega), u1 k hk]
  have u3 : ∀ k, k < b0 ∨ b0 + 12 ≤ k → N3 k = M k := fun k hk => by rw [h3, qst_n (by omega), u2 k hk]
  have u4 : ∀ k, k < b0 ∨ b0 + 12 ≤ k → N4 k = M k := fun k hk => by rw [h4, qst_n (by omega), u3 k hk]
  have u5 : ∀ k, k < b0 ∨ b0 + 12 ≤ k → N5 k = M k := fun k hk => by rw [h5, qst_n (by omega), u4 k hk]
  have u6 : ∀ k, k < b0 ∨ b0 + 12 ≤ k → N6 k = M k := fun k hk => by rw [h6, qcp_n (by omega), u5 k hk]
  have u7 : ∀ k, k < b0 ∨ b0 + 12 ≤ k → N7 k = M k := fun k hk => by rw [h7, qcp_n (by omega), u6 k hk]
  have u8 : ∀ k, k < b0 ∨ b0 + 12 ≤ k → N8 k = M k := fun k hk => by rw [h8, qcp_n (by omega), u7 k hk]
  have u9 : ∀ k, k < b0 ∨ b0 + 12 ≤ k → N9 k = M k := fun k hk => by rw [h9, qcp_n (by omega), u8 k hk]
  have u10 : ∀ k, k < b0 ∨ b0 + 12 ≤ k → N10 k = M k := fun k hk => by rw [h10, qcp_n (by omega), u9 k hk]
  have u11 : ∀ k, k < b0 ∨ b0 + 12 ≤ k → N11 k = M k := fun k hk => by rw [h11, qcp_n (by omega), u10 k hk]
  have u12 : ∀ k, k < b0 ∨ b0 + 12 ≤ k → N12 k = M k := fun k hk => by rw [h12, qcp_n (by omega), u11 k hk]
  have u13 : ∀ k, k < b0 ∨ b0 + 12 ≤ k → N13 k = M k := fun k hk => by rw [h13, qcp_n (by omega), u12 k hk]
  have u14 : ∀ k, k < b0 ∨ b0 + 12 ≤ k → N14 k = M k := fun k hk => by rw [h14, qcp_n (by omega), u13 k hk]
  have u15 : ∀ k, k < b0 ∨ b0 + 12 ≤ k → N15 k = M k := fun k hk => by rw [h15, qcp_n (by omega), u14 k hk]
  have u16 : ∀ k, k < b0 ∨ b0 + 12 ≤ k → N16 k = M k := fun k hk => by rw [h16, qcp_n (by omega), u15 k hk]
  have f3 : N5 b0 3 = M b1 3 := by rw [h5, qst_at, if_neg (by decide), h4, qst_at, if_neg (by decide), h3, qst_at, if_neg (by decide), h2, qst_at, if_neg (by decide), h1, qst_at, if_pos rfl]
  have g3 : N16 b0 3 = M b1 3 := by rw [h16, qcp_n (by omega), h15, qcp_n (by omega), h14, qcp_n (by omega), h13, qcp_n (by omega), h12, qcp_n (by omega), h11, qcp_n (by omega), h10, qcp_n (by omega), h9, qcp_n (by omega), h8, qcp_n (by omega), h7, qcp_n (by omega), h6, qcp_n (by omega), f3]
  have f4 : N5 b0 4 = M b1 4 := by rw [h5, qst_at, if_neg (by decide), h4, qst_at, if_neg (by decide), h3, qst_at, if_neg (by decide), h2, qst_at, if_pos rfl, u1 b1 (by omega)]
  have g4 : N16 b0 4 = M b1 4 := by rw [h16, qcp_n (by omega), h15, qcp_n (by omega), h14, qcp_n (by omega), h13, qcp_n (by omega), h12, qcp_n (by omega), h11, qcp_n (by omega), h10, qcp_n (by omega), h9, qcp_n (by omega), h8, qcp_n (by omega), h7, qcp_n (by omega), h6, qcp_n (by omega), f4]
  have f5 : N5 b0 5 = M b1 5 := by rw [h5, qst_at, if_neg (by decide), h4, qst_at, if_neg (by decide), h3, qst_at, if_pos rfl, u2 b1 (by omega)]
  have g5 : N16 b0 5 = M b1 5 := by rw [h16, qcp_n (by omega), h15, qcp_n (by omega), h14, qcp_n (by omega), h13, qcp_n (by omega), h12, qcp_n (by omega), h11, qcp_n (by omega), h10, qcp_n (by omega), h9, qcp_n (by omega), h8, qcp_n (by omega), h7, qcp_n (by omega), h6, qcp_n (by omega), f5]
  have f6 : N5 b0 6 = M b1 6 := by rw [h5, qst_at, if_neg (by decide), h4, qst_at, if_pos rfl, u3 b1 (by omega)]
  have g6 : N16 b0 6 = M b1 6 := by rw [h16, qcp_n (by omega), h15, qcp_n (by omega), h14, qcp_n (by omega), h13, qcp_n (by omega), h12, qcp_n (by omega), h11, qcp_n (by omega), h10, qcp_n (by omega), h9, qcp_n (by omega), h8, qcp_n (by omega), h7, qcp_n (by omega), h6, qcp_n (by omega), f6]
  have f7 : N5 b0 7 = M b1 7 := by rw [h5, qst_at, if_pos rfl, u4 b1 (by omega)]
  have g7 : N16 b0 7 = M b1 7 := by rw [h16, qcp_n (by omega), h15, qcp_n (by omega), h14, qcp_n (by omega), h13, qcp_n (by omega), h12, qcp_n (by omega), h11, qcp_n (by omega), h10, qcp_n (by omega), h9, qcp_n (by omega), h8, qcp_n (by omega), h7, qcp_n (by omega), h6, qcp_n (by omega), f7]
  have c1 : ∀ k, k < 10 → N16 (b0 + 1) k = M (b1 + 1) k := fun k hk => by rw [h16, qcp_n (by omega), h15, qcp_n (by omega), h14, qcp_n (by omega), h13, qcp_n (by omega), h12, qcp_n (by omega), h11, qcp_n (by omega), h10, qcp_n (by omega), h9, qcp_n (by omega), h8, qcp_n (by omega), h7, qcp_n (by omega), h6, qcp_s, cpy_lt hk, u5 (b1 + 1) (by omega)]
  have c2 : ∀ k, k < 10 → N16 (b0 + 2) k = M (b1 + 2) k := fun k hk => by rw [h16, qcp_n (by omega), h15, qcp_n (by omega), h14, qcp_n (by omega), h13, qcp_n (by omega), h12, qcp_n (by omega), h11, qcp_n (by omega), h10, qcp_n (by omega), h9, qcp_n (by omega), h8, qcp_n (by omega), h7, qcp_s, cpy_lt hk, u6 (b1 + 2) (by omega)]
  have c3 : ∀ k, k < 10 → N16 (b0 + 3) k = M (b1 + 3) k := fun k hk => by rw [h16, qcp_n (by omega), h15, qcp_n (by omega), h14, qcp_n (by omega), h13, qcp_n (by omega), h12, qcp_n (by omega), h11, qcp_n (by omega), h10, qcp_n (by omega), h9, qcp_n (by omega), h8, qcp_s, cpy_lt hk, u7 (b1 + 3) (by omega)]
  have c4 : ∀ k, k < 8 → N16 (b0 + 4) k = M (b1 + 4) k := fun k hk => by rw [h16, qcp_n (by omega), h15, qcp_n (by omega), h14, qcp_n (by omega), h13, qcp_n (by omega), h12, qcp_n (by omega), h11, qcp_n (by omega), h10, qcp_n (by omega), h9, qcp_s, cpy_lt hk, u8 (b1 + 4) (by omega)]
  have c5 : ∀ k, k < 8 → N16 (b0 + 5) k = M (b1 + 5) k := fun k hk => by rw [h16, qcp_n (by omega), h15, qcp_n (by omega), h14, qcp_n (by omega), h13, qcp_n (by omega), h12, qcp_n (by omega), h11, qcp_n (by omega), h10, qcp_s, cpy_lt hk, u9 (b1 + 5) (by omega)]
  have c6 : ∀ k, k < 8 → N16 (b0 + 6) k = M (b1 + 6) k := fun k hk => by rw [h16, qcp_n (by omega), h15, qcp_n (by omega), h14, qcp_n (by omega), h13, qcp_n (by omega), h12, qcp_n (by omega), h11, qcp_s, cpy_lt hk, u10 (b1 + 6) (by omega)]
  have c7 : ∀ k, k < 8 → N16 (b0 + 7) k = M (b1 + 7) k := fun k hk => by rw [h16, qcp_n (by omega), h15, qcp_n (by omega), h14, qcp_n (by omega), h13, qcp_n (by omega), h12, qcp_s, cpy_lt hk, u11 (b1 + 7) (by omega)]
  have c8 : ∀ k, k < 8 → N16 (b0 + 8) k = M (b1 + 8) k := fun k hk => by rw [h16, qcp_n (by omega), h15, qcp_n (by omega), h14, qcp_n (by omega), h13, qcp_s, cpy_lt hk, u12 (b1 + 8) (by omega)]
  have c9 : ∀ k, k < 8 → N16 (b0 + 9) k = M (b1 + 9) k := fun k hk => by rw [h16, qcp_n (by omega), h15, qcp_n (by omega), h14, qcp_s, cpy_lt hk, u13 (b1 + 9) (by omega)]
  have c10 : ∀ k, k < 8 → N16 (b0 + 10) k = M (b1 + 10) k := fun k hk => by rw [h16, qcp_n (by omega), h15, qcp_s, cpy_lt hk, u14 (b1 + 10) (by omega)]
  have c11 : ∀ k, k < 8 → N16 (b0 + 11) k = M (b1 + 11) k := fun k hk => by rw [h16, qcp_s, cpy_lt hk, u15 (b1 + 11) (by omega)]
  have si := hw.si
  exact ⟨u16, fun v hv => by rw [c4 v hv, h.lo v hv], fun v hv => by rw [c5 v hv, h.hi v hv], fun v hv => by rw [c6 v hv, h.lu v hv], fun v hv => by rw [c7 v hv, h.br v hv], fun v hv => by rw [c8 v hv, h.pl v hv], fun v hv => by rw [c9 v hv, h.no v hv], fun v hv => by rw [c1 v hv, h.ps v hv], fun v hv => by rw [c2 v hv, h.ec v hv], fun v hv => by rw [c3 v hv, h.co v hv], by rw [g3, h.ga], by rw [g4, h.cl], by rw [g5, h.th], by rw [g6, h.be], by rw [g7, h.si], fun v hv => by rw [c10 v (by omega), h.sp v hv], fun v hv => by rw [c11 v (by omega), h.sn v hv]⟩
theorem qD.cg {bk lo hi lu ps ec sg bk' lo' hi' lu' ps' ec' sg' : Nat → Int32} {th gs sn : Int32} {A : qN} (h : qD bk lo hi lu ps ec sg th gs sn A) (hw : qW A) (h1 : ∀ k, k < 36 → bk' k = bk k) (h2 : ∀ k, k < 8 → lo' k = lo k) (h3 : ∀ k, k < 8 → hi' k = hi k) (h4 : ∀ k, k < 8 → lu' k = lu k) (h5 : ∀ k, k < 10 → ps' k = ps k) (h6 : ∀ k, k < 10 → ec' k = ec k) (h7 : ∀ k, k < 16 → sg' k = sg k) : qD bk' lo' hi' lu' ps' ec' sg' th gs sn A := by
  have si := hw.si
  exact ⟨fun v hv => by rw [h2 v hv, h.lo v hv], fun v hv => by rw [h3 v hv, h.hi v hv], fun v hv => by rw [h4 v hv, h.lu v hv], fun v hv => by rw [h1 _ (by omega), h.br v hv], fun v hv => by rw [h1 _ (by omega), h.pl v hv], fun v hv ht => by rw [h1 _ (by omega), h.no v hv ht], fun v hv => by rw [h5 v hv, h.ps v hv], fun v hv => by rw [h6 v hv, h.ec v hv], fun v hv => by rw [h1 _ (by omega), h.co v hv], h.ga, by rw [h1 _ (by omega), h.cl], h.th, by rw [h1 _ (by omega), h.be], h.si, fun v hv => by rw [h7 _ (by omega), h.sp v hv], fun v hv => by rw [h7 _ (by omega), h.sn v hv]⟩
theorem im_L19 {M : qM} {o : Nat} (ho : o ≤ 110) : qOk (qlp (S := Int32 × qM) (E := (qM)) (fun s => kX8_image_L19 (nI o) s.1 s.2) qFu (0, M)) (fun N => (∀ c, c ≠ 15 → N c = M c) ∧ (∀ j, j < 36 → N 15 (o + j) = M 1 j) ∧ ∀ j, j < o ∨ o + 36 ≤ j → N 15 j = M 15 j) := by
  refine qlp_for (fun i s => s.1 = nI i ∧ (∀ c, c ≠ 15 → s.2 c = M c) ∧ (∀ j, j < i → s.2 15 (o + j) = M 1 j) ∧ ∀ j, j < o ∨ o + 36 ≤ j → s.2 15 j = M 15 j) 36 (by omega) ⟨rfl, fun _ _ => rfl, fun _ h => by omega, fun _ _ => rfl⟩ ?_ ?_
  · rintro i ⟨v, N⟩ hi ⟨e1, e2, e3, e4⟩
    replace e1 : v = nI i := e1
    replace e2 : ∀ c, c ≠ 15 → N c = M c := e2
    replace e3 : ∀ j, j < i → N 15 (o + j) = M 1 j := e3
    replace e4 : ∀ j, j < o ∨ o + 36 ≤ j → N 15 j = M 15 j := e4
    subst e1
    show qOk (kX8_image_L19 (nI o) (nI i) N) _
    unfold kX8_image_L19
    rw [if_neg (show ¬ (36 : Int32) ≤ nI i from nI_ge hi (by decide)), qrd_k hi (by omega), nI_add, qwr_k (show o + i < 220 by omega) (by omega), qvl_eq, qOk_some, nI_succ]
    refine ⟨rfl, fun c hc => by dsimp only; rw [qst_n hc]; exact e2 c hc, fun j hj => ?_, fun j hj => by dsimp only; rw [qst_at, if_neg (by omega)]; exact e4 j hj⟩
    dsimp only
    by_cases e : j = i
    · subst e
      exact by rw [qst_at, if_pos (by omega), e2 1 (by decide)]
    · exact by rw [qst_at, if_neg (by omega)]; exact (e3 j (by omega))
  · rintro ⟨v, N⟩ ⟨e1, e2, e3, e4⟩
    replace e1 : v = nI 36 := e1
    subst e1
    show qOk (kX8_image_L19 (nI o) (nI 36) N) _
    unfold kX8_image_L19
    rw [if_pos (show (36 : Int32) ≤ nI 36 from by decide), qOk_some]
    exact ⟨e2, e3, e4⟩
theorem im_L47 {M : qM} {o : Nat} (ho : o ≤ 110) : qOk (qlp (S := Int32 × qM) (E := (qM)) (fun s => kX8_image_L47 (nI o) s.1 s.2) qFu (0, M)) (fun N => (∀ c, c ≠ 15 → N c = M c) ∧ (∀ j, j < 8 → N 15 (o + 36 + j) = M 3 j ∧ N 15 (o + 44 + j) = M 4 j ∧ N 15 (o + 52 + j) = M 5 j) ∧ ∀ j, j < o + 36 ∨ o + 60 ≤ j → N 15 j = M 15 j) := by
  refine qlp_for (fun i s => s.1 = nI i ∧ (∀ c, c ≠ 15 → s.2 c = M c) ∧ (∀ j, j < i → s.2 15 (o + 36 + j) = M 3 j ∧ s.2 15 (o + 44 + j) = M 4 j ∧ s.2 15 (o + 52 + j) = M 5 j) ∧ ∀ j, j < o + 36 ∨ o + 60 ≤ j → s.2 15 j = M 15 j) 8 (by omega) ⟨rfl, fun _ _ => rfl, fun _ h => by omega, fun _ _ => rfl⟩ ?_ ?_
  · rintro i ⟨v, N⟩ hi ⟨e1, e2, e3, e4⟩
    replace e1 : v = nI i := e1
    replace e2 : ∀ c, c ≠ 15 → N c = M c := e2
    replace e3 : ∀ j, j < i → N 15 (o + 36 + j) = M 3 j ∧ N 15 (o + 44 + j) = M 4 j ∧ N 15 (o + 52 + j) = M 5 j := e3
    replace e4 : ∀ j, j < o + 36 ∨ o + 60 ≤ j → N 15 j = M 15 j := e4
    subst e1
    show qOk (kX8_image_L47 (nI o) (nI i) N) _
    unfold kX8_image_L47
    rw [if_neg (show ¬ (8 : Int32) ≤ nI i from nI_ge hi (by decide)), qrd_k hi (by omega), show nI o + (36 : Int32) = nI (o + 36) from nI_add o 36, nI_add, qwr_k (show o + 36 + i < 220 by omega) (by omega), qst_n (show (4 : Nat) ≠ 15 by decide), qrd_k hi (by omega), show nI o + (44 : Int32) = nI (o + 44) from nI_add o 44, nI_add, qwr_k (show o + 44 + i < 220 by omega) (by omega), qst_n (show (5 : Nat) ≠ 15 by decide), qst_n (show (5 : Nat) ≠ 15 by decide), qrd_k hi (by omega), show nI o + (52 : Int32) = nI (o + 52) from nI_add o 52, nI_add, qwr_k (show o + 52 + i < 220 by omega) (by omega), qvl_eq, qOk_some, nI_succ]
    refine ⟨rfl, fun c hc => by dsimp only; rw [qst_n hc, qst_n hc, qst_n hc]; exact e2 c hc, fun j hj => ?_, fun j hj => by dsimp only; rw [qst_at, if_neg (by omega), qst_at, if_neg (by omega), qst_at, if_neg (by omega)]; exact e4 j hj⟩
    dsimp only
    by_cases e : j = i
    · subst e
      exact ⟨by rw [qst_at, if_neg (by omega), qst_at, if_neg (by omega), qst_at, if_pos (by omega), e2 3 (by decide)], by rw [qst_at, if_neg (by omega), qst_at, if_pos (by omega), e2 4 (by decide)], by rw [qst_at, if_pos (by omega), e2 5 (by decide)]⟩
    · exact ⟨by rw [qst_at, if_neg (by omega), qst_at, if_neg (by omega), qst_at, if_neg (by omega)]; exact (e3 j (by omega)).1, by rw [qst_at, if_neg (by omega), qst_at, if_neg (by omega), qst_at, if_neg (by omega)]; exact (e3 j (by omega)).2.1, by rw [qst_at, if_neg (by omega), qst_at, if_neg (by omega), qst_at, if_neg (by omega)]; exact (e3 j (by omega)).2.2⟩
  · rintro ⟨v, N⟩ ⟨e1, e2, e3, e4⟩
    replace e1 : v = nI 8 := e1
    subst e1
    show qOk (kX8_image_L47 (nI o) (nI 8) N) _
    unfold kX8_image_L47
    rw [if_pos (show (8 : Int32) ≤ nI 8 from by decide), qOk_some]
    exact ⟨e2, e3, e4⟩
theorem im_L112 {M : qM} {o : Nat} (ho : o ≤ 110) : qOk (qlp (S := Int32 × qM) (E := (qM)) (fun s => kX8_image_L112 (nI o) s.1 s.2) qFu (0, M)) (fun N => (∀ c, c ≠ 15 → N c = M c) ∧ (∀ j, j < 10 → N 15 (o + 60 + j) = M 6 j ∧ N 15 (o + 70 + j) = M 7 j) ∧ ∀ j, j < o + 60 ∨ o + 80 ≤ j → N 15 j = M 15 j) := by
  refine qlp_for (fun i s => s.1 = nI i ∧ (∀ c, c ≠ 15 → s.2 c = M c) ∧ (∀ j, j < i → s.2 15 (o + 60 + j) = M 6 j ∧ s.2 15 (o + 70 + j) = M 7 j) ∧ ∀ j, j < o + 60 ∨ o + 80 ≤ j → s.2 15 j = M 15 j) 10 (by omega) ⟨rfl, fun _ _ => rfl, fun _ h => by omega, fun _ _ => rfl⟩ ?_ ?_
  · rintro i ⟨v, N⟩ hi ⟨e1, e2, e3, e4⟩
    replace e1 : v = nI i := e1
    replace e2 : ∀ c, c ≠ 15 → N c = M c := e2
    replace e3 : ∀ j, j < i → N 15 (o + 60 + j) = M 6 j ∧ N 15 (o + 70 + j) = M 7 j := e3
    replace e4 : ∀ j, j < o + 60 ∨ o + 80 ≤ j → N 15 j = M 15 j := e4
    subst e1
    show qOk (kX8_image_L112 (nI o) (nI i) N) _
    unfold kX8_image_L112
    rw [if_neg (show ¬ (10 : Int32) ≤ nI i from nI_ge hi (by decide)), qrd_k hi (by omega), show nI o + (60 : Int32) = nI (o + 60) from nI_add o 60, nI_add, qwr_k (show o + 60 + i < 220 by omega) (by omega), qst_n (show (7 : Nat) ≠ 15 by decide), qrd_k hi (by omega), show nI o + (70 : Int32) = nI (o + 70) from nI_add o 70, nI_add, qwr_k (show o + 70 + i < 220 by omega) (by omega), qvl_eq, qOk_some, nI_succ]
    refine ⟨rfl, fun c hc => by dsimp only; rw [qst_n hc, qst_n hc]; exact e2 c hc, fun j hj => ?_, fun j hj => by dsimp only; rw [qst_at, if_neg (by omega), qst_at, if_neg (by omega)]; exact e4 j hj⟩
    dsimp only
    by_cases e : j = i
    · subst e
      exact ⟨by rw [qst_at, if_neg (by omega), qst_at, if_pos (by omega), e2 6 (by decide)], by rw [qst_at, if_pos (by omega), e2 7 (by decide)]⟩
    · exact ⟨by rw [qst_at, if_neg (by omega), qst_at, if_neg (by omega)]; exact (e3 j (by omega)).1, by rw [qst_at, if_neg (by omega), qst_at, if_neg (by omega)]; exact (e3 j (by omega)).2⟩
  · rintro ⟨v, N⟩ ⟨e1, e2, e3, e4⟩
    replace e1 : v = nI 10 := e1
    subst e1
    show qOk (kX8_image_L112 (nI o) (nI 10) N) _
    unfold kX8_image_L112
    rw [if_pos (show (10 : Int32) ≤ nI 10 from by decide), qOk_some]
    exact ⟨e2, e3, e4⟩
theorem im_L160 {M : qM} {o : Nat} (ho : o ≤ 110) : qOk (qlp (S := Int32 × qM) (E := (qM)) (fun s => kX8_image_L160 (nI o) s.1 s.2) qFu (0, M)) (fun N => (∀ c, c ≠ 15 → N c = M c) ∧ (∀ j, j < 16 → N 15 (o + 80 + j) = M 8 j) ∧ ∀ j, j < o + 80 ∨ o + 96 ≤ j → N 15 j = M 15 j) := by
  refine qlp_for (fun i s => s.1 = nI i ∧ (∀ c, c ≠ 15 → s.2 c = M c) ∧ (∀ j, j < i → s.2 15 (o + 80 + j) = M 8 j) ∧ ∀ j, j < o + 80 ∨ o + 96 ≤ j → s.2 15 j = M 15 j) 16 (by omega) ⟨rfl, fun _ _ => rfl, fun _ h => by omega, fun _ _ => rfl⟩ ?_ ?_
  · rintro i ⟨v, N⟩ hi ⟨e1, e2, e3, e4⟩
    replace e1 : v = nI i := e1
    replace e2 : ∀ c, c ≠ 15 → N c = M c := e2
    replace e3 : ∀ j, j < i → N 15 (o + 80 + j) = M 8 j := e3
    replace e4 : ∀ j, j < o + 80 ∨ o + 96 ≤ j → N 15 j = M 15 j := e4
    subst e1
    show qOk (kX8_image_L160 (nI o) (nI i) N) _
    unfold kX8_image_L160
    rw [if_neg (show ¬ (16 : Int32) ≤ nI i from nI_ge hi (by decide)), qrd_k hi (by omega), show nI o + (80 : Int32) = nI (o + 80) from nI_add o 80, nI_add, qwr_k (show o + 80 + i < 220 by omega) (by omega), qvl_eq, qOk_some, nI_succ]
    refine ⟨rfl, fun c hc => by dsimp only; rw [qst_n hc]; exact e2 c hc, fun j hj => ?_, fun j hj => by dsimp only; rw [qst_at, if_neg (by omega)]; exact e4 j hj⟩
    dsimp only
    by_cases e : j = i
    · subst e
      exact by rw [qst_at, if_pos (by omega), e2 8 (by decide)]
    · exact by rw [qst_at, if_neg (by omega)]; exact (e3 j (by omega))
  · rintro ⟨v, N⟩ ⟨e1, e2, e3, e4⟩
    replace e1 : v = nI 16 := e1
    subst e1
    show qOk (kX8_image_L160 (nI o) (nI 16) N) _
    unfold kX8_image_L160
    rw [if_pos (show (16 : Int32) ≤ nI 16 from by decide), qOk_some]
    exact ⟨e2, e3, e4⟩
theorem re_L31 {M : qM} {o : Nat} (ho : o ≤ 110) : qOk (qlp (S := Int32 × qM) (E := (qM)) (fun s => kX8_restore_L31 (nI o) s.1 s.2) qFu (0, M)) (fun N => (∀ c, c ≠ 1 → N c = M c) ∧ (∀ j, j < 36 → N 1 j = M 15 (o + j))) := by
  refine qlp_for (fun i s => s.1 = nI i ∧ (∀ c, c ≠ 1 → s.2 c = M c) ∧ (∀ j, j < i → s.2 1 j = M 15 (o + j))) 36 (by omega) ⟨rfl, fun _ _ => rfl, fun _ h => by omega⟩ ?_ ?_
  · rintro i ⟨v, N⟩ hi ⟨e1, e2, e3⟩
    replace e1 : v = nI i := e1
    replace e2 : ∀ c, c ≠ 1 → N c = M c := e2
    replace e3 : ∀ j, j < i → N 1 j = M 15 (o + j) := e3
    subst e1
    show qOk (kX8_restore_L31 (nI o) (nI i) N) _
    unfold kX8_restore_L31
    rw [if_neg (show ¬ (36 : Int32) ≤ nI i from nI_ge hi (by decide)), nI_add, qrd_k (show o + i < 220 by omega) (by omega), qwr_k hi (by omega), qvl_eq, qOk_some, nI_succ]
    refine ⟨rfl, fun c n1 => by dsimp only; rw [qst_n n1]; exact e2 c n1, fun j hj => ?_⟩
    dsimp only
    by_cases e : j = i
    · subst e
      exact by rw [qst_at, if_pos rfl, e2 15 (by decide)]
    · exact by rw [qst_at, if_neg e]; exact (e3 j (by omega))
  · rintro ⟨v, N⟩ ⟨e1, e2, e3⟩
    replace e1 : v = nI 36 := e1
    subst e1
    show qOk (kX8_restore_L31 (nI o) (nI 36) N) _
    unfold kX8_restore_L31
    rw [if_pos (show (36 : Int32) ≤ nI 36 from by decide), qOk_some]
    exact ⟨e2, e3⟩
theorem re_L59 {M : qM} {o : Nat} (ho : o ≤ 110) : qOk (qlp (S := Int32 × qM) (E := (qM)) (fun s => kX8_restore_L59 (nI o) s.1 s.2) qFu (0, M)) (fun N => (∀ c, c ≠ 3 → c ≠ 4 → c ≠ 5 → N c = M c) ∧ (∀ j, j < 8 → N 3 j = M 15 (o + 36 + j) ∧ N 4 j = M 15 (o + 44 + j) ∧ N 5 j = M 15 (o + 52 + j))) := by
  refine qlp_for (fun i s => s.1 = nI i ∧ (∀ c, c ≠ 3 → c ≠ 4 → c ≠ 5 → s.2 c = M c) ∧ (∀ j, j < i → s.2 3 j = M 15 (o + 36 + j) ∧ s.2 4 j = M 15 (o + 44 + j) ∧ s.2 5 j = M 15 (o + 52 + j))) 8 (by omega) ⟨rfl, fun _ _ _ _ => rfl, fun _ h => by omega⟩ ?_ ?_
  · rintro i ⟨v, N⟩ hi ⟨e1, e2, e3⟩
    replace e1 : v = nI i := e1
    replace e2 : ∀ c, c ≠ 3 → c ≠ 4 → c ≠ 5 → N c = M c := e2
    replace e3 : ∀ j, j < i → N 3 j = M 15 (o + 36 + j) ∧ N 4 j = M 15 (o + 44 + j) ∧ N 5 j = M 15 (o + 52 + j) := e3
    subst e1
    show qOk (kX8_restore_L59 (nI o) (nI i) N) _
    unfold kX8_restore_L59
    rw [if_neg (show ¬ (8 : Int32) ≤ nI i from nI_ge hi (by decide)), show nI o + (36 : Int32) = nI (o + 36) from nI_add o 36, nI_add, qrd_k (show o + 36 + i < 220 by omega) (by omega), qwr_k hi (by omega), qst_n (show (15 : Nat) ≠ 3 by decide), show nI o + (44 : Int32) = nI (o + 44) from nI_add o 44, nI_add, qrd_k (show o + 44 + i < 220 by omega) (by omega), qwr_k hi (by omega), qst_n (show (15 : Nat) ≠ 4 by decide), qst_n (show (15 : Nat) ≠ 3 by decide), show nI o + (52 : Int32) = nI (o + 52) from nI_add o 52, nI_add, qrd_k (show o + 52 + i < 220 by omega) (by omega), qwr_k hi (by omega), qvl_eq, qOk_some, nI_succ]
    refine ⟨rfl, fun c n3 n4 n5 => by dsimp only; rw [qst_n n5, qst_n n4, qst_n n3]; exact e2 c n3 n4 n5, fun j hj => ?_⟩
    dsimp only
    by_cases e : j = i
    · subst e
      exact ⟨by rw [qst_n (show (3 : Nat) ≠ 5 by decide), qst_n (show (3 : Nat) ≠ 4 by decide), qst_at, if_pos rfl, e2 15 (by decide) (by decide) (by decide)], by rw [qst_n (show (4 : Nat) ≠ 5 by decide), qst_at, if_pos rfl, e2 15 (by decide) (by decide) (by decide)], by rw [qst_at, if_pos rfl, e2 15 (by decide) (by decide) (by decide)]⟩
    · exact ⟨by rw [qst_n (show (3 : Nat) ≠ 5 by decide), qst_n (show (3 : Nat) ≠ 4 by decide), qst_at, if_neg e]; exact (e3 j (by omega)).1, by rw [qst_n (show (4 : Nat) ≠ 5 by decide), qst_at, if_neg e, qst_n (show (4 : Nat) ≠ 3 by decide)]; exact (e3 j (by omega)).2.1, by rw [qst_at, if_neg e, qst_n (show (5 : Nat) ≠ 4 by decide), qst_n (show (5 : Nat) ≠ 3 by decide)]; exact (e3 j (by omega)).2.2⟩
  · rintro ⟨v, N⟩ ⟨e1, e2, e3⟩
    replace e1 : v = nI 8 := e1
    subst e1
    show qOk (kX8_restore_L59 (nI o) (nI 8) N) _
    unfold kX8_restore_L59
    rw [if_pos (show (8 : Int32) ≤ nI 8 from by decide), qOk_some]
    exact ⟨e2, e3⟩
theorem re_L124 {M : qM} {o : Nat} (ho : o ≤ 110) : qOk (qlp (S := Int32 × qM) (E := (qM)) (fun s => kX8_restore_L124 (nI o) s.1 s.2) qFu (0, M)) (fun N => (∀ c, c ≠ 6 → c ≠ 7 → N c = M c) ∧ (∀ j, j < 10 → N 6 j = M 15 (o + 60 + j) ∧ N 7 j = M 15 (o + 70 + j))) := by
  refine qlp_for (fun i s => s.1 = nI i ∧ (∀ c, c ≠ 6 → c ≠ 7 → s.2 c = M c) ∧ (∀ j, j < i → s.2 6 j = M 15 (o + 60 + j) ∧ s.2 7 j = M 15 (o + 70 + j))) 10 (by omega) ⟨rfl, fun _ _ _ => rfl, fun _ h => by omega⟩ ?_ ?_
  · rintro i ⟨v, N⟩ hi ⟨e1, e2, e3⟩
    replace e1 : v = nI i := e1
    replace e2 : ∀ c, c ≠ 6 → c ≠ 7 → N c = M c := e2
    replace e3 : ∀ j, j < i → N 6 j = M 15 (o + 60 + j) ∧ N 7 j = M 15 (o + 70 + j) := e3
    subst e1
    show qOk (kX8_restore_L124 (nI o) (nI i) N) _
    unfold kX8_restore_L124
    rw [if_neg (show ¬ (10 : Int32) ≤ nI i from nI_ge hi (by decide)), show nI o + (60 : Int32) = nI (o + 60) from nI_add o 60, nI_add, qrd_k (show o + 60 + i < 220 by omega) (by omega), qwr_k hi (by omega), qst_n (show (15 : Nat) ≠ 6 by decide), show nI o + (70 : Int32) = nI (o + 70) from nI_add o 70, nI_add, qrd_k (show o + 70 + i < 220 by omega) (by omega), qwr_k hi (by omega), qvl_eq, qOk_some, nI_succ]
    refine ⟨rfl, fun c n6 n7 => by dsimp only; rw [qst_n n7, qst_n n6]; exact e2 c n6 n7, fun j hj => ?_⟩
    dsimp only
    by_cases e : j = i
    · subst e
      exact ⟨by rw [qst_n (show (6 : Nat) ≠ 7 by decide), qst_at, if_pos rfl, e2 15 (by decide) (by decide)], by rw [qst_at, if_pos rfl, e2 15 (by decide) (by decide)]⟩
    · exact ⟨by rw [qst_n (show (6 : Nat) ≠ 7 by decide), qst_at, if_neg e]; exact (e3 j (by omega)).1, by rw [qst_at, if_neg e, qst_n (show (7 : Nat) ≠ 6 by decide)]; exact (e3 j (by omega)).2⟩
  · rintro ⟨v, N⟩ ⟨e1, e2, e3⟩
    replace e1 : v = nI 10 := e1
    subst e1
    show qOk (kX8_restore_L124 (nI o) (nI 10) N) _
    unfold kX8_restore_L124
    rw [if_pos (show (10 : Int32) ≤ nI 10 from by decide), qOk_some]
    exact ⟨e2, e3⟩
theorem re_L172 {M : qM} {o : Nat} (ho : o ≤ 110) : qOk (qlp (S := Int32 × qM) (E := (qM)) (fun s => kX8_restore_L172 (nI o) s.1 s.2) qFu (0, M)) (fun N => (∀ c, c ≠ 8 → N c = M c) ∧ (∀ j, j < 16 → N 8 j = M 15 (o + 80 + j))) := by
  refine qlp_for (fun i s => s.1 = nI i ∧ (∀ c, c ≠ 8 → s.2 c = M c) ∧ (∀ j, j < i → s.2 8 j = M 15 (o + 80 + j))) 16 (by omega) ⟨rfl, fun _ _ => rfl, fun _ h => by omega⟩ ?_ ?_
  · rintro i ⟨v, N⟩ hi ⟨e1, e2, e3⟩
    replace e1 : v = nI i := e1
    replace e2 : ∀ c, c ≠ 8 → N c = M c := e2
    replace e3 : ∀ j, j < i → N 8 j = M 15 (o + 80 + j) := e3
    subst e1
    show qOk (kX8_restore_L172 (nI o) (nI i) N) _
    unfold kX8_restore_L172
    rw [if_neg (show ¬ (16 : Int32) ≤ nI i from nI_ge hi (by decide)), show nI o + (80 : Int32) = nI (o + 80) from nI_add o 80, nI_add, qrd_k (show o + 80 + i < 220 by omega) (by omega), qwr_k hi (by omega), qvl_eq, qOk_some, nI_succ]
    refine ⟨rfl, fun c n8 => by dsimp only; rw [qst_n n8]; exact e2 c n8, fun j hj => ?_⟩
    dsimp only
    by_cases e : j = i
    · subst e
      exact by rw [qst_at, if_pos rfl, e2 15 (by decide)]
    · exact by rw [qst_at, if_neg e]; exact (e3 j (by omega))
  · rintro ⟨v, N⟩ ⟨e1, e2, e3⟩
    replace e1 : v = nI 16 := e1
    subst e1
    show qOk (kX8_restore_L172 (nI o) (nI 16) N) _
    unfold kX8_restore_L172
    rw [if_pos (show (16 : Int32) ≤ nI 16 from by decide), qOk_some]
    exact ⟨e2, e3⟩
theorem m110 {n : Nat} (hn : n < 2) : (110 : Int32) * nI n = nI (110 * n) := by
  rcases (show n = 0 ∨ n = 1 by omega) with rfl | rfl <;> decide
theorem in01 {n : Nat} (hn : n < 2) : kX8_in (nI n) 0 1 = some 1 := by
  rcases (show n = 0 ∨ n = 1 by omega) with rfl | rfl <;> decide
theorem X8_image_eq {M : qM} {A : qN} {n : Nat} (hn : n < 2) (h : qDm M A) (hw : qW A) : qOk2 (kX8_image M (nI n)) (fun r N => r = 1 ∧ (∀ c, c ≠ 15 → c ≠ 16 → N c = M c) ∧ (∀ j, j < 110 * n ∨ 110 * n + 110 ≤ j → N 15 j = M 15 j) ∧ (∀ j, N 16 j = if j = n then 1 else M 16 j) ∧ qDi N n A) := by
  unfold kX8_image qDi
  rw [in01 hn, qb1_some, if10, qvl_eq, m110 hn]
  have ho : 110 * n ≤ 110 := by omega
  generalize 110 * n = o at *
  rw [qOk2_b1]
  refine qOk.m (im_L19 ho) (fun N1 ⟨a1, a2, a3⟩ => ?_)
  rw [qOk2_b1]
  refine qOk.m (im_L47 ho) (fun N2 ⟨b1, b2, b3⟩ => ?_)
  rw [qOk2_b1]
  refine qOk.m (im_L112 ho) (fun N3 ⟨c1, c2, c3⟩ => ?_)
  rw [qOk2_b1]
  refine qOk.m (im_L160 ho) (fun N4 ⟨d1, d2, d3⟩ => ?_)
  rw [show nI o + (100 : Int32) = nI (o + 100) from nI_add o 100, qwr_k (show o + 100 < 220 by omega) (by omega), show nI o + (101 : Int32) = nI (o + 101) from nI_add o 101, qwr_k (show o + 101 < 220 by omega) (by omega), show nI o + (102 : Int32) = nI (o + 102) from nI_add o 102, qwr_k (show o + 102 < 220 by omega) (by omega), qwr_k hn (by omega), qOk2_some, show vp_nar .boolean 1 = (1 : Int32) from by decide]
  rw [qst_n (show (0 : Nat) ≠ 15 by decide), qst_n (show (0 : Nat) ≠ 15 by decide), qst_n (show (0 : Nat) ≠ 15 by decide)]
  have z : ∀ c, c ≠ 15 → N4 c = M c := fun c hc => by rw [d1 c hc, c1 c hc, b1 c hc, a1 c hc]
  rw [z 0 (by decide)]
  obtain ⟨F, hF⟩ : ∃ F, F = qst (qst (qst (qst N4 15 (o + 100) (M 0 2)) 15 (o + 101) (M 0 8)) 15 (o + 102) (M 0 9)) 16 n 1 := ⟨_, rfl⟩
  rw [← hF]
  have y : ∀ j, j < o + 100 ∨ o + 103 ≤ j → F 15 j = N4 15 j := fun j hj => by rw [hF, qst_n (by decide), qst_at, if_neg (by omega), qst_at, if_neg (by omega), qst_at, if_neg (by omega)]
  have y0 : F 15 (o + 100) = M 0 2 := by rw [hF, qst_n (by decide), qst_at, if_neg (by omega), qst_at, if_neg (by omega), qst_at, if_pos rfl]
  have y1 : F 15 (o + 101) = M 0 8 := by rw [hF, qst_n (by decide), qst_at, if_neg (by omega), qst_at, if_pos rfl]
  have y2 : F 15 (o + 102) = M 0 9 := by rw [hF, qst_n (by decide), qst_at, if_pos rfl]
  refine ⟨rfl, fun c n15 n16 => by rw [hF, qst_n n16, qst_n n15, qst_n n15, qst_n n15, z c n15], fun j hj => by rw [y j (by omega), d3 j (by omega), c3 j (by omega), b3 j (by omega), a3 j (by omega)], fun j => by rw [hF, qst_at, qst_n (by decide), qst_n (by decide), qst_n (by decide), z 16 (by decide)], ?_⟩
  rw [y0, y1, y2]
  refine qD.cg h hw (fun k hk => ?_) (fun k hk => ?_) (fun k hk => ?_) (fun k hk => ?_) (fun k hk => ?_) (fun k hk => ?_) (fun k hk => ?_)
  · show F 15 (o + k) = M 1 k
    rw [y _ (by omega), d3 _ (by omega), c3 _ (by omega), b3 _ (by omega), a2 k hk]
  · show F 15 (o + 36 + k) = M 3 k
    rw [y _ (by omega), d3 _ (by omega), c3 _ (by omega), (b2 k hk).1, a1 3 (by decide)]
  · show F 15 (o + 44 + k) = M 4 k
    rw [y _ (by omega), d3 _ (by omega), c3 _ (by omega), (b2 k hk).2.1, a1 4 (by decide)]
  · show F 15 (o + 52 + k) = M 5 k
    rw [y _ (by omega), d3 _ (by omega), c3 _ (by omega), (b2 k hk).2.2, a1 5 (by decide)]
  · show F 15 (o + 60 + k) = M 6 k
    rw [y _ (by omega), d3 _ (by omega), (c2 k hk).1, b1 6 (by decide), a1 6 (by decide)]
  · show F 15 (o + 70 + k) = M 7 k
    rw [y _ (by omega), d3 _ (by omega), (c2 k hk).2, b1 7 (by decide), a1 7 (by decide)]
  · show F 15 (o + 80 + k) = M 8 k
    rw [y _ (by omega), d2 k hk, c1 8 (by decide), b1 8 (by decide), a1 8 (by decide)]
theorem X8_restore_eq {M : qM} {A : qN} {n : Nat} (hn : n < 2) (h1 : M 16 n = 1) (h : qDi M n A) (hw : qW A) : qOk2 (kX8_restore M (nI n)) (fun r N => r = 1 ∧ (∀ c, 9 ≤ c → N c = M c) ∧ N 0 11 = M 0 11 ∧ qDm N A) := by
  unfold kX8_restore
  unfold qDi at h
  rw [in01 hn, qb1_some, if10, qrd_k hn (by omega), h1, if10, qvl_eq, m110 hn]
  have ho : 110 * n ≤ 110 := by omega
  generalize 110 * n = o at *
  rw [qOk2_b1]
  refine qOk.m (re_L31 ho) (fun N1 ⟨a1, a2⟩ => ?_)
  rw [qOk2_b1]
  refine qOk.m (re_L59 ho) (fun N2 ⟨b1, b2⟩ => ?_)
  rw [qOk2_b1]
  refine qOk.m (re_L124 ho) (fun N3 ⟨c1, c2⟩ => ?_)
  rw [qOk2_b1]
  refine qOk.m (re_L172 ho) (fun N4 ⟨d1, d2⟩ => ?_)
  have e1 : N1 15 = M 15 := a1 15 (by decide)
  have e2 : N2 15 = M 15 := by rw [b1 15 (by decide) (by decide) (by decide), e1]
  have e3 : N3 15 = M 15 := by rw [c1 15 (by decide) (by decide), e2]
  have e4 : N4 15 = M 15 := by rw [d1 15 (by decide), e3]
  rw [e4, show nI o + (100 : Int32) = nI (o + 100) from nI_add o 100, qrd_k (show o + 100 < 220 by omega) (by omega), qvl_eq, qst_n (show (15 : Nat) ≠ 0 by decide), e4, show nI o + (101 : Int32) = nI (o + 101) from nI_add o 101, qrd_k (show o + 101 < 220 by omega) (by omega), qvl_eq, qst_n (show (15 : Nat) ≠ 0 by decide), qst_n (show (15 : Nat) ≠ 0 by decide), e4, show nI o + (102 : Int32) = nI (o + 102) from nI_add o 102, qrd_k (show o + 102 < 220 by omega) (by omega), qvl_eq, qOk2_some]
  obtain ⟨F, hF⟩ : ∃ F, F = qst (qst (qst N4 0 2 (M 15 (o + 100))) 0 8 (M 15 (o + 101))) 0 9 (M 15 (o + 102)) := ⟨_, rfl⟩
  rw [← hF]
  have y : ∀ c, c ≠ 0 → F c = N4 c := fun c hc => by rw [hF, qst_n hc, qst_n hc, qst_n hc]
  have y0 : F 0 2 = M 15 (o + 100) := by rw [hF, qst_at, if_neg (by decide), qst_at, if_neg (by decide), qst_at, if_pos rfl]
  have y1 : F 0 8 = M 15 (o + 101) := by rw [hF, qst_at, if_neg (by decide), qst_at, if_pos rfl]
  have y2 : F 0 9 = M 15 (o + 102) := by rw [hF, qst_at, if_pos rfl]
  refine ⟨rfl, fun c hc => ?_, ?_, ?_⟩
  · rw [y c (by omega), d1 c (by omega), c1 c (by omega) (by omega), b1 c (by omega) (by omega) (by omega), a1 c (by omega)]
  · rw [hF, qst_at, if_neg (by decide), qst_at, if_neg (by decide), qst_at, if_neg (by decide), d1 0 (by decide), c1 0 (by decide) (by decide), b1 0 (by decide) (by decide) (by decide), a1 0 (by decide)]
  · unfold qDm
    rw [y0, y1, y2]
    refine qD.cg h hw (fun k hk => ?_) (fun k hk => ?_) (fun k hk => ?_) (fun k hk => ?_) (fun k hk => ?_) (fun k hk => ?_) (fun k hk => ?_)
    · rw [y 1 (by decide), d1 1 (by decide), c1 1 (by decide) (by decide), b1 1 (by decide) (by decide) (by decide), a2 k hk]
    · rw [y 3 (by decide), d1 3 (by decide), c1 3 (by decide) (by decide), (b2 k hk).1, e1]
    · rw [y 4 (by decide), d1 4 (by decide), c1 4 (by decide) (by decide), (b2 k hk).2.1, e1]
    · rw [y 5 (by decide), d1 5 (by decide), c1 5 (by decide) (by decide), (b2 k hk).2.2, e1]
    · rw [y 6 (by decide), d1 6 (by decide), (c2 k hk).1, e2]
    · rw [y 7 (by decide), d1 7 (by decide), (c2 k hk).2, e2]
    · rw [y 8 (by decide), d2 k hk, e3]
theorem in_not {x : Int32} (h : ¬ (0 ≤ x ∧ x ≤ 1)) : kX8_in x 0 1 = some 0 := by
  rw [X8_in_eq, if_neg h]
theorem im01 (x : Int32) : (x < 0 ∧ ¬ (0 ≤ x ∧ x ≤ 1)) ∨ (¬ x < 0 ∧ ¬ x < 2 ∧ ¬ (0 ≤ x ∧ x ≤ 1)) ∨ ∃ n, n < 2 ∧ x = nI n := by
  by_cases c0 : x < 0
  · exact Or.inl ⟨c0, fun z => Int32.not_lt.mpr z.1 c0⟩
  · obtain ⟨k, hk, rfl⟩ := nI_of c0
    by_cases k2 : k < 2
    · exact Or.inr (Or.inr ⟨k, k2, rfl⟩)
    · exact Or.inr (Or.inl ⟨c0, nI_nlt (b := 2) (by omega) hk, fun z => Int32.not_lt.mpr z.2 (show (1 : Int32) < nI k from nI_lt (a := 1) (by omega) hk)⟩)
theorem qIm_eq {n : Nat} (hn : n < 2) : qIm (nI n).toNatClampNeg = 14 + 12 * n := by
  rcases (show n = 0 ∨ n = 1 by omega) with rfl | rfl <;> decide
theorem qIg.kp {M1 M2 N1 N2 : qM} {n : Nat} (h : qIg M1 M2 n) (hn : n < 2) (h1 : ∀ k, 14 + 12 * n ≤ k → k ≤ 14 + 12 * n + 11 → N1 k = M1 k) (h2 : N1 38 n = M1 38 n) (h3 : N2 16 n = M2 16 n) (h4 : ∀ j, 110 * n ≤ j → j < 110 * n + 110 → N2 15 j = M2 15 j) : qIg N1 N2 n := by
  rcases h with ⟨a, b⟩ | ⟨a, b, A, c, d, w⟩
  · exact Or.inl ⟨by rw [h2, a], by rw [h3, b]⟩
  · refine Or.inr ⟨by rw [h2, a], by rw [h3, b], A, c.same h1, ?_, w⟩
    unfold qDi at *
    rw [h4 (110 * n + 100) (by omega) (by omega), h4 (110 * n + 101) (by omega) (by omega), h4 (110 * n + 102) (by omega) (by omega)]
    exact qD.cg d w (fun k hk => h4 _ (by omega) (by omega)) (fun k hk => h4 _ (by omega) (by omega)) (fun k hk => h4 _ (by omega) (by omega)) (fun k hk => h4 _ (by omega) (by omega)) (fun k hk => h4 _ (by omega) (by omega)) (fun k hk => h4 _ (by omega) (by omega)) (fun k hk => h4 _ (by omega) (by omega))
theorem t_image : qT_image qR := by
  intro M1 M2 hR x1
  have hR0 := hR
  obtain ⟨⟨A, hc, hd, hw⟩, ⟨S, p, s1, s2, s3, s4⟩, i0, i1⟩ := hR
  unfold kX7_image
  rcases im01 x1 with ⟨c0, c1⟩ | ⟨c0, c2, c1⟩ | ⟨n, hn, rfl⟩
  · unfold kX8_image
    rw [if_pos c0, in_not c1, qb1_some, if00, qOk2_some, qOk2_some]
    exact ⟨rfl, hR0⟩
  · unfold kX8_image
    rw [if_neg c0, if_neg c2, in_not c1, qb1_some, if00, qOk2_some, qOk2_some]
    exact ⟨rfl, hR0⟩
  · rw [if_neg (show ¬ nI n < (0 : Int32) from nI_nlt (b := 0) (by omega) (by omega)), if_pos (show nI n < (2 : Int32) from nI_lt hn (by decide)), qck_k hn (by omega), qIm_eq hn, qOk2_b1]
    refine qOk.m (X1_become_eq (by omega) hc hw) (fun N1 ⟨f1, f2⟩ => ?_)
    rw [qwr_k hn (by omega), qOk2_some]
    refine qOk2.m (X8_image_eq hn hd hw) (fun r N2 ⟨er, g1, g2, g3, g4⟩ => ?_)
    refine ⟨er, ⟨A, ?_, ?_, hw⟩, ⟨S, p, s1, ?_, ?_, fun i hi => ?_⟩, ?_⟩
    · exact hc.same (fun k k1 k2 => by rw [qst_n (by omega), f1 k (by omega)])
    · unfold qDm
      rw [g1 1 (by decide) (by decide), g1 3 (by decide) (by decide), g1 4 (by decide) (by decide), g1 5 (by decide) (by decide), g1 6 (by decide) (by decide), g1 7 (by decide) (by decide), g1 8 (by decide) (by decide), g1 0 (by decide) (by decide)]
      exact hd
    · rw [qst_n (by omega), f1 39 (by omega), s2]
    · rw [g1 0 (by decide) (by decide), s3]
    · rw [qst_n (by omega), f1 40 (by omega), g1 9 (by decide) (by decide)]
      exact s4 i hi
    · have new : qIg (qst N1 38 n (vp_nar .boolean 1)) N2 n := by
        refine Or.inr ⟨by rw [qst_at, if_pos rfl]; decide, by rw [g3, if_pos rfl], A, f2.same (fun k k1 k2 => by rw [qst_n (by omega)]), g4, hw⟩
      have old : ∀ m, m < 2 → m ≠ n → qIg M1 M2 m → qIg (qst N1 38 n (vp_nar .boolean 1)) N2 m := fun m hm e h => by
        refine h.kp hm (fun k k1 k2 => by rw [qst_n (by omega), f1 k (by omega)]) (by rw [qst_at, if_neg e, f1 38 (by omega)]) (by rw [g3, if_neg e]) (fun j j1 j2 => g2 j (by omega))
      rcases (show n = 0 ∨ n = 1 by omega) with rfl | rfl
      · exact ⟨new, old 1 (by omega) (by omega) i1⟩
      · exact ⟨old 0 (by omega) (by omega) i0, new⟩
theorem t_restore : qT_restore qR := by
  intro M1 M2 hR x1
  have hR0 := hR
  obtain ⟨⟨A, hc, hd, hw⟩, ⟨S, p, s1, s2, s3, s4⟩, i0, i1⟩ := hR
  unfold kX7_restore
  rcases im01 x1 with ⟨c0, c1⟩ | ⟨c0, c2, c1⟩ | ⟨n, hn, rfl⟩
  · unfold kX8_restore
    rw [if_pos c0, in_not c1, qb1_some, if00, qOk2_some, qOk2_some]
    exact ⟨rfl, hR0⟩
  · unfold kX8_restore
    rw [if_neg c0, if_neg c2, in_not c1, qb1_some, if00, qOk2_some, qOk2_some]
    exact ⟨rfl, hR0⟩
  · rw [if_neg (show ¬ nI n < (0 : Int32) from nI_nlt (b := 0) (by omega) (by omega)), if_pos (show nI n < (2 : Int32) from nI_lt hn (by decide)), qrd_k hn (by omega)]
    have i : qIg M1 M2 n := by
      rcases (show n = 0 ∨ n = 1 by omega) with rfl | rfl
      · exact i0
      · exact i1
    rcases i with ⟨a, b⟩ | ⟨a, b, B, c, d, w⟩
    · unfold kX8_restore
      rw [a, if00, in01 hn, qb1_some, if10, qrd_k hn (by omega), b, if00, qOk2_some, qOk2_some]
      exact ⟨rfl, hR0⟩
    · rw [a, if10, qck_k hn (by omega), qIm_eq hn, qOk2_b1]
      refine qOk.m (X1_become_eq (by omega) c w) (fun N1 ⟨f1, f2⟩ => ?_)
      rw [qOk2_some]
      refine qOk2.m (X8_restore_eq hn b d w) (fun r N2 ⟨er, g1, g2, g3⟩ => ?_)
      refine ⟨er, ⟨B, f2, g3, w⟩, ⟨S, p, s1, ?_, ?_, fun i hi => ?_⟩, ?_, ?_⟩
      · rw [f1 39 (by omega), s2]
      · rw [g2, s3]
      · rw [f1 40 (by omega), g1 9 (by omega)]
        exact s4 i hi
      · exact i0.kp (by omega) (fun k k1 k2 => f1 k (by omega)) (by rw [f1 38 (by omega)]) (by rw [g1 16 (by omega)]) (fun j _ _ => by rw [g1 15 (by omega)])
      · exact i1.kp (by omega) (fun k k1 k2 => f1 k (by omega)) (by rw [f1 38 (by omega)]) (by rw [g1 16 (by omega)]) (fun j _ _ => by rw [g1 15 (by omega)])
