/-! START, once more: of the images' array only the two places count -/
theorem qHp_c13 {G : qG} {ad : Nat → Nat} {M : qM} {H : Heap} (h : qHp 75 c1 G ad M H) (hf : ∀ k, k < 75 → k ≠ 13 → c1 G ad (M k) k = e1 G ad (M k) k) (hg : ¬ M 13 0 = 0 ∧ ¬ M 13 1 = 0) : qHp W1N e1 G ad M H := by
  intro k q hq
  obtain ⟨h1, rfl⟩ := qWl_inv hq
  by_cases e : k = 13
  · subst e
    have h2 := h 13 _ (qWl_get (by omega))
    have e1 : vp_cell G.2.2.2 (2, .inr (.inr (.inr (.inr (fun i => if M 13 i = 0 then none else some (ad (qIm i))))))) = vp_cell G.2.2.2 (2, .inr (.inr (.inr (.inr (fun i => some (ad (qIm i))))))) := by
      have e0 : ∀ j : Fin 2, ¬ M 13 j.val = 0 := fun j => by
        rcases j with ⟨j, hj⟩
        rcases (show j = 0 ∨ j = 1 by omega) with rfl | rfl
        · exact hg.1
        · exact hg.2
      have e2 : (fun j : Fin 2 => va_rf (if M 13 j.val = 0 then none else some (ad (qIm j.val)))) = fun j : Fin 2 => va_rf (some (ad (qIm j.val))) := funext (fun j => by rw [if_neg (e0 j)])
      show arrV G.2.2.2 2 (fun j => va_rf (if M 13 j = 0 then none else some (ad (qIm j)))) = arrV G.2.2.2 2 (fun j => va_rf (some (ad (qIm j))))
      unfold arrV
      rw [e2]
    show H[ad 13]? = some _
    rw [← e1]
    exact h2
  · rw [← hf k h1 e]
    exact h k _ (qWl_get h1)
def qStart2 (R : qM → qM → Prop) : Prop := qOk (kX7_init qM0) (fun u1 => (∀ (G : qG) (ad : Nat → Nat) (k : Nat), k < 75 → k ≠ 13 → c1 G ad (u1 k) k = e1 G ad (u1 k) k) ∧ (¬ u1 13 0 = 0 ∧ ¬ u1 13 1 = 0) ∧ qOk (kX8_init qM0) (fun u2 => (∀ (G : qG) (ad : Nat → Nat) (k : Nat), k < 17 → c2 G ad (u2 k) k = e2 G ad (u2 k) k) ∧ R u1 u2))
set_option maxHeartbeats 4000000 in
set_option maxRecDepth 100000 in
theorem whole_open2 {p : Program} {e : Env} {s : State} {m : MethodId} {below : List Frame} {meth : Method} {c : Code} (l : Launch) {b L : Nat} {xs : Nat → Int32} (hL : L ≤ 384) (C0 : lw_At p s m meth c b L xs) {R : qM → qM → Prop} (T_passage : qT_passage R) (T_gallery : qT_gallery R) (T_voice : qT_voice R) (T_breath : qT_breath R) (T_leave : qT_leave R) (T_say : qT_say R) (T_wipe : qT_wipe R) (T_fault : qT_fault R) (T_judge : qT_judge R) (T_done : qT_done R) (T_behind : qT_behind R) (T_seam : qT_seam R) (T_then : qT_then R) (T_light : qT_light R) (T_shakes : qT_shakes R) (T_way : qT_way R) (T_fewest : qT_fewest R) (T_keep : qT_keep R) (T_cut : qT_cut R) (T_hold : qT_hold R) (T_round : qT_round R) (T_heard : qT_heard R) (T_forget : qT_forget R) (T_losts : qT_losts R) (T_listen : qT_listen R) (T_cold : qT_cold R) (T_year : qT_year R) (T_image : qT_image R) (T_restore : qT_restore R) (T_told : qT_told R) (S0 : qStart2 R) : W p l e room_1 s m #[Value.ref b] below meth c s.heap [] 0 0 (lw_Z below #[Value.ref b] s) (entryFrame m ([Value.ref b] : List Value).toArray 4) := by
  obtain ⟨hx, hb, hr, hml, hown, hts, hX, hbl, hlocks, hgv⟩ := id C0
  have hown : s.vm.findClass RL = some m.cls := hown
  have htl : ∀ w ∈ wsL_law, w.before #[Value.ref b] s = true := fun w hw => hts w (wsL_law_in w hw)
  have hbA : ¬ (fun q : Nat => s.heap.size ≤ q) b := Nat.not_le.mpr hbl
  obtain ⟨k0, iS0, hKn0⟩ := u_known (C := RX0) (T := TX0) (N := 3) (n := 3) hts inX0 (hts _ lwm_i0)
  obtain ⟨k1, iS1, hKn1⟩ := u_known (C := RX1) (T := TX1) (N := 16) (n := 16) hts inX1 (hts _ lwm_i1)
  obtain ⟨k2, iS2, hKn2⟩ := u_known (C := RX2) (T := TX2) (N := 7) (n := 7) hts inX2 (hts _ lwm_i2)
  obtain ⟨k3, iS3, hKn3⟩ := u_known (C := RX3) (T := TX3) (N := 5) (n := 5) hts inX3 (hts _ lwm_i3)
  obtain ⟨k4, iS4, hKn4⟩ := u_known (C := RX4) (T := TX4) (N := 6) (n := 6) hts inX4 (hts _ lwm_i4)
  obtain ⟨k5, iS5, hKn5⟩ := u_known (C := RX5) (T := TX5) (N := 5) (n := 5) hts inX5 (hts _ lwm_i5)
  obtain ⟨k6, iS6, hKn6⟩ := u_known (C := RX6) (T := TX6) (N := 1) (n := 1) hts inX6 (hts _ lwm_i6)
  obtain ⟨k7, iS7, hKn7⟩ := u_known (C := RX7) (T := TX7) (N := 9) (n := 9) hts inX7 (hts _ lwm_i7)
  obtain ⟨k8, iS8, hKn8⟩ := u_known (C := RX8) (T := TX8) (N := 24) (n := 24) hts inX8 (hts _ lwm_i8)
  obtain ⟨cI, kI, cpI, fI1, fI2, fI3⟩ := Cond.arrayClass_spec (hts _ ac_int_in)
  obtain ⟨cZ, kZ, cpZ, fZ1, fZ2, fZ3⟩ := Cond.arrayClass_spec (hts _ ac_bool_in)
  have hAO : va_AO RX1 s := va_AO.of (hts _ ao_in)
  obtain ⟨cpO, cO, kO, fO1, fO2, fO3, fO4, fO5⟩ := Cond.arrayOver_spec (hts _ ao_in)
  obtain ⟨dC, dI, hKc⟩ : ∃ (dC : Nat → ClassId) (dI : Nat → Nat → Nat), ∀ (k : Nat) (q : vw_C), vwCl[k]? = some q → u_Kn s q.1 q.2.1 q.2.2 (dC k) (dI k) := by
    refine ⟨fun k => if k = 0 then k0 else if k = 1 then k1 else if k = 2 then k2 else if k = 3 then k3 else if k = 4 then k4 else if k = 5 then k5 else if k = 6 then k6 else if k = 7 then k7 else k8, fun k => if k = 0 then iS0 else if k = 1 then iS1 else if k = 2 then iS2 else if k = 3 then iS3 else if k = 4 then iS4 else if k = 5 then iS5 else if k = 6 then iS6 else if k = 7 then iS7 else iS8, ?_⟩
    intro k q hq
    match k, hq with
    | 0, hq => cases hq; exact hKn0
    | 1, hq => cases hq; exact hKn1
    | 2, hq => cases hq; exact hKn2
    | 3, hq => cases hq; exact hKn3
    | 4, hq => cases hq; exact hKn4
    | 5, hq => cases hq; exact hKn5
    | 6, hq => cases hq; exact hKn6
    | 7, hq => cases hq; exact hKn7
    | 8, hq => cases hq; exact hKn8
    | k + 9, hq => simp [vwCl] at hq
  obtain ⟨G, hG⟩ : ∃ G : qG, G = ((dC, dI), cI, cZ, cO) := ⟨_, rfl⟩
  have hK : qK G s := by
    subst hG
    refine ⟨⟨hKc, ?_⟩, fun w hw => va_Nw.of rfl (hts _ (qNest_in w hw))⟩
    intro k q hq
    match k, hq with
    | 0, hq => cases hq; exact ⟨fun n z => ⟨fun k h => (by cases h), kI, fI2, cpI, fI3⟩, fI1⟩
    | 1, hq => cases hq; exact ⟨fun n z => ⟨fun k h => (by cases h), kZ, fZ2, cpZ, fZ3⟩, fZ1⟩
    | 2, hq => cases hq; exact ⟨fun n z => ⟨fun k h => (by cases h), kO, fO3, cpO, fO4⟩, kO, cpO, fO3, fO4, fO1, fO5⟩
    | k + 3, hq => simp [qTy] at hq
  clear hG
  have hC : qHC 0 c1 G s.heap.size (fun _ _ => 0) s.heap s.heap [] := ⟨fun k q h => by simp [qWl] at h, va_S.rf⟩
  have hl := lv_entry ([.ref b]) (n := 4) (Nat.le_of_ble_eq_true rfl)
  rw [lg_entry_eq]
  generalize (lg_sl ([.ref b]) ++ List.replicate (4 - (lg_sl ([.ref b])).length) Slot.unset).toArray = ls at hl ⊢
  have hl : lv_has ls 4 [(0, .ref b)] := hl
  have h : qOk (qvl (qcp (fun _ _ => 0) 0 (fun _ => 0)) (fun M1 => qb1 (kX7_init M1) (fun u => some u))) _ := qOk_b1r S0
  refine yc_new (n := 0) (ci := 7) (fs := [.null, .null, .null, .null, .null, .null, .null, .null, .null]) hx hb htl inlX7 tyX7 tyX7_ok hown (hts _ lwm_cl7) (hts _ lwm_i7) (hts _ lwm_in7) hK hC (Nat.le_refl _) (by omega) rfl rfl (by decide +kernel) (Nat.le_of_ble_eq_true rfl) (Nat.le_of_ble_eq_true rfl) h dL_law_0 (fun M1 H hC h => ?_)
  refine lv_dup hx hb dL_law_3 rfl ?_
  refine qW_size (fun hsz => ?_)
  have hsz : H.size = s.heap.size + 1 := qC_size (n := 1) hC (by omega) (by omega) hsz
  refine yc_cv (n := 1) (n' := 75) (mc := 74) (ms := 1416) hC (fun _ h => h) (fun _ h => h) (va_runI (As := []) (rest := [.ref (s.heap.size + 0)]) ⟨hx, hb, hml, hown, htl⟩ (c_X7_init l G s.heap.size M1 (qOk.b1 h)) (cwI 0 htl gL_law_X7_init rfl rfl rfl (hts _ lwm_in7) (hts _ lwm_ml7) (hts _ lwm_im7) rfl (by decide +kernel) ⟨Nat.le_of_ble_eq_true rfl, Nat.le_of_ble_eq_true rfl⟩) ⟨qPrC.blind, qPrC.at hK hAO hC hsz⟩ rfl rfl hl.1 rfl (lv_room (Nat.le_of_ble_eq_true rfl)) dL_law_4 ⟨Nat.le_of_ble_eq_true rfl, Nat.le_of_ble_eq_true rfl⟩) (fun u1 H locs hC h => ?_)
  obtain ⟨hf1, hg1, h⟩ := qOk.s h
  have hP1 : qHp W1N e1 G (fun k => s.heap.size + k) u1 H := qHp_c13 hC.1 (hf1 G _) hg1
  have hS := hC.2
  refine lv_astore_n (lv' := [(1, .ref (s.heap.size + 0)), (0, .ref b)]) hx hb dL_law_7 rfl hl (by decide) rfl (fun ls hl => ?_)
  refine va_new (ci := 8) (fs := [.null, .null, .int 0, .null, .null, .null, .null, .null, .int 0, .int 0, .null, .int 0, .null, .int 0, .int 0, .null, .int 0, .int 0, .null, .null, .null, .null, .null, .null]) hx hb htl inlX8 tyX8 tyX8_ok hown (hts _ lwm_cl8) (hts _ lwm_i8) (hts _ lwm_in8) hK.1 hP1 qWl_Dc hS (fun _ h => h) rfl (by decide +kernel) (Nat.le_of_ble_eq_true rfl) (Nat.le_of_ble_eq_true rfl) dL_law_8 (fun q H2 g1 g2 g3 => qW_size (fun hz => ?_))
  have hq := qC_new (n := 75) g1 g2 hz (by omega)
  subst hq
  have hl75 : (qWl 75 e1 G (fun k => s.heap.size + k) u1).length = 75 := by simp [qWl]
  have hP1 : qHp W1N e1 G (fun k => s.heap.size + k) u1 H2 := fun k q hq => by
    have hk : k < 75 := (qWl_inv hq).1
    exact g1 k q (by rw [List.getElem?_append_left (by rw [hl75]; exact hk)]; exact hq)
  have hP2 : qHp 1 c2 G (fun k => s.heap.size + 75 + k) qM0 H2 := fun k q hq => by
    obtain ⟨hk, rfl⟩ := qWl_inv hq
    have hk : k = 0 := by omega
    subst hk
    exact g1 75 _ (by rw [List.getElem?_append_right (by rw [hl75]; exact Nat.le_refl _), hl75]; rfl)
  have hz2 : H2.size = s.heap.size + 75 + 1 := by
    have h1 := (hP2 0 _ (qWl_get (by omega))).lt
    have h1 : s.heap.size + 75 + 0 < H2.size := h1
    omega
  refine lv_dup hx hb dL_law_11 rfl ?_
  refine va_callv (va_runI (As := []) (rest := [.ref (s.heap.size + 75)]) ⟨hx, hb, hml, hown, htl⟩ (c_X8_init l G (s.heap.size + 75) qM0 h) (cwI 0 htl gL_law_X8_init rfl rfl rfl (hts _ lwm_in8) (hts _ lwm_ml8) (hts _ lwm_im8) rfl (by decide +kernel) ⟨Nat.le_of_ble_eq_true rfl, Nat.le_of_ble_eq_true rfl⟩) ⟨qPrC.blind, fun U hU hW => ⟨rfl, by rw [hU]; exact hz2, qK.moved hW hK, va_AO.moved hW.alike hAO, by rw [hU]; exact hP2⟩⟩ rfl rfl hl.1 rfl (lv_room (Nat.le_of_ble_eq_true rfl)) dL_law_12 ⟨Nat.le_of_ble_eq_true rfl, Nat.le_of_ble_eq_true rfl⟩) g3 (fun q _ h => Nat.le_trans (Nat.le_add_right _ 75) h) (fun q h => Nat.le_trans (Nat.le_add_right _ 75) h) (fun u2 t H3 locs3 ht _ hw hB _ hk hS => ?_)
  obtain ⟨hf2, hR⟩ := hw
  have hB : qHp 17 c2 G (fun k => s.heap.size + 75 + k) u2 H3 := by rw [← ht]; exact hB
  have hw : qLw G s.heap.size u1 u2 H3 := by
    refine ⟨va_P.kept hP1 (fun k q hq => ?_), qHp_c2 hB (hf2 G _)⟩
    have hlt := (hP1 k q hq).lt
    obtain ⟨hk1, rfl⟩ := qWl_inv hq
    have hk1 : k < 75 := hk1
    refine hk _ hlt (fun hA => ?_)
    have hA : s.heap.size + 75 ≤ s.heap.size + k := hA
    omega
  refine W.widen (k := 600000) (n := 7302250) (Nat.le_of_ble_eq_true rfl) (Nat.le_of_ble_eq_true rfl) ?_
  refine lv_astore_n (lv' := [(2, .ref (s.heap.size + 75 + 0)), (1, .ref (s.heap.size + 0)), (0, .ref b)]) hx hb dL_law_15 rfl hl (by decide) rfl (fun ls hl => ?_)
  refine lv_iconst (v := 0) hx hb dL_law_16 (by decide) ?_
  refine lv_istore_n (lv' := [(3, .int 0), (2, .ref (s.heap.size + 75 + 0)), (1, .ref (s.heap.size + 0)), (0, .ref b)]) hx hb dL_law_17 rfl hl (by decide) rfl (fun ls hl => ?_)
  exact law_loop hL C0 hK T_passage T_gallery T_voice T_breath T_leave T_say T_wipe T_fault T_judge T_done T_behind T_seam T_then T_light T_shakes T_way T_fewest T_keep T_cut T_hold T_round T_heard T_forget T_losts T_listen T_cold T_year T_image T_restore T_told (L + 7) 0 (Nat.zero_le _) (by omega) u1 u2 H3 _ ls hR hw hS (lv_sub hl [3, 2, 1, 0] rfl)
