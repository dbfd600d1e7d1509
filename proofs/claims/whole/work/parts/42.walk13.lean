abbrev rm_X8_cut : Room := { frames := 2, cells := 0, slots := 0, locals := 46 }
set_option maxHeartbeats 4000000 in
set_option maxRecDepth 100000 in
theorem c_X8_cut (l : Launch) (G : qG) (ad : Nat → Nat) (hI : qI W2N ad) (M : qM) (sz : Nat) {P : Int32 → qM → Prop} (h : qOk2 (kX8_cut M) P) : Met l yX8_cut wsX8_cut rm_X8_cut (va_Pc [.ref (ad 0)] (qPre W2N e2 G ad M sz)) (va_Qi P (fun u t => qHp W2N e2 G ad u t.heap) (qA W2N ad sz)) 0 0 (qA W2N ad sz) := by
  refine Met.ofW (cc := cX8_cut) (maxL := 3) (ret := (some .int)) (by decide) rfl ?_
  intro p e s m args below meth c s₁ B hml hv
  obtain ⟨rfl, hsz, hK, hP⟩ := hv
  subst hsz
  have hx := B.exec
  have hb := B.bytes
  have hr := B.returns
  have hts := atoms_spec (ws := wsX8_cut) B.pre
  have hown : s.vm.findClass RX8 = some m.cls := findClass_of_methodNamed B.named
  have hlocks := B.notSynchronized
  have hH : qHS W2N e2 G ad M s.heap s.heap [] := ⟨hP, va_S.rf⟩
  have f7 : (Cond.fieldLink RX8 7 "SongLampsModel" "book" "[I").before [.ref (ad 0)].toArray s = true := hts _ (by decide +kernel)
  have i_X8 : ∀ w ∈ wsX80, w ∈ wsX8_cut := fun w hw => List.mem_cons_of_mem _ ((List.mem_append_right _ hw))
  have f63 : (Cond.fieldLink RX8 63 "SongLampsModel" "there" "I").before [.ref (ad 0)].toArray s = true := hts _ (by decide +kernel)
  have f40 : (Cond.fieldLink RX8 40 "SongLampsModel" "far" "[I").before [.ref (ad 0)].toArray s = true := hts _ (by decide +kernel)
  have q144 : (Cond.constant RX8 144 (1000000)).before [.ref (ad 0)].toArray s = true := hts _ (by decide +kernel)
  have hl := lv_entry ([.ref (ad 0)]) (n := 3) (Nat.le_of_ble_eq_true rfl)
  rw [lg_entry_eq]
  generalize (lg_sl ([.ref (ad 0)]) ++ List.replicate (3 - (lg_sl ([.ref (ad 0)])).length) Slot.unset).toArray = ls at hl ⊢
  have hl : lv_has ls 3 [(0, .ref (ad 0))] := hl
  have h : qOk (kX8_cut M) _ := h
  unfold kX8_cut at h
  refine lv_aload_n hx hb dX8_cut_0 rfl (lv_at hl 0 rfl) ?_
  refine lv_iconst (v := 0) hx hb dX8_cut_1 (by decide) ?_
  refine lv_sipush (v := 1023) hx hb dX8_cut_2 (by decide) ?_
  refine lv_aload_n hx hb dX8_cut_5 rfl (lv_at hl 0 rfl) ?_
  refine y_get hx hb hts i_X8 hown hK hH qOb_8 rfl 0 (by decide) f7 rfl dX8_cut_6 ?_
  refine lv_bipush (v := 34) hx hb dX8_cut_9 (by decide) ?_
  refine y_iald hx hb hK hH qMr_1 h dX8_cut_11 (fun v1 h => ?_)
  refine lv_iconst (v := (-1)) hx hb dX8_cut_12 (by decide) ?_
  refine lv_ixor hx hb dX8_cut_13 ?_
  refine lv_iand hx hb dX8_cut_14 ?_
  refine y_cv hH (va_runV (As := [.int 0, .int (1023 &&& (v1 ^^^ (-1)))]) (rest := []) ⟨hx, hb, hml, hown, hts⟩ (c_X8_layFar l G ad hI M _ 0 (1023 &&& (v1 ^^^ (-1))) (qOk.b1 h)) (cwV 2 hts gX8_cut_X8_layFar rfl rfl rfl (by decide +kernel) ⟨Nat.le_of_ble_eq_true rfl, Nat.le_of_ble_eq_true rfl⟩) ⟨qPre.blind, qrecv hK hH qOb_8 rfl, qPre.at hK hH⟩ rfl rfl hl.1 rfl (lv_room (Nat.le_of_ble_eq_true rfl)) dX8_cut_15 ⟨Nat.zero_le _, Nat.zero_le _⟩) (fun M2 H locs hH h => ?_)
  refine lv_iconst (v := 0) hx hb dX8_cut_18 (by decide) ?_
  refine lv_istore_n (lv' := [(1, .int 0), (0, .ref (ad 0))]) hx hb dX8_cut_19 rfl hl (by decide) rfl (fun ls hl => ?_)
  refine lv_iconst (v := 0) hx hb dX8_cut_20 (by decide) ?_
  refine lv_istore_n (lv' := [(2, .int 0), (1, .int 0), (0, .ref (ad 0))]) hx hb dX8_cut_21 rfl hl (by decide) rfl (fun ls hl => ?_)
  refine qj1 (G := fun (v5 : Int32) => ∀ ls : Array Slot, lv_has ls 3 [(1, .int v5)] → W p l e (headSpec wsX8_cut rm_X8_cut).room s m [.ref (ad 0)].toArray below meth c H locs 0 0 (MQ below (va_Qi P (fun u t => qHp W2N e2 G ad u t.heap) (qA W2N ad s.heap.size)) [.ref (ad 0)].toArray s 0 0 (qA W2N ad s.heap.size)) (F0 m 74 ls [])) h ?_ ?_
  rotate_left
  · intro h
    refine qloop2 (I := fun (v3 : Int32) (v4 : Int32) => ∀ ls : Array Slot, lv_has ls 3 [(0, .ref (ad 0)), (1, .int v3), (2, .int v4)] → W p l e (headSpec wsX8_cut rm_X8_cut).room s m [.ref (ad 0)].toArray below meth c H locs 0 0 (MQ below (va_Qi P (fun u t => qHp W2N e2 G ad u t.heap) (qA W2N ad s.heap.size)) [.ref (ad 0)].toArray s 0 0 (qA W2N ad s.heap.size)) (F0 m 22 ls [])) ?_ h _ (lv_sub hl [2, 1, 0] rfl)
    intro v3 v4 h ls hl
    have h : qOk (kX8_cut_L22 M2 v3 v4) _ := h
    unfold kX8_cut_L22 at h
    refine lv_iload_n hx hb dX8_cut_22 rfl (lv_at hl 2 rfl) ?_
    refine lv_bipush (v := 8) hx hb dX8_cut_23 (by decide) ?_
    refine lv_icmp_ge (tgt := 74) hx hb dX8_cut_25 (by decide) (fun hc => ?_) (fun hc => ?_)
    · have h := qOk.t hc h
      exact qOk.le h _ (lv_sub hl [1] rfl)
    · have h := qOk.f hc h
      refine lv_iload_n hx hb dX8_cut_28 rfl (lv_at hl 1 rfl) ?_
      refine lv_aload_n hx hb dX8_cut_29 rfl (lv_at hl 0 rfl) ?_
      refine y_get hx hb hts i_X8 hown hK hH qOb_8 rfl 2 (by decide) f63 rfl dX8_cut_30 ?_
      refine lv_iload_n hx hb dX8_cut_33 rfl (lv_at hl 2 rfl) ?_
      refine y_cs (va_runS (As := [.int (M2 0 2), .int v4]) (rest := [.int v3]) ⟨hx, hb, hml, hown, hts⟩ (c_X8_has l (M2 0 2) v4 (qOk.b1 h)) (va_cwS 2 hts gX8_cut_X8_has rfl rfl rfl (by decide +kernel) ⟨Nat.le_of_ble_eq_true rfl, Nat.le_of_ble_eq_true rfl⟩) ⟨qPrT.blind, qPrT.at⟩ rfl rfl hl.1 rfl (lv_room (Nat.le_of_ble_eq_true rfl)) dX8_cut_34 ⟨Nat.zero_le _, Nat.zero_le _⟩) (fun v6 h => ?_)
      refine qj1 (G := fun (v7 : Int32) => W p l e (headSpec wsX8_cut rm_X8_cut).room s m [.ref (ad 0)].toArray below meth c H locs 0 0 (MQ below (va_Qi P (fun u t => qHp W2N e2 G ad u t.heap) (qA W2N ad s.heap.size)) [.ref (ad 0)].toArray s 0 0 (qA W2N ad s.heap.size)) (F0 m 66 ls [.int v7, .int v3])) h ?_ ?_
      rotate_left
      · intro h
        refine lv_if_eq (tgt := 65) hx hb dX8_cut_37 (by decide) (fun hc => ?_) (fun hc => ?_)
        · have h := qOk.t hc h
          refine lv_iconst (v := 0) hx hb dX8_cut_65 (by decide) ?_
          have h := qOk.s h
          exact h
        · have h := qOk.f hc h
          refine lv_aload_n hx hb dX8_cut_40 rfl (lv_at hl 0 rfl) ?_
          refine y_get hx hb hts i_X8 hown hK hH qOb_8 rfl 18 (by decide) f40 rfl dX8_cut_41 ?_
          refine lv_aload_n hx hb dX8_cut_44 rfl (lv_at hl 0 rfl) ?_
          refine y_get hx hb hts i_X8 hown hK hH qOb_8 rfl 0 (by decide) f7 rfl dX8_cut_45 ?_
          refine lv_bipush (v := 16) hx hb dX8_cut_48 (by decide) ?_
          refine lv_iload_n hx hb dX8_cut_50 rfl (lv_at hl 2 rfl) ?_
          refine lv_iadd hx hb dX8_cut_51 ?_
          refine y_iald hx hb hK hH qMr_1 h dX8_cut_52 (fun v8 h => ?_)
          refine y_iald hx hb hK hH qMr_11 h dX8_cut_53 (fun v9 h => ?_)
          refine lv_ldc (v := 1000000) hx hb hown q144 dX8_cut_54 ?_
          refine lv_icmp_lt (tgt := 65) hx hb dX8_cut_56 (by decide) (fun hc => ?_) (fun hc => ?_)
          · have h := qOk.t hc h
            refine lv_iconst (v := 0) hx hb dX8_cut_65 (by decide) ?_
            have h := qOk.s h
            exact h
          · have h := qOk.f hc h
            refine lv_iconst (v := 1) hx hb dX8_cut_59 (by decide) ?_
            refine lv_iload_n hx hb dX8_cut_60 rfl (lv_at hl 2 rfl) ?_
            refine lv_ishl hx hb dX8_cut_61 ?_
            refine lv_goto (tgt := 66) hx hb dX8_cut_62 (by decide) ?_
            have h := qOk.s h
            exact h
      intro v7 h
      refine lv_ior hx hb dX8_cut_66 ?_
      refine lv_topi (fun v10 ev10 => ?_)
      have h := qOk.v h ev10
      refine lv_istore_n (lv' := [(1, .int v10), (0, .ref (ad 0)), (2, .int v4)]) hx hb dX8_cut_67 rfl hl (by decide) rfl (fun ls hl => ?_)
      obtain ⟨v11, ev11⟩ : ∃ y : Int32, y = v4 + 1 := ⟨_, rfl⟩
      have h := qOk.v h ev11
      refine lv_iinc (v := v11) (lv' := [(2, .int v11), (1, .int v10), (0, .ref (ad 0))]) hx hb dX8_cut_68 hl (k := 2) rfl (by rw [ev11]; rfl) (by decide) rfl (fun ls hl => ?_)
      refine lv_goto (tgt := 22) hx hb dX8_cut_71 (by decide) ?_
      exact qOk.li h _ (lv_sub hl [2, 1, 0] rfl)
  intro v5 h ls hl
  refine lv_iload_n hx hb dX8_cut_74 rfl (lv_at hl 0 rfl) ?_
  exact W.iret hx hb hr (fun t ht _ => ⟨⟨_, _, rfl, qOk2.s h, qHpt ht hH.1⟩, hH.2.F ht⟩) hH.2.2.2 dX8_cut_75
abbrev rm_X8_digit : Room := { frames := 0, cells := 0, slots := 0, locals := 0 }
set_option maxHeartbeats 4000000 in
set_option maxRecDepth 100000 in
theorem c_X8_digit (l : Launch) (x0 : Int32) (x1 : Int32) {P : Int32 → Prop} (h : qOk (kX8_digit x0 x1) P) : Met l yX8_digit wsX8_digit rm_X8_digit (va_Pc [.int x0, .int x1] (fun _ => True)) (vp_Si P) 0 0 (fun _ => False) := by
  refine Met.ofW (cc := cX8_digit) (maxL := 2) (ret := (some .int)) (by decide) rfl ?_
  intro p e s m args below meth c s₁ B hml hv
  obtain ⟨rfl, -⟩ := hv
  have hx := B.exec
  have hb := B.bytes
  have hr := B.returns
  have hts := atoms_spec (ws := wsX8_digit) B.pre
  have hown : s.vm.findClass RX8 = some m.cls := findClass_of_methodNamed B.named
  have hlocks := B.notSynchronized
  have hl := lv_entry ([.int x0, .int x1]) (n := 2) (Nat.le_of_ble_eq_true rfl)
  rw [lg_entry_eq]
  generalize (lg_sl ([.int x0, .int x1]) ++ List.replicate (2 - (lg_sl ([.int x0, .int x1])).length) Slot.unset).toArray = ls at hl ⊢
  have hl : lv_has ls 2 [(0, .int x0), (1, .int x1)] := hl
  have h : qOk (kX8_digit x0 x1) _ := h
  unfold kX8_digit at h
  refine lv_iload_n hx hb dX8_digit_0 rfl (lv_at hl 1 rfl) ?_
  refine qj1 (G := fun (v1 : Int32) => W p l e (headSpec wsX8_digit rm_X8_digit).room s m [.int x0, .int x1].toArray below meth c s.heap [] 0 0 (MQ below (vp_Si P) [.int x0, .int x1].toArray s 0 0 (fun _ => False)) (F0 m 30 ls [.int v1])) h ?_ ?_
  rotate_left
  · intro h
    refine lv_if_ne (tgt := 11) hx hb dX8_digit_1 (by decide) (fun hc => ?_) (fun hc => ?_)
    · have h := qOk.f hc h
      refine lv_iload_n hx hb dX8_digit_11 rfl (lv_at hl 1 rfl) ?_
      refine lv_iconst (v := 1) hx hb dX8_digit_12 (by decide) ?_
      refine lv_icmp_ne (tgt := 26) hx hb dX8_digit_13 (by decide) (fun hc => ?_) (fun hc => ?_)
      · have h := qOk.f hc h
        refine lv_iload_n hx hb dX8_digit_26 rfl (lv_at hl 0 rfl) ?_
        refine lv_bipush (v := 10) hx hb dX8_digit_27 (by decide) ?_
        refine lv_irem hx hb dX8_digit_29 (by decide) ?_
        have h := qOk.s h
        exact h
      · have h := qOk.t hc h
        refine lv_iload_n hx hb dX8_digit_16 rfl (lv_at hl 0 rfl) ?_
        refine lv_bipush (v := 10) hx hb dX8_digit_17 (by decide) ?_
        refine lv_idiv hx hb dX8_digit_19 (by decide) ?_
        refine lv_bipush (v := 10) hx hb dX8_digit_20 (by decide) ?_
        refine lv_irem hx hb dX8_digit_22 (by decide) ?_
        refine lv_goto (tgt := 30) hx hb dX8_digit_23 (by decide) ?_
        have h := qOk.s h
        exact h
    · have h := qOk.t hc h
      refine lv_iload_n hx hb dX8_digit_4 rfl (lv_at hl 0 rfl) ?_
      refine lv_bipush (v := 100) hx hb dX8_digit_5 (by decide) ?_
      refine lv_idiv hx hb dX8_digit_7 (by decide) ?_
      refine lv_goto (tgt := 30) hx hb dX8_digit_8 (by decide) ?_
      have h := qOk.s h
      exact h
  intro v1 h
  exact W.iret hx hb hr (fun t ht _ => ⟨_, rfl, qOk.s h, ht⟩) (fun _ hq => by cases hq) dX8_digit_30
abbrev rm_X8_rested : Room := { frames := 1, cells := 0, slots := 0, locals := 21 }
set_option maxHeartbeats 4000000 in
set_option maxRecDepth 100000 in
theorem c_X8_rested (l : Launch) (x0 : Int32) (x1 : Int32) (x2 : Int32) (x3 : Int32) {P : Int32 → Prop} (h : qOk (kX8_rested x0 x1 x2 x3) P) : Met l yX8_rested wsX8_rested rm_X8_rested (va_Pc [.int x0, .int x1, .int x2, .int x3] (fun _ => True)) (vp_Si P) 0 0 (fun _ => False) := by
  refine Met.ofW (cc := cX8_rested) (maxL := 7) (ret := (some .int)) (by decide) rfl ?_
  intro p e s m args below meth c s₁ B hml hv
  obtain ⟨rfl, -⟩ := hv
  have hx := B.exec
  have hb := B.bytes
  have hr := B.returns
  have hts := atoms_spec (ws := wsX8_rested) B.pre
  have hown : s.vm.findClass RX8 = some m.cls := findClass_of_methodNamed B.named
  have hlocks := B.notSynchronized
  have hl := lv_entry ([.int x0, .int x1, .int x2, .int x3]) (n := 7) (Nat.le_of_ble_eq_true rfl)
  rw [lg_entry_eq]
  generalize (lg_sl ([.int x0, .int x1, .int x2, .int x3]) ++ List.replicate (7 - (lg_sl ([.int x0, .int x1, .int x2, .int x3])).length) Slot.unset).toArray = ls at hl ⊢
  have hl : lv_has ls 7 [(0, .int x0), (1, .int x1), (2, .int x2), (3, .int x3)] := hl
  have h : qOk (kX8_rested x0 x1 x2 x3) _ := h
  unfold kX8_rested at h
  refine lv_iconst (v := 0) hx hb dX8_rested_0 (by decide) ?_
  refine lv_istore (lv' := [(4, .int 0), (0, .int x0), (1, .int x1), (2, .int x2), (3, .int x3)]) hx hb dX8_rested_1 hl (by decide) rfl (fun ls hl => ?_)
  refine lv_iconst (v := 0) hx hb dX8_rested_3 (by decide) ?_
  refine lv_istore (lv' := [(5, .int 0), (4, .int 0), (0, .int x0), (1, .int x1), (2, .int x2), (3, .int x3)]) hx hb dX8_rested_4 hl (by decide) rfl (fun ls hl => ?_)
  refine qj1 (G := fun (v3 : Int32) => ∀ ls : Array Slot, lv_has ls 7 [(4, .int v3)] → W p l e (headSpec wsX8_rested rm_X8_rested).room s m [.int x0, .int x1, .int x2, .int x3].toArray below meth c s.heap [] 0 0 (MQ below (vp_Si P) [.int x0, .int x1, .int x2, .int x3].toArray s 0 0 (fun _ => False)) (F0 m 57 ls [])) h ?_ ?_
  rotate_left
  · intro h
    refine qloop2 (I := fun (v1 : Int32) (v2 : Int32) => ∀ ls : Array Slot, lv_has ls 7 [(0, .int x0), (1, .int x1), (2, .int x2), (3, .int x3), (4, .int v1), (5, .int v2)] → W p l e (headSpec wsX8_rested rm_X8_rested).room s m [.int x0, .int x1, .int x2, .int x3].toArray below meth c s.heap [] 0 0 (MQ below (vp_Si P) [.int x0, .int x1, .int x2, .int x3].toArray s 0 0 (fun _ => False)) (F0 m 6 ls [])) ?_ h _ (lv_sub hl [2, 3, 4, 5, 1, 0] rfl)
    intro v1 v2 h ls hl
    have h : qOk (kX8_rested_L6 x0 x2 x1 x3 v1 v2) _ := h
    unfold kX8_rested_L6 at h
    refine lv_iload hx hb dX8_rested_6 (lv_at hl 5 rfl) ?_
    refine lv_iconst (v := 3) hx hb dX8_rested_8 (by decide) ?_
    refine lv_icmp_ge (tgt := 57) hx hb dX8_rested_9 (by decide) (fun hc => ?_) (fun hc => ?_)
    · have h := qOk.t hc h
      exact qOk.le h _ (lv_sub hl [4] rfl)
    · have h := qOk.f hc h
      refine lv_iload_n hx hb dX8_rested_12 rfl (lv_at hl 0 rfl) ?_
      refine lv_iload hx hb dX8_rested_13 (lv_at hl 5 rfl) ?_
      refine y_cs (va_runS (As := [.int x0, .int v2]) (rest := []) ⟨hx, hb, hml, hown, hts⟩ (c_X8_digit l x0 v2 (qOk.b1 h)) (va_cwS 2 hts gX8_rested_X8_digit rfl rfl rfl (by decide +kernel) ⟨Nat.le_of_ble_eq_true rfl, Nat.le_of_ble_eq_true rfl⟩) ⟨qPrT.blind, qPrT.at⟩ rfl rfl hl.1 rfl (lv_room (Nat.le_of_ble_eq_true rfl)) dX8_rested_15 ⟨Nat.zero_le _, Nat.zero_le _⟩) (fun v4 h => ?_)
      refine lv_iload_n hx hb dX8_rested_18 rfl (lv_at hl 2 rfl) ?_
      refine lv_isub hx hb dX8_rested_19 ?_
      refine lv_topi (fun v5 ev5 => ?_)
      have h := qOk.v h ev5
      refine lv_istore (lv' := [(6, .int v5), (0, .int x0), (1, .int x1), (2, .int x2), (3, .int x3), (4, .int v1), (5, .int v2)]) hx hb dX8_rested_20 hl (by decide) rfl (fun ls hl => ?_)
      refine lv_bipush (v := 10) hx hb dX8_rested_22 (by decide) ?_
      refine lv_iload hx hb dX8_rested_24 (lv_at hl 5 rfl) ?_
      refine lv_imul hx hb dX8_rested_26 ?_
      refine lv_iload hx hb dX8_rested_27 (lv_at hl 6 rfl) ?_
      refine lv_iload_n hx hb dX8_rested_29 rfl (lv_at hl 2 rfl) ?_
      refine qj1 (G := fun (v6 : Int32) => W p l e (headSpec wsX8_rested rm_X8_rested).room s m [.int x0, .int x1, .int x2, .int x3].toArray below meth c s.heap [] 0 0 (MQ below (vp_Si P) [.int x0, .int x1, .int x2, .int x3].toArray s 0 0 (fun _ => False)) (F0 m 48 ls [.int v6, .int (10 * v1)])) h ?_ ?_
      rotate_left
      · intro h
        refine lv_icmp_ne (tgt := 37) hx hb dX8_rested_30 (by decide) (fun hc => ?_) (fun hc => ?_)
        · have h := qOk.f hc h
          refine lv_iload hx hb dX8_rested_37 (lv_at hl 0 rfl) ?_
          refine lv_if_le (tgt := 47) hx hb dX8_rested_39 (by decide) (fun hc => ?_) (fun hc => ?_)
          · have h := qOk.t hc h
            refine lv_iconst (v := 0) hx hb dX8_rested_47 (by decide) ?_
            have h := qOk.s h
            exact h
          · have h := qOk.f hc h
            refine lv_iload hx hb dX8_rested_42 (lv_at hl 0 rfl) ?_
            refine lv_goto (tgt := 48) hx hb dX8_rested_44 (by decide) ?_
            have h := qOk.s h
            exact h
        · have h := qOk.t hc h
          refine lv_iload_n hx hb dX8_rested_33 rfl (lv_at hl 4 rfl) ?_
          refine lv_goto (tgt := 48) hx hb dX8_rested_34 (by decide) ?_
          have h := qOk.s h
          exact h
      intro v6 h
      refine lv_iadd hx hb dX8_rested_48 ?_
      refine lv_topi (fun v7 ev7 => ?_)
      have h := qOk.v h ev7
      refine lv_istore (lv' := [(4, .int v7), (6, .int v5), (0, .int x0), (1, .int x1), (2, .int x2), (3, .int x3), (5, .int v2)]) hx hb dX8_rested_49 hl (by decide) rfl (fun ls hl => ?_)
      obtain ⟨v8, ev8⟩ : ∃ y : Int32, y = v2 + 1 := ⟨_, rfl⟩
      have h := qOk.v h ev8
      refine lv_iinc (v := v8) (lv' := [(5, .int v8), (4, .int v7), (6, .int v5), (0, .int x0), (1, .int x1), (2, .int x2), (3, .int x3)]) hx hb dX8_rested_51 hl (k := 6) rfl (by rw [ev8]; rfl) (by decide) rfl (fun ls hl => ?_)
      refine lv_goto (tgt := 6) hx hb dX8_rested_54 (by decide) ?_
      exact qOk.li h _ (lv_sub hl [3, 4, 5, 6, 1, 0] rfl)
  intro v3 h ls hl
  refine lv_iload hx hb dX8_rested_57 (lv_at hl 0 rfl) ?_
  exact W.iret hx hb hr (fun t ht _ => ⟨_, rfl, qOk.s h, ht⟩) (fun _ hq => by cases hq) dX8_rested_59
abbrev rm_X8_heldBy : Room := { frames := 2, cells := 0, slots := 0, locals := 47 }
set_option maxHeartbeats 4000000 in
set_option maxRecDepth 100000 in
theorem c_X8_heldBy (l : Launch) (G : qG) (ad : Nat → Nat) (hI : qI W2N ad) (M : qM) (sz : Nat) (x1 : Int32) (x2 : Int32) (x3 : Int32) {P : Int32 → qM → Prop} (h : qOk2 (kX8_heldBy M x1 x2 x3) P) : Met l yX8_heldBy wsX8_heldBy rm_X8_heldBy (va_Pc [.ref (ad 0), .int x1, .int x2, .int x3] (qPre W2N e2 G ad M sz)) (va_Qi P (fun u t => qHp W2N e2 G ad u t.heap) (qA W2N ad sz)) 0 0 (qA W2N ad sz) := by
  refine Met.ofW (cc := cX8_heldBy) (maxL := 10) (ret := (some .int)) (by decide) rfl ?_
  intro p e s m args below meth c s₁ B hml hv
  obtain ⟨rfl, hsz, hK, hP⟩ := hv
  subst hsz
  have hx := B.exec
  have hb := B.bytes
  have hr := B.returns
  have hts := atoms_spec (ws := wsX8_heldBy) B.pre
  have hown : s.vm.findClass RX8 = some m.cls := findClass_of_methodNamed B.named
  have hlocks := B.notSynchronized
  have hH : qHS W2N e2 G ad M s.heap s.heap [] := ⟨hP, va_S.rf⟩
  have f43 : (Cond.fieldLink RX8 43 "SongLampsModel" "comes" "[Z").before [.ref (ad 0), .int x1, .int x2, .int x3].toArray s = true := hts _ (by decide +kernel)
  have i_X8 : ∀ w ∈ wsX80, w ∈ wsX8_heldBy := fun w hw => List.mem_cons_of_mem _ ((List.mem_append_right _ hw))
  have hl := lv_entry ([.ref (ad 0), .int x1, .int x2, .int x3]) (n := 10) (Nat.le_of_ble_eq_true rfl)
  rw [lg_entry_eq]
  generalize (lg_sl ([.ref (ad 0), .int x1, .int x2, .int x3]) ++ List.replicate (10 - (lg_sl ([.ref (ad 0), .int x1, .int x2, .int x3])).length) Slot.unset).toArray = ls at hl ⊢
  have hl : lv_has ls 10 [(0, .ref (ad 0)), (1, .int x1), (2, .int x2), (3, .int x3)] := hl
  have h : qOk (kX8_heldBy M x1 x2 x3) _ := h
  unfold kX8_heldBy at h
  refine lv_iconst (v := 0) hx hb dX8_heldBy_0 (by decide) ?_
  refine lv_istore (lv' := [(4, .int 0), (0, .ref (ad 0)), (1, .int x1), (2, .int x2), (3, .int x3)]) hx hb dX8_heldBy_1 hl (by decide) rfl (fun ls hl => ?_)
  refine qj1 (G := fun (M3 : qM) => ∀ (H : Heap) (locs : List Loc), qHS W2N e2 G ad M3 s.heap H locs → ∀ ls : Array Slot, lv_has ls 10 [(0, .ref (ad 0)), (1, .int x1), (2, .int x2), (3, .int x3)] → W p l e (headSpec wsX8_heldBy rm_X8_heldBy).room s m [.ref (ad 0), .int x1, .int x2, .int x3].toArray below meth c H locs 0 0 (MQ below (va_Qi P (fun u t => qHp W2N e2 G ad u t.heap) (qA W2N ad s.heap.size)) [.ref (ad 0), .int x1, .int x2, .int x3].toArray s 0 0 (qA W2N ad s.heap.size)) (F0 m 25 ls [])) h ?_ ?_
  rotate_left
  · intro h
    refine qloop2 (I := fun (v1 : Int32) (M2 : qM) => ∀ (H : Heap) (locs : List Loc), qHS W2N e2 G ad M2 s.heap H locs → ∀ ls : Array Slot, lv_has ls 10 [(0, .ref (ad 0)), (1, .int x1), (2, .int x2), (3, .int x3), (4, .int v1)] → W p l e (headSpec wsX8_heldBy rm_X8_heldBy).room s m [.ref (ad 0), .int x1, .int x2, .int x3].toArray below meth c H locs 0 0 (MQ below (va_Qi P (fun u t => qHp W2N e2 G ad u t.heap) (qA W2N ad s.heap.size)) [.ref (ad 0), .int x1, .int x2, .int x3].toArray s 0 0 (qA W2N ad s.heap.size)) (F0 m 3 ls [])) ?_ h _ _ hH _ (lv_sub hl [1, 2, 3, 4, 0] rfl)
    intro v1 M2 h H locs hH ls hl
    have h : qOk (kX8_heldBy_L3 v1 M2) _ := h
    unfold kX8_heldBy_L3 at h
    refine lv_iload hx hb dX8_heldBy_3 (lv_at hl 4 rfl) ?_
    refine lv_sipush (v := 10000) hx hb dX8_heldBy_5 (by decide) ?_
    refine lv_icmp_ge (tgt := 25) hx hb dX8_heldBy_8 (by decide) (fun hc => ?_) (fun hc => ?_)
    · have h := qOk.t hc h
      exact qOk.le h _ _ hH _ (lv_sub hl [0, 1, 2, 3] rfl)
    · have h := qOk.f hc h
      refine lv_aload_n hx hb dX8_heldBy_11 rfl (lv_at hl 0 rfl) ?_
      refine y_get hx hb hts i_X8 hown hK hH qOb_8 rfl 19 (by decide) f43 rfl dX8_heldBy_12 ?_
      refine lv_iload hx hb dX8_heldBy_15 (lv_at hl 4 rfl) ?_
      refine lv_iconst (v := 0) hx hb dX8_heldBy_17 (by decide) ?_
      refine y_zast hx hb hK hI hH qMr_12 h dX8_heldBy_18 (fun M4 H locs hH h => ?_)
      obtain ⟨v5, ev5⟩ : ∃ y : Int32, y = v1 + 1 := ⟨_, rfl⟩
      have h := qOk.v h ev5
      refine lv_iinc (v := v5) (lv' := [(4, .int v5), (0, .ref (ad 0)), (1, .int x1), (2, .int x2), (3, .int x3)]) hx hb dX8_heldBy_19 hl (k := 4) rfl (by rw [ev5]; rfl) (by decide) rfl (fun ls hl => ?_)
      refine lv_goto (tgt := 3) hx hb dX8_heldBy_22 (by decide) ?_
      exact qOk.li h _ _ hH _ (lv_sub hl [1, 2, 3, 4, 0] rfl)
  intro M3 h H locs hH ls hl
  refine lv_iload_n hx hb dX8_heldBy_25 rfl (lv_at hl 2 rfl) ?_
  refine lv_iload_n hx hb dX8_heldBy_26 rfl (lv_at hl 1 rfl) ?_
  refine y_cs (va_runS (As := [.int x2, .int x1]) (rest := []) ⟨hx, hb, hml, hown, hts⟩ (c_X8_digit l x2 x1 (qOk.b1 h)) (va_cwS 2 hts gX8_heldBy_X8_digit rfl rfl rfl (by decide +kernel) ⟨Nat.le_of_ble_eq_true rfl, Nat.le_of_ble_eq_true rfl⟩) ⟨qPrT.blind, qPrT.at⟩ rfl rfl hl.1 rfl (lv_room (Nat.le_of_ble_eq_true rfl)) dX8_heldBy_27 ⟨Nat.zero_le _, Nat.zero_le _⟩) (fun v6 h => ?_)
  refine lv_istore (lv' := [(4, .int v6), (0, .ref (ad 0)), (1, .int x1), (2, .int x2), (3, .int x3)]) hx hb dX8_heldBy_30 hl (by decide) rfl (fun ls hl => ?_)
  refine lv_aload_n hx hb dX8_heldBy_32 rfl (lv_at hl 1 rfl) ?_
  refine y_get hx hb hts i_X8 hown hK hH qOb_8 rfl 19 (by decide) f43 rfl dX8_heldBy_33 ?_
  refine lv_sipush (v := 1000) hx hb dX8_heldBy_36 (by decide) ?_
  refine lv_iload hx hb dX8_heldBy_39 (lv_at hl 0 rfl) ?_
  refine lv_imul hx hb dX8_heldBy_41 ?_
  refine lv_iconst (v := 0) hx hb dX8_heldBy_42 (by decide) ?_
  refine lv_iload_n hx hb dX8_heldBy_43 rfl (lv_at hl 2 rfl) ?_
  refine lv_iload hx hb dX8_heldBy_44 (lv_at hl 0 rfl) ?_
  refine lv_iload_n hx hb dX8_heldBy_46 rfl (lv_at hl 4 rfl) ?_
  refine lv_iload_n hx hb dX8_heldBy_47 rfl (lv_at hl 2 rfl) ?_
  refine y_cs (va_runS (As := [.int x3, .int x1]) (rest := [.int v6, .int x1, .int 0, .int (1000 * v6), .ref (ad 12)]) ⟨hx, hb, hml, hown, hts⟩ (c_X8_digit l x3 x1 (qOk.b1 h)) (va_cwS 2 hts gX8_heldBy_X8_digit rfl rfl rfl (by decide +kernel) ⟨Nat.le_of_ble_eq_true rfl, Nat.le_of_ble_eq_true rfl⟩) ⟨qPrT.blind, qPrT.at⟩ rfl rfl hl.1 rfl (lv_room (Nat.le_of_ble_eq_true rfl)) dX8_heldBy_48 ⟨Nat.zero_le _, Nat.zero_le _⟩) (fun v7 h => ?_)
  refine y_cs (va_runS (As := [.int 0, .int x1, .int v6, .int v7]) (rest := [.int (1000 * v6), .ref (ad 12)]) ⟨hx, hb, hml, hown, hts⟩ (c_X8_rested l 0 x1 v6 v7 (qOk.b1 h)) (va_cwS 4 hts gX8_heldBy_X8_rested rfl rfl rfl (by decide +kernel) ⟨Nat.le_of_ble_eq_true rfl, Nat.le_of_ble_eq_true rfl⟩) ⟨qPrT.blind, qPrT.at⟩ rfl rfl hl.1 rfl (lv_room (Nat.le_of_ble_eq_true rfl)) dX8_heldBy_51 ⟨Nat.zero_le _, Nat.zero_le _⟩) (fun v8 h => ?_)
  refine lv_iadd hx hb dX8_heldBy_54 ?_
  refine lv_iconst (v := 1) hx hb dX8_heldBy_55 (by decide) ?_
  refine y_zast hx hb hK hI hH qMr_12 h dX8_heldBy_56 (fun M9 H locs hH h => ?_)
  refine lv_iconst (v := 1) hx hb dX8_heldBy_57 (by decide) ?_
  refine lv_istore (lv' := [(5, .int 1), (4, .int v6), (0, .ref (ad 0)), (1, .int x1), (2, .int x2), (3, .int x3)]) hx hb dX8_heldBy_58 hl (by decide) rfl (fun ls hl => ?_)
  refine qj2 (G := fun (v13 : Int32) (M14 : qM) => ∀ (H : Heap) (locs : List Loc), qHS W2N e2 G ad M14 s.heap H locs → ∀ ls : Array Slot, lv_has ls 10 [(4, .int v13)] → W p l e (headSpec wsX8_heldBy rm_X8_heldBy).room s m [.ref (ad 0), .int x1, .int x2, .int x3].toArray below meth c H locs 0 0 (MQ below (va_Qi P (fun u t => qHp W2N e2 G ad u t.heap) (qA W2N ad s.heap.size)) [.ref (ad 0), .int x1, .int x2, .int x3].toArray s 0 0 (qA W2N ad s.heap.size)) (F0 m 233 ls [])) h ?_ ?_
  rotate_left
  · intro h
    refine qloop3 (I := fun (v10 : Int32) (v11 : Int32) (M12 : qM) => ∀ (H : Heap) (locs : List Loc), qHS W2N e2 G ad M12 s.heap H locs → ∀ ls : Array Slot, lv_has ls 10 [(0, .ref (ad 0)), (2, .int x2), (3, .int x3), (4, .int v10), (5, .int v11)] → W p l e (headSpec wsX8_heldBy rm_X8_heldBy).room s m [.ref (ad 0), .int x1, .int x2, .int x3].toArray below meth c H locs 0 0 (MQ below (va_Qi P (fun u t => qHp W2N e2 G ad u t.heap) (qA W2N ad s.heap.size)) [.ref (ad 0), .int x1, .int x2, .int x3].toArray s 0 0 (qA W2N ad s.heap.size)) (F0 m 60 ls [])) ?_ h _ _ hH _ (lv_sub hl [2, 4, 5, 1, 0] rfl)
    intro v10 v11 M12 h H locs hH ls hl
    have h : qOk (kX8_heldBy_L60 x2 x3 v10 v11 M12) _ := h
    unfold kX8_heldBy_L60 at h
    refine lv_iload hx hb dX8_heldBy_60 (lv_at hl 4 rfl) ?_
    refine lv_bipush (v := 99) hx hb dX8_heldBy_62 (by decide) ?_
    refine lv_icmp_ge (tgt := 233) hx hb dX8_heldBy_64 (by decide) (fun hc => ?_) (fun hc => ?_)
    · have h := qOk.t hc h
      exact qOk.le h _ _ hH _ (lv_sub hl [3] rfl)
    · have h := qOk.f hc h
      refine lv_iconst (v := 0) hx hb dX8_heldBy_67 (by decide) ?_
      refine lv_istore (lv' := [(6, .int 0), (0, .ref (ad 0)), (2, .int x2), (3, .int x3), (4, .int v10), (5, .int v11)]) hx hb dX8_heldBy_68 hl (by decide) rfl (fun ls hl => ?_)
      refine qj2 (G := fun (v18 : Int32) (M19 : qM) => ∀ (H : Heap) (locs : List Loc), qHS W2N e2 G ad M19 s.heap H locs → ∀ ls : Array Slot, lv_has ls 10 [(0, .ref (ad 0)), (2, .int x2), (3, .int x3), (4, .int v18), (5, .int v11)] → W p l e (headSpec wsX8_heldBy rm_X8_heldBy).room s m [.ref (ad 0), .int x1, .int x2, .int x3].toArray below meth c H locs 0 0 (MQ below (va_Qi P (fun u t => qHp W2N e2 G ad u t.heap) (qA W2N ad s.heap.size)) [.ref (ad 0), .int x1, .int x2, .int x3].toArray s 0 0 (qA W2N ad s.heap.size)) (F0 m 227 ls [])) h ?_ ?_
      rotate_left
      · intro h
        refine qloop3 (I := fun (v15 : Int32) (v16 : Int32) (M17 : qM) => ∀ (H : Heap) (locs : List Loc), qHS W2N e2 G ad M17 s.heap H locs → ∀ ls : Array Slot, lv_has ls 10 [(0, .ref (ad 0)), (2, .int x2), (3, .int x3), (4, .int v15), (5, .int v11), (6, .int v16)] → W p l e (headSpec wsX8_heldBy rm_X8_heldBy).room s m [.ref (ad 0), .int x1, .int x2, .int x3].toArray below meth c H locs 0 0 (MQ below (va_Qi P (fun u t => qHp W2N e2 G ad u t.heap) (qA W2N ad s.heap.size)) [.ref (ad 0), .int x1, .int x2, .int x3].toArray s 0 0 (qA W2N ad s.heap.size)) (F0 m 70 ls [])) ?_ h _ _ hH _ (lv_sub hl [1, 2, 3, 4, 5, 0] rfl)
        intro v15 v16 M17 h H locs hH ls hl
        have h : qOk (kX8_heldBy_L70 v11 x2 x3 v15 v16 M17) _ := h
        unfold kX8_heldBy_L70 at h
        refine lv_iload hx hb dX8_heldBy_70 (lv_at hl 5 rfl) ?_
        refine lv_sipush (v := 1000) hx hb dX8_heldBy_72 (by decide) ?_
        refine lv_icmp_ge (tgt := 227) hx hb dX8_heldBy_75 (by decide) (fun hc => ?_) (fun hc => ?_)
        · have h := qOk.t hc h
          exact qOk.le h _ _ hH _ (lv_sub hl [0, 1, 2, 3, 4] rfl)
        · have h := qOk.f hc h
          refine lv_iconst (v := 0) hx hb dX8_heldBy_78 (by decide) ?_
          refine lv_istore (lv' := [(7, .int 0), (0, .ref (ad 0)), (2, .int x2), (3, .int x3), (4, .int v15), (5, .int v11), (6, .int v16)]) hx hb dX8_heldBy_79 hl (by decide) rfl (fun ls hl => ?_)
          refine qj2 (G := fun (v23 : Int32) (M24 : qM) => ∀ (H : Heap) (locs : List Loc), qHS W2N e2 G ad M24 s.heap H locs → ∀ ls : Array Slot, lv_has ls 10 [(0, .ref (ad 0)), (2, .int x2), (3, .int x3), (4, .int v23), (5, .int v11), (6, .int v16)] → W p l e (headSpec wsX8_heldBy rm_X8_heldBy).room s m [.ref (ad 0), .int x1, .int x2, .int x3].toArray below meth c H locs 0 0 (MQ below (va_Qi P (fun u t => qHp W2N e2 G ad u t.heap) (qA W2N ad s.heap.size)) [.ref (ad 0), .int x1, .int x2, .int x3].toArray s 0 0 (qA W2N ad s.heap.size)) (F0 m 203 ls [])) h ?_ ?_
          rotate_left
          · intro h
            refine qloop3 (I := fun (v20 : Int32) (v21 : Int32) (M22 : qM) => ∀ (H : Heap) (locs : List Loc), qHS W2N e2 G ad M22 s.heap H locs → ∀ ls : Array Slot, lv_has ls 10 [(0, .ref (ad 0)), (2, .int x2), (3, .int x3), (4, .int v20), (5, .int v11), (6, .int v16), (7, .int v21)] → W p l e (headSpec wsX8_heldBy rm_X8_heldBy).room s m [.ref (ad 0), .int x1, .int x2, .int x3].toArray below meth c H locs 0 0 (MQ below (va_Qi P (fun u t => qHp W2N e2 G ad u t.heap) (qA W2N ad s.heap.size)) [.ref (ad 0), .int x1, .int x2, .int x3].toArray s 0 0 (qA W2N ad s.heap.size)) (F0 m 81 ls [])) ?_ h _ _ hH _ (lv_sub hl [1, 2, 3, 4, 5, 6, 0] rfl)
            intro v20 v21 M22 h H locs hH ls hl
            have h : qOk (kX8_heldBy_L81 v11 v16 x2 x3 v20 v21 M22) _ := h
            unfold kX8_heldBy_L81 at h
            refine lv_iload hx hb dX8_heldBy_81 (lv_at hl 6 rfl) ?_
            refine lv_iconst (v := 3) hx hb dX8_heldBy_83 (by decide) ?_
            refine lv_icmp_ge (tgt := 203) hx hb dX8_heldBy_84 (by decide) (fun hc => ?_) (fun hc => ?_)
            · have h := qOk.t hc h
              exact qOk.le h _ _ hH _ (lv_sub hl [0, 1, 2, 3, 4, 5] rfl)
            · have h := qOk.f hc h
              refine lv_aload_n hx hb dX8_heldBy_87 rfl (lv_at hl 0 rfl) ?_
              refine y_get hx hb hts i_X8 hown hK hH qOb_8 rfl 19 (by decide) f43 rfl dX8_heldBy_88 ?_
              refine lv_sipush (v := 1000) hx hb dX8_heldBy_91 (by decide) ?_
              refine lv_iload hx hb dX8_heldBy_94 (lv_at hl 4 rfl) ?_
              refine lv_bipush (v := 10) hx hb dX8_heldBy_96 (by decide) ?_
              refine lv_irem hx hb dX8_heldBy_98 (by decide) ?_
              refine lv_imul hx hb dX8_heldBy_99 ?_
              refine lv_iload hx hb dX8_heldBy_100 (lv_at hl 5 rfl) ?_
              refine lv_iadd hx hb dX8_heldBy_102 ?_
              refine y_zald hx hb hK hH qMr_12 h dX8_heldBy_103 (fun v25 h => ?_)
              refine lv_if_eq (tgt := 203) hx hb dX8_heldBy_104 (by decide) (fun hc => ?_) (fun hc => ?_)
              · have h := qOk.t hc h
                exact qOk.le h _ _ hH _ (lv_sub hl [0, 1, 2, 3, 4, 5] rfl)
              · have h := qOk.f hc h
                refine lv_iload hx hb dX8_heldBy_107 (lv_at hl 5 rfl) ?_
                refine lv_iload hx hb dX8_heldBy_109 (lv_at hl 6 rfl) ?_
                refine y_cs (va_runS (As := [.int v16, .int v21]) (rest := []) ⟨hx, hb, hml, hown, hts⟩ (c_X8_digit l v16 v21 (qOk.b1 h)) (va_cwS 2 hts gX8_heldBy_X8_digit rfl rfl rfl (by decide +kernel) ⟨Nat.le_of_ble_eq_true rfl, Nat.le_of_ble_eq_true rfl⟩) ⟨qPrT.blind, qPrT.at⟩ rfl rfl hl.1 rfl (lv_room (Nat.le_of_ble_eq_true rfl)) dX8_heldBy_111 ⟨Nat.zero_le _, Nat.zero_le _⟩) (fun v26 h => ?_)
                refine qj2 (G := fun (v27 : Int32) (M28 : qM) => ∀ (H : Heap) (locs : List Loc), qHS W2N e2 G ad M28 s.heap H locs → ∀ ls : Array Slot, lv_has ls 10 [(0, .ref (ad 0)), (2, .int x2), (3, .int x3), (4, .int v27), (5, .int v11), (6, .int v16), (7, .int v21)] → W p l e (headSpec wsX8_heldBy rm_X8_heldBy).room s m [.ref (ad 0), .int x1, .int x2, .int x3].toArray below meth c H locs 0 0 (MQ below (va_Qi P (fun u t => qHp W2N e2 G ad u t.heap) (qA W2N ad s.heap.size)) [.ref (ad 0), .int x1, .int x2, .int x3].toArray s 0 0 (qA W2N ad s.heap.size)) (F0 m 197 ls [])) h ?_ ?_
                rotate_left
                · intro h
                  refine lv_if_ne (tgt := 197) hx hb dX8_heldBy_114 (by decide) (fun hc => ?_) (fun hc => ?_)
                  · have h := qOk.f hc h
                    have h := qOk.s h
                    exact h _ _ hH _ (lv_sub hl [0, 1, 2, 3, 4, 5, 6] rfl)
                  · have h := qOk.t hc h
                    refine lv_iload_n hx hb dX8_heldBy_117 rfl (lv_at hl 1 rfl) ?_
                    refine lv_iload hx hb dX8_heldBy_118 (lv_at hl 6 rfl) ?_
                    refine y_cs (va_runS (As := [.int x2, .int v21]) (rest := []) ⟨hx, hb, hml, hown, hts⟩ (c_X8_digit l x2 v21 (qOk.b1 h)) (va_cwS 2 hts gX8_heldBy_X8_digit rfl rfl rfl (by decide +kernel) ⟨Nat.le_of_ble_eq_true rfl, Nat.le_of_ble_eq_true rfl⟩) ⟨qPrT.blind, qPrT.at⟩ rfl rfl hl.1 rfl (lv_room (Nat.le_of_ble_eq_true rfl)) dX8_heldBy_120 ⟨Nat.zero_le _, Nat.zero_le _⟩) (fun v29 h => ?_)
                    refine lv_istore (lv' := [(8, .int v29), (0, .ref (ad 0)), (2, .int x2), (3, .int x3), (4, .int v20), (5, .int v11), (6, .int v16), (7, .int v21)]) hx hb dX8_heldBy_123 hl (by decide) rfl (fun ls hl => ?_)
                    refine lv_iload hx hb dX8_heldBy_125 (lv_at hl 5 rfl) ?_
                    refine lv_iload hx hb dX8_heldBy_127 (lv_at hl 0 rfl) ?_
                    refine lv_iadd hx hb dX8_heldBy_129 ?_
                    refine lv_bipush (v := 99) hx hb dX8_heldBy_130 (by decide) ?_
                    refine qj1 (G := fun (v30 : Int32) => W p l e (headSpec wsX8_heldBy rm_X8_heldBy).room s m [.ref (ad 0), .int x1, .int x2, .int x3].toArray below meth c H locs 0 0 (MQ below (va_Qi P (fun u t => qHp W2N e2 G ad u t.heap) (qA W2N ad s.heap.size)) [.ref (ad 0), .int x1, .int x2, .int x3].toArray s 0 0 (qA W2N ad s.heap.size)) (F0 m 145 ls [.int v30])) h ?_ ?_
                    rotate_left
                    · intro h
                      refine lv_icmp_le (tgt := 140) hx hb dX8_heldBy_132 (by decide) (fun hc => ?_) (fun hc => ?_)
                      · have h := qOk.t hc h
                        refine lv_iload hx hb dX8_heldBy_140 (lv_at hl 5 rfl) ?_
                        refine lv_iload hx hb dX8_heldBy_142 (lv_at hl 0 rfl) ?_
                        refine lv_iadd hx hb dX8_heldBy_144 ?_
                        have h := qOk.s h
                        exact h
                      · have h := qOk.f hc h
                        refine lv_bipush (v := 99) hx hb dX8_heldBy_135 (by decide) ?_
                        refine lv_goto (tgt := 145) hx hb dX8_heldBy_137 (by decide) ?_
                        have h := qOk.s h
                        exact h
                    intro v30 h
                    refine lv_istore (lv' := [(9, .int v30), (8, .int v29), (0, .ref (ad 0)), (2, .int x2), (3, .int x3), (4, .int v20), (5, .int v11), (6, .int v16), (7, .int v21)]) hx hb dX8_heldBy_145 hl (by decide) rfl (fun ls hl => ?_)
                    refine lv_aload_n hx hb dX8_heldBy_147 rfl (lv_at hl 2 rfl) ?_
                    refine y_get hx hb hts i_X8 hown hK hH qOb_8 rfl 19 (by decide) f43 rfl dX8_heldBy_148 ?_
                    refine lv_sipush (v := 1000) hx hb dX8_heldBy_151 (by decide) ?_
                    refine lv_iload hx hb dX8_heldBy_154 (lv_at hl 6 rfl) ?_
                    refine lv_iload hx hb dX8_heldBy_156 (lv_at hl 1 rfl) ?_
                    refine lv_iadd hx hb dX8_heldBy_158 ?_
                    refine lv_bipush (v := 10) hx hb dX8_heldBy_159 (by decide) ?_
                    refine lv_irem hx hb dX8_heldBy_161 (by decide) ?_
                    refine lv_imul hx hb dX8_heldBy_162 ?_
                    refine lv_iload hx hb dX8_heldBy_163 (lv_at hl 7 rfl) ?_
                    refine lv_iload hx hb dX8_heldBy_165 (lv_at hl 8 rfl) ?_
                    refine lv_iload hx hb dX8_heldBy_167 (lv_at hl 1 rfl) ?_
                    refine lv_iload_n hx hb dX8_heldBy_169 rfl (lv_at hl 4 rfl) ?_
                    refine lv_iload hx hb dX8_heldBy_170 (lv_at hl 8 rfl) ?_
                    refine y_cs (va_runS (As := [.int x3, .int v21]) (rest := [.int v29, .int v21, .int v16, .int (1000 * ((v11 + v29) - (v11 + v29) / 10 * 10)), .ref (ad 12)]) ⟨hx, hb, hml, hown, hts⟩ (c_X8_digit l x3 v21 (qOk.b1 h)) (va_cwS 2 hts gX8_heldBy_X8_digit rfl rfl rfl (by decide +kernel) ⟨Nat.le_of_ble_eq_true rfl, Nat.le_of_ble_eq_true rfl⟩) ⟨qPrT.blind, qPrT.at⟩ rfl rfl hl.1 rfl (lv_room (Nat.le_of_ble_eq_true rfl)) dX8_heldBy_172 ⟨Nat.zero_le _, Nat.zero_le _⟩) (fun v31 h => ?_)
                    refine y_cs (va_runS (As := [.int v16, .int v21, .int v29, .int v31]) (rest := [.int (1000 * ((v11 + v29) - (v11 + v29) / 10 * 10)), .ref (ad 12)]) ⟨hx, hb, hml, hown, hts⟩ (c_X8_rested l v16 v21 v29 v31 (qOk.b1 h)) (va_cwS 4 hts gX8_heldBy_X8_rested rfl rfl rfl (by decide +kernel) ⟨Nat.le_of_ble_eq_true rfl, Nat.le_of_ble_eq_true rfl⟩) ⟨qPrT.blind, qPrT.at⟩ rfl rfl hl.1 rfl (lv_room (Nat.le_of_ble_eq_true rfl)) dX8_heldBy_175 ⟨Nat.zero_le _, Nat.zero_le _⟩) (fun v32 h => ?_)
                    refine lv_iadd hx hb dX8_heldBy_178 ?_
                    refine lv_iconst (v := 1) hx hb dX8_heldBy_179 (by decide) ?_
                    refine y_zast hx hb hK hI hH qMr_12 h dX8_heldBy_180 (fun M33 H locs hH h => ?_)
                    refine lv_iload hx hb dX8_heldBy_181 (lv_at hl 0 rfl) ?_
                    refine lv_iload hx hb dX8_heldBy_183 (lv_at hl 5 rfl) ?_
                    refine qj1 (G := fun (v34 : Int32) => W p l e (headSpec wsX8_heldBy rm_X8_heldBy).room s m [.ref (ad 0), .int x1, .int x2, .int x3].toArray below meth c H locs 0 0 (MQ below (va_Qi P (fun u t => qHp W2N e2 G ad u t.heap) (qA W2N ad s.heap.size)) [.ref (ad 0), .int x1, .int x2, .int x3].toArray s 0 0 (qA W2N ad s.heap.size)) (F0 m 195 ls [.int v34])) h ?_ ?_
                    rotate_left
                    · intro h
                      refine lv_icmp_le (tgt := 193) hx hb dX8_heldBy_185 (by decide) (fun hc => ?_) (fun hc => ?_)
                      · have h := qOk.t hc h
                        refine lv_iload hx hb dX8_heldBy_193 (lv_at hl 5 rfl) ?_
                        have h := qOk.s h
                        exact h
                      · have h := qOk.f hc h
                        refine lv_iload hx hb dX8_heldBy_188 (lv_at hl 0 rfl) ?_
                        refine lv_goto (tgt := 195) hx hb dX8_heldBy_190 (by decide) ?_
                        have h := qOk.s h
                        exact h
                    intro v34 h
                    refine lv_istore (lv' := [(4, .int v34), (9, .int v30), (8, .int v29), (0, .ref (ad 0)), (2, .int x2), (3, .int x3), (5, .int v11), (6, .int v16), (7, .int v21)]) hx hb dX8_heldBy_195 hl (by decide) rfl (fun ls hl => ?_)
                    have h := qOk.s h
                    exact h _ _ hH _ (lv_sub hl [3, 4, 5, 0, 6, 7, 8] rfl)
                intro v27 M28 h H locs hH ls hl
                obtain ⟨v35, ev35⟩ : ∃ y : Int32, y = v21 + 1 := ⟨_, rfl⟩
                have h := qOk.v h ev35
                refine lv_iinc (v := v35) (lv' := [(7, .int v35), (0, .ref (ad 0)), (2, .int x2), (3, .int x3), (4, .int v27), (5, .int v11), (6, .int v16)]) hx hb dX8_heldBy_197 hl (k := 6) rfl (by rw [ev35]; rfl) (by decide) rfl (fun ls hl => ?_)
                refine lv_goto (tgt := 81) hx hb dX8_heldBy_200 (by decide) ?_
                exact qOk.li h _ _ hH _ (lv_sub hl [1, 2, 3, 4, 5, 6, 0] rfl)
          intro v23 M24 h H locs hH ls hl
          refine lv_aload_n hx hb dX8_heldBy_203 rfl (lv_at hl 0 rfl) ?_
          refine y_get hx hb hts i_X8 hown hK hH qOb_8 rfl 19 (by decide) f43 rfl dX8_heldBy_204 ?_
          refine lv_sipush (v := 1000) hx hb dX8_heldBy_207 (by decide) ?_
          refine lv_iload hx hb dX8_heldBy_210 (lv_at hl 4 rfl) ?_
          refine lv_bipush (v := 10) hx hb dX8_heldBy_212 (by decide) ?_
          refine lv_irem hx hb dX8_heldBy_214 (by decide) ?_
          refine lv_imul hx hb dX8_heldBy_215 ?_
          refine lv_iload hx hb dX8_heldBy_216 (lv_at hl 5 rfl) ?_
          refine lv_iadd hx hb dX8_heldBy_218 ?_
          refine lv_iconst (v := 0) hx hb dX8_heldBy_219 (by decide) ?_
          refine y_zast hx hb hK hI hH qMr_12 h dX8_heldBy_220 (fun M36 H locs hH h => ?_)
          obtain ⟨v37, ev37⟩ : ∃ y : Int32, y = v16 + 1 := ⟨_, rfl⟩
          have h := qOk.v h ev37
          refine lv_iinc (v := v37) (lv' := [(6, .int v37), (0, .ref (ad 0)), (2, .int x2), (3, .int x3), (4, .int v23), (5, .int v11)]) hx hb dX8_heldBy_221 hl (k := 5) rfl (by rw [ev37]; rfl) (by decide) rfl (fun ls hl => ?_)
          refine lv_goto (tgt := 70) hx hb dX8_heldBy_224 (by decide) ?_
          exact qOk.li h _ _ hH _ (lv_sub hl [1, 2, 3, 4, 5, 0] rfl)
      intro v18 M19 h H locs hH ls hl
      obtain ⟨v38, ev38⟩ : ∃ y : Int32, y = v11 + 1 := ⟨_, rfl⟩
      have h := qOk.v h ev38
      refine lv_iinc (v := v38) (lv' := [(5, .int v38), (0, .ref (ad 0)), (2, .int x2), (3, .int x3), (4, .int v18)]) hx hb dX8_heldBy_227 hl (k := 4) rfl (by rw [ev38]; rfl) (by decide) rfl (fun ls hl => ?_)
      refine lv_goto (tgt := 60) hx hb dX8_heldBy_230 (by decide) ?_
      exact qOk.li h _ _ hH _ (lv_sub hl [1, 2, 3, 4, 0] rfl)
  intro v13 M14 h H locs hH ls hl
  refine lv_iload hx hb dX8_heldBy_233 (lv_at hl 0 rfl) ?_
  exact W.iret hx hb hr (fun t ht _ => ⟨⟨_, _, rfl, qOk2.s h, qHpt ht hH.1⟩, hH.2.F ht⟩) hH.2.2.2 dX8_heldBy_235
abbrev rm_X8_hold : Room := { frames := 3, cells := 0, slots := 0, locals := 76 }
set_option maxHeartbeats 4000000 in
set_option maxRecDepth 100000 in
theorem c_X8_hold (l : Launch) (G : qG) (ad : Nat → Nat) (hI : qI W2N ad) (M : qM) (sz : Nat) (x1 : Int32) (x2 : Int32) (x3 : Int32) {P : Int32 → qM → Prop} (h : qOk2 (kX8_hold M x1 x2 x3) P) : Met l yX8_hold wsX8_hold rm_X8_hold (va_Pc [.ref (ad 0), .int x1, .int x2, .int x3] (qPre W2N e2 G ad M sz)) (va_Qi P (fun u t => qHp W2N e2 G ad u t.heap) (qA W2N ad sz)) 0 0 (qA W2N ad sz) := by
  refine Met.ofW (cc := cX8_hold) (maxL := 8) (ret := (some .int)) (by decide) rfl ?_
  intro p e s m args below meth c s₁ B hml hv
  obtain ⟨rfl, hsz, hK, hP⟩ := hv
  subst hsz
  have hx := B.exec
  have hb := B.bytes
  have hr := B.returns
  have hts := atoms_spec (ws := wsX8_hold) B.pre
  have hown : s.vm.findClass RX8 = some m.cls := findClass_of_methodNamed B.named
  have hlocks := B.notSynchronized
  have hH : qHS W2N e2 G ad M s.heap s.heap [] := ⟨hP, va_S.rf⟩
  have hl := lv_entry ([.ref (ad 0), .int x1, .int x2, .int x3]) (n := 8) (Nat.le_of_ble_eq_true rfl)
  rw [lg_entry_eq]
  generalize (lg_sl ([.ref (ad 0), .int x1, .int x2, .int x3]) ++ List.replicate (8 - (lg_sl ([.ref (ad 0), .int x1, .int x2, .int x3])).length) Slot.unset).toArray = ls at hl ⊢
  have hl : lv_has ls 8 [(0, .ref (ad 0)), (1, .int x1), (2, .int x2), (3, .int x3)] := hl
  have h : qOk (kX8_hold M x1 x2 x3) _ := h
  unfold kX8_hold at h
  refine lv_iload_n hx hb dX8_hold_0 rfl (lv_at hl 1 rfl) ?_
  refine lv_bipush (v := 111) hx hb dX8_hold_1 (by decide) ?_
  refine lv_sipush (v := 999) hx hb dX8_hold_3 (by decide) ?_
  refine y_cs (va_runS (As := [.int x1, .int 111, .int 999]) (rest := []) ⟨hx, hb, hml, hown, hts⟩ (c_X8_in l x1 111 999 (qOk.b1 h)) (va_cwS 3 hts gX8_hold_X8_in rfl rfl rfl (by decide +kernel) ⟨Nat.le_of_ble_eq_true rfl, Nat.le_of_ble_eq_true rfl⟩) ⟨qPrT.blind, qPrT.at⟩ rfl rfl hl.1 rfl (lv_room (Nat.le_of_ble_eq_true rfl)) dX8_hold_6 ⟨Nat.zero_le _, Nat.zero_le _⟩) (fun v1 h => ?_)
  refine lv_if_eq (tgt := 49) hx hb dX8_hold_9 (by decide) (fun hc => ?_) (fun hc => ?_)
  · have h := qOk.t hc h
    refine lv_bipush (v := (-2)) hx hb dX8_hold_49 (by decide) ?_
    exact W.iret hx hb hr (fun t ht _ => ⟨⟨_, _, rfl, qOk2.s h, qHpt ht hH.1⟩, hH.2.F ht⟩) hH.2.2.2 dX8_hold_51
  · have h := qOk.f hc h
    refine lv_iload_n hx hb dX8_hold_12 rfl (lv_at hl 1 rfl) ?_
    refine lv_bipush (v := 10) hx hb dX8_hold_13 (by decide) ?_
    refine lv_irem hx hb dX8_hold_15 (by decide) ?_
    refine lv_if_eq (tgt := 49) hx hb dX8_hold_16 (by decide) (fun hc => ?_) (fun hc => ?_)
    · have h := qOk.t hc h
      refine lv_bipush (v := (-2)) hx hb dX8_hold_49 (by decide) ?_
      exact W.iret hx hb hr (fun t ht _ => ⟨⟨_, _, rfl, qOk2.s h, qHpt ht hH.1⟩, hH.2.F ht⟩) hH.2.2.2 dX8_hold_51
    · have h := qOk.f hc h
      refine lv_iload_n hx hb dX8_hold_19 rfl (lv_at hl 1 rfl) ?_
      refine lv_bipush (v := 10) hx hb dX8_hold_20 (by decide) ?_
      refine lv_idiv hx hb dX8_hold_22 (by decide) ?_
      refine lv_bipush (v := 10) hx hb dX8_hold_23 (by decide) ?_
      refine lv_irem hx hb dX8_hold_25 (by decide) ?_
      refine lv_if_eq (tgt := 49) hx hb dX8_hold_26 (by decide) (fun hc => ?_) (fun hc => ?_)
      · have h := qOk.t hc h
        refine lv_bipush (v := (-2)) hx hb dX8_hold_49 (by decide) ?_
        exact W.iret hx hb hr (fun t ht _ => ⟨⟨_, _, rfl, qOk2.s h, qHpt ht hH.1⟩, hH.2.F ht⟩) hH.2.2.2 dX8_hold_51
      · have h := qOk.f hc h
        refine lv_iload_n hx hb dX8_hold_29 rfl (lv_at hl 2 rfl) ?_
        refine lv_iconst (v := 0) hx hb dX8_hold_30 (by decide) ?_
        refine lv_sipush (v := 999) hx hb dX8_hold_31 (by decide) ?_
        refine y_cs (va_runS (As := [.int x2, .int 0, .int 999]) (rest := []) ⟨hx, hb, hml, hown, hts⟩ (c_X8_in l x2 0 999 (qOk.b1 h)) (va_cwS 3 hts gX8_hold_X8_in rfl rfl rfl (by decide +kernel) ⟨Nat.le_of_ble_eq_true rfl, Nat.le_of_ble_eq_true rfl⟩) ⟨qPrT.blind, qPrT.at⟩ rfl rfl hl.1 rfl (lv_room (Nat.le_of_ble_eq_true rfl)) dX8_hold_34 ⟨Nat.zero_le _, Nat.zero_le _⟩) (fun v2 h => ?_)
        refine lv_if_eq (tgt := 49) hx hb dX8_hold_37 (by decide) (fun hc => ?_) (fun hc => ?_)
        · have h := qOk.t hc h
          refine lv_bipush (v := (-2)) hx hb dX8_hold_49 (by decide) ?_
          exact W.iret hx hb hr (fun t ht _ => ⟨⟨_, _, rfl, qOk2.s h, qHpt ht hH.1⟩, hH.2.F ht⟩) hH.2.2.2 dX8_hold_51
        · have h := qOk.f hc h
          refine lv_iload_n hx hb dX8_hold_40 rfl (lv_at hl 3 rfl) ?_
          refine lv_iconst (v := 0) hx hb dX8_hold_41 (by decide) ?_
          refine lv_iconst (v := 1) hx hb dX8_hold_42 (by decide) ?_
          refine y_cs (va_runS (As := [.int x3, .int 0, .int 1]) (rest := []) ⟨hx, hb, hml, hown, hts⟩ (c_X8_in l x3 0 1 (qOk.b1 h)) (va_cwS 3 hts gX8_hold_X8_in rfl rfl rfl (by decide +kernel) ⟨Nat.le_of_ble_eq_true rfl, Nat.le_of_ble_eq_true rfl⟩) ⟨qPrT.blind, qPrT.at⟩ rfl rfl hl.1 rfl (lv_room (Nat.le_of_ble_eq_true rfl)) dX8_hold_43 ⟨Nat.zero_le _, Nat.zero_le _⟩) (fun v3 h => ?_)
          refine lv_if_ne (tgt := 52) hx hb dX8_hold_46 (by decide) (fun hc => ?_) (fun hc => ?_)
          · have h := qOk.f hc h
            refine lv_iconst (v := 0) hx hb dX8_hold_52 (by decide) ?_
            refine lv_istore (lv' := [(4, .int 0), (0, .ref (ad 0)), (1, .int x1), (2, .int x2), (3, .int x3)]) hx hb dX8_hold_53 hl (by decide) rfl (fun ls hl => ?_)
            refine lv_iconst (v := 0) hx hb dX8_hold_55 (by decide) ?_
            refine lv_istore (lv' := [(5, .int 0), (4, .int 0), (0, .ref (ad 0)), (1, .int x1), (2, .int x2), (3, .int x3)]) hx hb dX8_hold_56 hl (by decide) rfl (fun ls hl => ?_)
            refine lv_iconst (v := 0) hx hb dX8_hold_58 (by decide) ?_
            refine lv_istore (lv' := [(6, .int 0), (5, .int 0), (4, .int 0), (0, .ref (ad 0)), (1, .int x1), (2, .int x2), (3, .int x3)]) hx hb dX8_hold_59 hl (by decide) rfl (fun ls hl => ?_)
            refine qj3 (G := fun (v8 : Int32) (v9 : Int32) (M10 : qM) => ∀ (H : Heap) (locs : List Loc), qHS W2N e2 G ad M10 s.heap H locs → ∀ ls : Array Slot, lv_has ls 8 [(3, .int x3), (4, .int v8), (5, .int v9)] → W p l e (headSpec wsX8_hold rm_X8_hold).room s m [.ref (ad 0), .int x1, .int x2, .int x3].toArray below meth c H locs 0 0 (MQ below (va_Qi P (fun u t => qHp W2N e2 G ad u t.heap) (qA W2N ad s.heap.size)) [.ref (ad 0), .int x1, .int x2, .int x3].toArray s 0 0 (qA W2N ad s.heap.size)) (F0 m 115 ls [])) h ?_ ?_
            rotate_left
            · intro h
              refine qloop4 (I := fun (v4 : Int32) (v5 : Int32) (v6 : Int32) (M7 : qM) => ∀ (H : Heap) (locs : List Loc), qHS W2N e2 G ad M7 s.heap H locs → ∀ ls : Array Slot, lv_has ls 8 [(0, .ref (ad 0)), (1, .int x1), (2, .int x2), (3, .int x3), (4, .int v4), (5, .int v5), (6, .int v6)] → W p l e (headSpec wsX8_hold rm_X8_hold).room s m [.ref (ad 0), .int x1, .int x2, .int x3].toArray below meth c H locs 0 0 (MQ below (va_Qi P (fun u t => qHp W2N e2 G ad u t.heap) (qA W2N ad s.heap.size)) [.ref (ad 0), .int x1, .int x2, .int x3].toArray s 0 0 (qA W2N ad s.heap.size)) (F0 m 61 ls [])) ?_ h _ _ hH _ (lv_sub hl [3, 4, 5, 6, 2, 1, 0] rfl)
              intro v4 v5 v6 M7 h H locs hH ls hl
              have h : qOk (kX8_hold_L61 x1 x2 v4 v5 v6 M7) _ := h
              unfold kX8_hold_L61 at h
              refine lv_iload hx hb dX8_hold_61 (lv_at hl 6 rfl) ?_
              refine lv_iconst (v := 3) hx hb dX8_hold_63 (by decide) ?_
              refine lv_icmp_ge (tgt := 115) hx hb dX8_hold_64 (by decide) (fun hc => ?_) (fun hc => ?_)
              · have h := qOk.t hc h
                exact qOk.le h _ _ hH _ (lv_sub hl [3, 4, 5] rfl)
              · have h := qOk.f hc h
                refine lv_aload_n hx hb dX8_hold_67 rfl (lv_at hl 0 rfl) ?_
                refine lv_iload hx hb dX8_hold_68 (lv_at hl 6 rfl) ?_
                refine lv_iload_n hx hb dX8_hold_70 rfl (lv_at hl 1 rfl) ?_
                refine lv_iload_n hx hb dX8_hold_71 rfl (lv_at hl 2 rfl) ?_
                refine y_ci hH (va_runV (As := [.int v6, .int x1, .int x2]) (rest := []) ⟨hx, hb, hml, hown, hts⟩ (c_X8_heldBy l G ad hI M7 _ v6 x1 x2 (qOk.b2 h)) (cwV 3 hts gX8_hold_X8_heldBy rfl rfl rfl (by decide +kernel) ⟨Nat.le_of_ble_eq_true rfl, Nat.le_of_ble_eq_true rfl⟩) ⟨qPre.blind, qrecv hK hH qOb_8 rfl, qPre.at hK hH⟩ rfl rfl hl.1 rfl (lv_room (Nat.le_of_ble_eq_true rfl)) dX8_hold_72 ⟨Nat.zero_le _, Nat.zero_le _⟩) (fun v12 M11 H locs hH h => ?_)
                refine lv_istore (lv' := [(7, .int v12), (0, .ref (ad 0)), (1, .int x1), (2, .int x2), (3, .int x3), (4, .int v4), (5, .int v5), (6, .int v6)]) hx hb dX8_hold_75 hl (by decide) rfl (fun ls hl => ?_)
                refine lv_iload hx hb dX8_hold_77 (lv_at hl 0 rfl) ?_
                refine lv_iload hx hb dX8_hold_79 (lv_at hl 5 rfl) ?_
                refine qj1 (G := fun (v13 : Int32) => W p l e (headSpec wsX8_hold rm_X8_hold).room s m [.ref (ad 0), .int x1, .int x2, .int x3].toArray below meth c H locs 0 0 (MQ below (va_Qi P (fun u t => qHp W2N e2 G ad u t.heap) (qA W2N ad s.heap.size)) [.ref (ad 0), .int x1, .int x2, .int x3].toArray s 0 0 (qA W2N ad s.heap.size)) (F0 m 91 ls [.int v13])) h ?_ ?_
                rotate_left
                · intro h
                  refine lv_icmp_le (tgt := 89) hx hb dX8_hold_81 (by decide) (fun hc => ?_) (fun hc => ?_)
                  · have h := qOk.t hc h
                    refine lv_iload hx hb dX8_hold_89 (lv_at hl 6 rfl) ?_
                    have h := qOk.s h
                    exact h
                  · have h := qOk.f hc h
                    refine lv_iload hx hb dX8_hold_84 (lv_at hl 7 rfl) ?_
                    refine lv_goto (tgt := 91) hx hb dX8_hold_86 (by decide) ?_
                    have h := qOk.s h
                    exact h
                intro v13 h
                refine lv_istore (lv' := [(5, .int v13), (7, .int v12), (0, .ref (ad 0)), (1, .int x1), (2, .int x2), (3, .int x3), (4, .int v4), (6, .int v6)]) hx hb dX8_hold_91 hl (by decide) rfl (fun ls hl => ?_)
                refine lv_iload hx hb dX8_hold_93 (lv_at hl 1 rfl) ?_
                refine lv_iload hx hb dX8_hold_95 (lv_at hl 6 rfl) ?_
                refine qj1 (G := fun (v14 : Int32) => W p l e (headSpec wsX8_hold rm_X8_hold).room s m [.ref (ad 0), .int x1, .int x2, .int x3].toArray below meth c H locs 0 0 (MQ below (va_Qi P (fun u t => qHp W2N e2 G ad u t.heap) (qA W2N ad s.heap.size)) [.ref (ad 0), .int x1, .int x2, .int x3].toArray s 0 0 (qA W2N ad s.heap.size)) (F0 m 107 ls [.int v14])) h ?_ ?_
                rotate_left
                · intro h
                  refine lv_icmp_le (tgt := 105) hx hb dX8_hold_97 (by decide) (fun hc => ?_) (fun hc => ?_)
                  · have h := qOk.t hc h
                    refine lv_iload hx hb dX8_hold_105 (lv_at hl 6 rfl) ?_
                    have h := qOk.s h
                    exact h
                  · have h := qOk.f hc h
                    refine lv_iload hx hb dX8_hold_100 (lv_at hl 1 rfl) ?_
                    refine lv_goto (tgt := 107) hx hb dX8_hold_102 (by decide) ?_
                    have h := qOk.s h
                    exact h
                intro v14 h
                refine lv_istore (lv' := [(4, .int v14), (5, .int v13), (7, .int v12), (0, .ref (ad 0)), (1, .int x1), (2, .int x2), (3, .int x3), (6, .int v6)]) hx hb dX8_hold_107 hl (by decide) rfl (fun ls hl => ?_)
                obtain ⟨v15, ev15⟩ : ∃ y : Int32, y = v6 + 1 := ⟨_, rfl⟩
                have h := qOk.v h ev15
                refine lv_iinc (v := v15) (lv' := [(6, .int v15), (4, .int v14), (5, .int v13), (7, .int v12), (0, .ref (ad 0)), (1, .int x1), (2, .int x2), (3, .int x3)]) hx hb dX8_hold_109 hl (k := 7) rfl (by rw [ev15]; rfl) (by decide) rfl (fun ls hl => ?_)
                refine lv_goto (tgt := 61) hx hb dX8_hold_112 (by decide) ?_
                exact qOk.li h _ _ hH _ (lv_sub hl [4, 5, 6, 7, 1, 2, 0] rfl)
            intro v8 v9 M10 h H locs hH ls hl
            refine lv_iload_n hx hb dX8_hold_115 rfl (lv_at hl 0 rfl) ?_
            refine qj1 (G := fun (v16 : Int32) => W p l e (headSpec wsX8_hold rm_X8_hold).room s m [.ref (ad 0), .int x1, .int x2, .int x3].toArray below meth c H locs 0 0 (MQ below (va_Qi P (fun u t => qHp W2N e2 G ad u t.heap) (qA W2N ad s.heap.size)) [.ref (ad 0), .int x1, .int x2, .int x3].toArray s 0 0 (qA W2N ad s.heap.size)) (F0 m 126 ls [.int v16])) h ?_ ?_
            rotate_left
            · intro h
              refine lv_if_ne (tgt := 124) hx hb dX8_hold_116 (by decide) (fun hc => ?_) (fun hc => ?_)
              · have h := qOk.f hc h
                refine lv_iload hx hb dX8_hold_124 (lv_at hl 2 rfl) ?_
                have h := qOk.s h
                exact h
              · have h := qOk.t hc h
                refine lv_iload hx hb dX8_hold_119 (lv_at hl 1 rfl) ?_
                refine lv_goto (tgt := 126) hx hb dX8_hold_121 (by decide) ?_
                have h := qOk.s h
                exact h
            intro v16 h
            exact W.iret hx hb hr (fun t ht _ => ⟨⟨_, _, rfl, qOk2.s h, qHpt ht hH.1⟩, hH.2.F ht⟩) hH.2.2.2 dX8_hold_126
          · have h := qOk.t hc h
            refine lv_bipush (v := (-2)) hx hb dX8_hold_49 (by decide) ?_
            exact W.iret hx hb hr (fun t ht _ => ⟨⟨_, _, rfl, qOk2.s h, qHpt ht hH.1⟩, hH.2.F ht⟩) hH.2.2.2 dX8_hold_51
abbrev rm_X8_round : Room := { frames := 1, cells := 0, slots := 0, locals := 22 }
set_option maxHeartbeats 4000000 in
set_option maxRecDepth 100000 in
theorem c_X8_round (l : Launch) (G : qG) (ad : Nat → Nat) (hI : qI W2N ad) (M : qM) (sz : Nat) (x1 : Int32) (x2 : Int32) (x3 : Int32) (x4 : Int32) {P : Int32 → Prop} (h : qOk (kX8_round M x1 x2 x3 x4) P) : Met l yX8_round wsX8_round rm_X8_round (va_Pc [.ref (ad 0), .int x1, .int x2, .int x3, .int x4] (qPre W2N e2 G ad M sz)) (vp_Si P) 0 0 (fun _ => False) := by
  refine Met.ofW (cc := cX8_round) (maxL := 6) (ret := (some .int)) (by decide) rfl ?_
  intro p e s m args below meth c s₁ B hml hv
  obtain ⟨rfl, hsz, hK, hP⟩ := hv
  subst hsz
  have hx := B.exec
  have hb := B.bytes
  have hr := B.returns
  have hts := atoms_spec (ws := wsX8_round) B.pre
  have hown : s.vm.findClass RX8 = some m.cls := findClass_of_methodNamed B.named
  have hlocks := B.notSynchronized
  have hH : qHS W2N e2 G ad M s.heap s.heap [] := ⟨hP, va_S.rf⟩
  have hl := lv_entry ([.ref (ad 0), .int x1, .int x2, .int x3, .int x4]) (n := 6) (Nat.le_of_ble_eq_true rfl)
  rw [lg_entry_eq]
  generalize (lg_sl ([.ref (ad 0), .int x1, .int x2, .int x3, .int x4]) ++ List.replicate (6 - (lg_sl ([.ref (ad 0), .int x1, .int x2, .int x3, .int x4])).length) Slot.unset).toArray = ls at hl ⊢
  have hl : lv_has ls 6 [(0, .ref (ad 0)), (1, .int x1), (2, .int x2), (3, .int x3), (4, .int x4)] := hl
  have h : qOk (kX8_round M x1 x2 x3 x4) _ := h
  unfold kX8_round at h
  refine lv_iload_n hx hb dX8_round_0 rfl (lv_at hl 1 rfl) ?_
  refine lv_iconst (v := 1) hx hb dX8_round_1 (by decide) ?_
  refine lv_bipush (v := 99) hx hb dX8_round_2 (by decide) ?_
  refine y_cs (va_runS (As := [.int x1, .int 1, .int 99]) (rest := []) ⟨hx, hb, hml, hown, hts⟩ (c_X8_in l x1 1 99 (qOk.b1 h)) (va_cwS 3 hts gX8_round_X8_in rfl rfl rfl (by decide +kernel) ⟨Nat.le_of_ble_eq_true rfl, Nat.le_of_ble_eq_true rfl⟩) ⟨qPrT.blind, qPrT.at⟩ rfl rfl hl.1 rfl (lv_room (Nat.le_of_ble_eq_true rfl)) dX8_round_4 ⟨Nat.zero_le _, Nat.zero_le _⟩) (fun v1 h => ?_)
  refine lv_if_eq (tgt := 41) hx hb dX8_round_7 (by decide) (fun hc => ?_) (fun hc => ?_)
  · have h := qOk.t hc h
    refine lv_bipush (v := (-2)) hx hb dX8_round_41 (by decide) ?_
    exact W.iret hx hb hr (fun t ht _ => ⟨_, rfl, qOk.s h, ht⟩) (fun _ hq => by cases hq) dX8_round_43
  · have h := qOk.f hc h
    refine lv_iload_n hx hb dX8_round_10 rfl (lv_at hl 3 rfl) ?_
    refine lv_iconst (v := 1) hx hb dX8_round_11 (by decide) ?_
    refine lv_bipush (v := 99) hx hb dX8_round_12 (by decide) ?_
    refine y_cs (va_runS (As := [.int x3, .int 1, .int 99]) (rest := []) ⟨hx, hb, hml, hown, hts⟩ (c_X8_in l x3 1 99 (qOk.b1 h)) (va_cwS 3 hts gX8_round_X8_in rfl rfl rfl (by decide +kernel) ⟨Nat.le_of_ble_eq_true rfl, Nat.le_of_ble_eq_true rfl⟩) ⟨qPrT.blind, qPrT.at⟩ rfl rfl hl.1 rfl (lv_room (Nat.le_of_ble_eq_true rfl)) dX8_round_14 ⟨Nat.zero_le _, Nat.zero_le _⟩) (fun v2 h => ?_)
    refine lv_if_eq (tgt := 41) hx hb dX8_round_17 (by decide) (fun hc => ?_) (fun hc => ?_)
    · have h := qOk.t hc h
      refine lv_bipush (v := (-2)) hx hb dX8_round_41 (by decide) ?_
      exact W.iret hx hb hr (fun t ht _ => ⟨_, rfl, qOk.s h, ht⟩) (fun _ hq => by cases hq) dX8_round_43
    · have h := qOk.f hc h
      refine lv_iload_n hx hb dX8_round_20 rfl (lv_at hl 2 rfl) ?_
      refine lv_iconst (v := 0) hx hb dX8_round_21 (by decide) ?_
      refine lv_bipush (v := 99) hx hb dX8_round_22 (by decide) ?_
      refine y_cs (va_runS (As := [.int x2, .int 0, .int 99]) (rest := []) ⟨hx, hb, hml, hown, hts⟩ (c_X8_in l x2 0 99 (qOk.b1 h)) (va_cwS 3 hts gX8_round_X8_in rfl rfl rfl (by decide +kernel) ⟨Nat.le_of_ble_eq_true rfl, Nat.le_of_ble_eq_true rfl⟩) ⟨qPrT.blind, qPrT.at⟩ rfl rfl hl.1 rfl (lv_room (Nat.le_of_ble_eq_true rfl)) dX8_round_24 ⟨Nat.zero_le _, Nat.zero_le _⟩) (fun v3 h => ?_)
      refine lv_if_eq (tgt := 41) hx hb dX8_round_27 (by decide) (fun hc => ?_) (fun hc => ?_)
      · have h := qOk.t hc h
        refine lv_bipush (v := (-2)) hx hb dX8_round_41 (by decide) ?_
        exact W.iret hx hb hr (fun t ht _ => ⟨_, rfl, qOk.s h, ht⟩) (fun _ hq => by cases hq) dX8_round_43
      · have h := qOk.f hc h
        refine lv_iload hx hb dX8_round_30 (lv_at hl 4 rfl) ?_
        refine lv_iconst (v := 0) hx hb dX8_round_32 (by decide) ?_
        refine lv_bipush (v := 99) hx hb dX8_round_33 (by decide) ?_
        refine y_cs (va_runS (As := [.int x4, .int 0, .int 99]) (rest := []) ⟨hx, hb, hml, hown, hts⟩ (c_X8_in l x4 0 99 (qOk.b1 h)) (va_cwS 3 hts gX8_round_X8_in rfl rfl rfl (by decide +kernel) ⟨Nat.le_of_ble_eq_true rfl, Nat.le_of_ble_eq_true rfl⟩) ⟨qPrT.blind, qPrT.at⟩ rfl rfl hl.1 rfl (lv_room (Nat.le_of_ble_eq_true rfl)) dX8_round_35 ⟨Nat.zero_le _, Nat.zero_le _⟩) (fun v4 h => ?_)
        refine lv_if_ne (tgt := 44) hx hb dX8_round_38 (by decide) (fun hc => ?_) (fun hc => ?_)
        · have h := qOk.f hc h
          refine lv_iconst (v := 0) hx hb dX8_round_44 (by decide) ?_
          refine lv_istore (lv' := [(5, .int 0), (0, .ref (ad 0)), (1, .int x1), (2, .int x2), (3, .int x3), (4, .int x4)]) hx hb dX8_round_45 hl (by decide) rfl (fun ls hl => ?_)
          refine qjx0 (G := ∀ ls : Array Slot, lv_has ls 6 [] → W p l e (headSpec wsX8_round rm_X8_round).room s m [.ref (ad 0), .int x1, .int x2, .int x3, .int x4].toArray below meth c s.heap [] 0 0 (MQ below (vp_Si P) [.ref (ad 0), .int x1, .int x2, .int x3, .int x4].toArray s 0 0 (fun _ => False)) (F0 m 83 ls [])) h ?_ ?_
          rotate_left
          · intro h
            refine qloop1 (I := fun (v5 : Int32) => ∀ ls : Array Slot, lv_has ls 6 [(1, .int x1), (2, .int x2), (3, .int x3), (4, .int x4), (5, .int v5)] → W p l e (headSpec wsX8_round rm_X8_round).room s m [.ref (ad 0), .int x1, .int x2, .int x3, .int x4].toArray below meth c s.heap [] 0 0 (MQ below (vp_Si P) [.ref (ad 0), .int x1, .int x2, .int x3, .int x4].toArray s 0 0 (fun _ => False)) (F0 m 47 ls [])) ?_ h _ (lv_sub hl [2, 3, 4, 5, 0] rfl)
            intro v5 h ls hl
            have h : qOk (kX8_round_L47 x1 x3 x2 x4 v5) _ := h
            unfold kX8_round_L47 at h
            refine lv_iload hx hb dX8_round_47 (lv_at hl 4 rfl) ?_
            refine lv_iload_n hx hb dX8_round_49 rfl (lv_at hl 0 rfl) ?_
            refine lv_iload_n hx hb dX8_round_50 rfl (lv_at hl 2 rfl) ?_
            refine lv_imul hx hb dX8_round_51 ?_
            refine lv_icmp_ge (tgt := 83) hx hb dX8_round_52 (by decide) (fun hc => ?_) (fun hc => ?_)
            · have h := qOk.t hc h
              exact qOk.lx h _ (lv_sub hl [] rfl)
            · have h := qOk.f hc h
              refine lv_iload hx hb dX8_round_55 (lv_at hl 4 rfl) ?_
              refine lv_iload_n hx hb dX8_round_57 rfl (lv_at hl 1 rfl) ?_
              refine lv_iadd hx hb dX8_round_58 ?_
              refine lv_iload_n hx hb dX8_round_59 rfl (lv_at hl 0 rfl) ?_
              obtain ⟨hz, h⟩ := qOk.nz h
              refine lv_irem hx hb dX8_round_60 hz ?_
              refine lv_if_ne (tgt := 77) hx hb dX8_round_61 (by decide) (fun hc => ?_) (fun hc => ?_)
              · have h := qOk.f hc h
                obtain ⟨v6, ev6⟩ : ∃ y : Int32, y = v5 + 1 := ⟨_, rfl⟩
                have h := qOk.v h ev6
                refine lv_iinc (v := v6) (lv' := [(5, .int v6), (1, .int x1), (2, .int x2), (3, .int x3), (4, .int x4)]) hx hb dX8_round_77 hl (k := 4) rfl (by rw [ev6]; rfl) (by decide) rfl (fun ls hl => ?_)
                refine lv_goto (tgt := 47) hx hb dX8_round_80 (by decide) ?_
                exact qOk.li h _ (lv_sub hl [1, 2, 3, 4, 0] rfl)
              · have h := qOk.t hc h
                refine lv_iload hx hb dX8_round_64 (lv_at hl 4 rfl) ?_
                refine lv_iload hx hb dX8_round_66 (lv_at hl 3 rfl) ?_
                refine lv_iadd hx hb dX8_round_68 ?_
                refine lv_iload_n hx hb dX8_round_69 rfl (lv_at hl 2 rfl) ?_
                obtain ⟨hz, h⟩ := qOk.nz h
                refine lv_irem hx hb dX8_round_70 hz ?_
                refine lv_if_ne (tgt := 77) hx hb dX8_round_71 (by decide) (fun hc => ?_) (fun hc => ?_)
                · have h := qOk.f hc h
                  obtain ⟨v7, ev7⟩ : ∃ y : Int32, y = v5 + 1 := ⟨_, rfl⟩
                  have h := qOk.v h ev7
                  refine lv_iinc (v := v7) (lv' := [(5, .int v7), (1, .int x1), (2, .int x2), (3, .int x3), (4, .int x4)]) hx hb dX8_round_77 hl (k := 4) rfl (by rw [ev7]; rfl) (by decide) rfl (fun ls hl => ?_)
                  refine lv_goto (tgt := 47) hx hb dX8_round_80 (by decide) ?_
                  exact qOk.li h _ (lv_sub hl [1, 2, 3, 4, 0] rfl)
                · have h := qOk.t hc h
                  refine lv_iload hx hb dX8_round_74 (lv_at hl 4 rfl) ?_
                  have h := qOk.lr h
                  exact W.iret hx hb hr (fun t ht _ => ⟨_, rfl, qOk.s h, ht⟩) (fun _ hq => by cases hq) dX8_round_76
          intro  h ls hl
          refine lv_bipush (v := (-6)) hx hb dX8_round_83 (by decide) ?_
          exact W.iret hx hb hr (fun t ht _ => ⟨_, rfl, qOk.s h, ht⟩) (fun _ hq => by cases hq) dX8_round_85
        · have h := qOk.t hc h
          refine lv_bipush (v := (-2)) hx hb dX8_round_41 (by decide) ?_
          exact W.iret hx hb hr (fun t ht _ => ⟨_, rfl, qOk.s h, ht⟩) (fun _ hq => by cases hq) dX8_round_43
abbrev rm_X8_layApart : Room := { frames := 2, cells := 0, slots := 0, locals := 46 }
set_option maxHeartbeats 4000000 in
set_option maxRecDepth 100000 in
theorem c_X8_layApart (l : Launch) (G : qG) (ad : Nat → Nat) (hI : qI W2N ad) (M : qM) (sz : Nat) {P : qM → Prop} (h : qOk (kX8_layApart M) P) : Met l yX8_layApart wsX8_layApart rm_X8_layApart (va_Pc [.ref (ad 0)] (qPre W2N e2 G ad M sz)) (va_Qv P (fun u t => qHp W2N e2 G ad u t.heap) (qA W2N ad sz)) 0 0 (qA W2N ad sz) := by
  refine Met.ofW (cc := cX8_layApart) (maxL := 3) (ret := none) (by decide) rfl ?_
  intro p e s m args below meth c s₁ B hml hv
  obtain ⟨rfl, hsz, hK, hP⟩ := hv
  subst hsz
  have hx := B.exec
  have hb := B.bytes
  have hr := B.returns
  have hts := atoms_spec (ws := wsX8_layApart) B.pre
  have hown : s.vm.findClass RX8 = some m.cls := findClass_of_methodNamed B.named
  have hlocks := B.notSynchronized
  have hH : qHS W2N e2 G ad M s.heap s.heap [] := ⟨hP, va_S.rf⟩
  have f7 : (Cond.fieldLink RX8 7 "SongLampsModel" "book" "[I").before [.ref (ad 0)].toArray s = true := hts _ (by decide +kernel)
  have i_X8 : ∀ w ∈ wsX80, w ∈ wsX8_layApart := fun w hw => List.mem_cons_of_mem _ ((List.mem_append_right _ hw))
  have f47 : (Cond.fieldLink RX8 47 "SongLampsModel" "apart" "[I").before [.ref (ad 0)].toArray s = true := hts _ (by decide +kernel)
  have f40 : (Cond.fieldLink RX8 40 "SongLampsModel" "far" "[I").before [.ref (ad 0)].toArray s = true := hts _ (by decide +kernel)
  have hl := lv_entry ([.ref (ad 0)]) (n := 3) (Nat.le_of_ble_eq_true rfl)
  rw [lg_entry_eq]
  generalize (lg_sl ([.ref (ad 0)]) ++ List.replicate (3 - (lg_sl ([.ref (ad 0)])).length) Slot.unset).toArray = ls at hl ⊢
  have hl : lv_has ls 3 [(0, .ref (ad 0))] := hl
  have h : qOk (kX8_layApart M) _ := h
  unfold kX8_layApart at h
  refine lv_iconst (v := 0) hx hb dX8_layApart_0 (by decide) ?_
  refine lv_istore_n (lv' := [(1, .int 0), (0, .ref (ad 0))]) hx hb dX8_layApart_1 rfl hl (by decide) rfl (fun ls hl => ?_)
  refine qj1 (G := fun (M3 : qM) => ∀ (H : Heap) (locs : List Loc), qHS W2N e2 G ad M3 s.heap H locs → ∀ ls : Array Slot, lv_has ls 3 [] → W p l e (headSpec wsX8_layApart rm_X8_layApart).room s m [.ref (ad 0)].toArray below meth c H locs 0 0 (MQ below (va_Qv P (fun u t => qHp W2N e2 G ad u t.heap) (qA W2N ad s.heap.size)) [.ref (ad 0)].toArray s 0 0 (qA W2N ad s.heap.size)) (F0 m 63 ls [])) h ?_ ?_
  rotate_left
  · intro h
    refine qloop2 (I := fun (v1 : Int32) (M2 : qM) => ∀ (H : Heap) (locs : List Loc), qHS W2N e2 G ad M2 s.heap H locs → ∀ ls : Array Slot, lv_has ls 3 [(0, .ref (ad 0)), (1, .int v1)] → W p l e (headSpec wsX8_layApart rm_X8_layApart).room s m [.ref (ad 0)].toArray below meth c H locs 0 0 (MQ below (va_Qv P (fun u t => qHp W2N e2 G ad u t.heap) (qA W2N ad s.heap.size)) [.ref (ad 0)].toArray s 0 0 (qA W2N ad s.heap.size)) (F0 m 2 ls [])) ?_ h _ _ hH _ (lv_sub hl [1, 0] rfl)
    intro v1 M2 h H locs hH ls hl
    have h : qOk (kX8_layApart_L2 v1 M2) _ := h
    unfold kX8_layApart_L2 at h
    refine lv_iload_n hx hb dX8_layApart_2 rfl (lv_at hl 1 rfl) ?_
    refine lv_bipush (v := 10) hx hb dX8_layApart_3 (by decide) ?_
    refine lv_icmp_ge (tgt := 63) hx hb dX8_layApart_5 (by decide) (fun hc => ?_) (fun hc => ?_)
    · have h := qOk.t hc h
      exact qOk.le h _ _ hH _ (lv_sub hl [] rfl)
    · have h := qOk.f hc h
      refine lv_aload_n hx hb dX8_layApart_8 rfl (lv_at hl 0 rfl) ?_
      refine lv_iload_n hx hb dX8_layApart_9 rfl (lv_at hl 1 rfl) ?_
      refine lv_sipush (v := 1023) hx hb dX8_layApart_10 (by decide) ?_
      refine lv_aload_n hx hb dX8_layApart_13 rfl (lv_at hl 0 rfl) ?_
      refine y_get hx hb hts i_X8 hown hK hH qOb_8 rfl 0 (by decide) f7 rfl dX8_layApart_14 ?_
      refine lv_bipush (v := 34) hx hb dX8_layApart_17 (by decide) ?_
      refine y_iald hx hb hK hH qMr_1 h dX8_layApart_19 (fun v4 h => ?_)
      refine lv_iconst (v := (-1)) hx hb dX8_layApart_20 (by decide) ?_
      refine lv_ixor hx hb dX8_layApart_21 ?_
      refine lv_iand hx hb dX8_layApart_22 ?_
      refine y_cv hH (va_runV (As := [.int v1, .int (1023 &&& (v4 ^^^ (-1)))]) (rest := []) ⟨hx, hb, hml, hown, hts⟩ (c_X8_layFar l G ad hI M2 _ v1 (1023 &&& (v4 ^^^ (-1))) (qOk.b1 h)) (cwV 2 hts gX8_layApart_X8_layFar rfl rfl rfl (by decide +kernel) ⟨Nat.le_of_ble_eq_true rfl, Nat.le_of_ble_eq_true rfl⟩) ⟨qPre.blind, qrecv hK hH qOb_8 rfl, qPre.at hK hH⟩ rfl rfl hl.1 rfl (lv_room (Nat.le_of_ble_eq_true rfl)) dX8_layApart_23 ⟨Nat.zero_le _, Nat.zero_le _⟩) (fun M5 H locs hH h => ?_)
      refine lv_iconst (v := 0) hx hb dX8_layApart_26 (by decide) ?_
      refine lv_istore_n (lv' := [(2, .int 0), (0, .ref (ad 0)), (1, .int v1)]) hx hb dX8_layApart_27 rfl hl (by decide) rfl (fun ls hl => ?_)
      refine qj1 (G := fun (M8 : qM) => ∀ (H : Heap) (locs : List Loc), qHS W2N e2 G ad M8 s.heap H locs → ∀ ls : Array Slot, lv_has ls 3 [(0, .ref (ad 0)), (1, .int v1)] → W p l e (headSpec wsX8_layApart rm_X8_layApart).room s m [.ref (ad 0)].toArray below meth c H locs 0 0 (MQ below (va_Qv P (fun u t => qHp W2N e2 G ad u t.heap) (qA W2N ad s.heap.size)) [.ref (ad 0)].toArray s 0 0 (qA W2N ad s.heap.size)) (F0 m 57 ls [])) h ?_ ?_
      rotate_left
      · intro h
        refine qloop2 (I := fun (v6 : Int32) (M7 : qM) => ∀ (H : Heap) (locs : List Loc), qHS W2N e2 G ad M7 s.heap H locs → ∀ ls : Array Slot, lv_has ls 3 [(0, .ref (ad 0)), (1, .int v1), (2, .int v6)] → W p l e (headSpec wsX8_layApart rm_X8_layApart).room s m [.ref (ad 0)].toArray below meth c H locs 0 0 (MQ below (va_Qv P (fun u t => qHp W2N e2 G ad u t.heap) (qA W2N ad s.heap.size)) [.ref (ad 0)].toArray s 0 0 (qA W2N ad s.heap.size)) (F0 m 28 ls [])) ?_ h _ _ hH _ (lv_sub hl [1, 2, 0] rfl)
        intro v6 M7 h H locs hH ls hl
        have h : qOk (kX8_layApart_L28 v1 v6 M7) _ := h
        unfold kX8_layApart_L28 at h
        refine lv_iload_n hx hb dX8_layApart_28 rfl (lv_at hl 2 rfl) ?_
        refine lv_bipush (v := 10) hx hb dX8_layApart_29 (by decide) ?_
        refine lv_icmp_ge (tgt := 57) hx hb dX8_layApart_31 (by decide) (fun hc => ?_) (fun hc => ?_)
        · have h := qOk.t hc h
          exact qOk.le h _ _ hH _ (lv_sub hl [0, 1] rfl)
        · have h := qOk.f hc h
          refine lv_aload_n hx hb dX8_layApart_34 rfl (lv_at hl 0 rfl) ?_
          refine y_get hx hb hts i_X8 hown hK hH qOb_8 rfl 20 (by decide) f47 rfl dX8_layApart_35 ?_
          refine lv_bipush (v := 10) hx hb dX8_layApart_38 (by decide) ?_
          refine lv_iload_n hx hb dX8_layApart_40 rfl (lv_at hl 1 rfl) ?_
          refine lv_imul hx hb dX8_layApart_41 ?_
          refine lv_iload_n hx hb dX8_layApart_42 rfl (lv_at hl 2 rfl) ?_
          refine lv_iadd hx hb dX8_layApart_43 ?_
          refine lv_aload_n hx hb dX8_layApart_44 rfl (lv_at hl 0 rfl) ?_
          refine y_get hx hb hts i_X8 hown hK hH qOb_8 rfl 18 (by decide) f40 rfl dX8_layApart_45 ?_
          refine lv_iload_n hx hb dX8_layApart_48 rfl (lv_at hl 2 rfl) ?_
          refine y_iald hx hb hK hH qMr_11 h dX8_layApart_49 (fun v9 h => ?_)
          refine y_iast hx hb hK hI hH qMr_13 h dX8_layApart_50 (fun M10 H locs hH h => ?_)
          obtain ⟨v11, ev11⟩ : ∃ y : Int32, y = v6 + 1 := ⟨_, rfl⟩
          have h := qOk.v h ev11
          refine lv_iinc (v := v11) (lv' := [(2, .int v11), (0, .ref (ad 0)), (1, .int v1)]) hx hb dX8_layApart_51 hl (k := 2) rfl (by rw [ev11]; rfl) (by decide) rfl (fun ls hl => ?_)
          refine lv_goto (tgt := 28) hx hb dX8_layApart_54 (by decide) ?_
          exact qOk.li h _ _ hH _ (lv_sub hl [1, 2, 0] rfl)
      intro M8 h H locs hH ls hl
      obtain ⟨v12, ev12⟩ : ∃ y : Int32, y = v1 + 1 := ⟨_, rfl⟩
      have h := qOk.v h ev12
      refine lv_iinc (v := v12) (lv' := [(1, .int v12), (0, .ref (ad 0))]) hx hb dX8_layApart_57 hl (k := 1) rfl (by rw [ev12]; rfl) (by decide) rfl (fun ls hl => ?_)
      refine lv_goto (tgt := 2) hx hb dX8_layApart_60 (by decide) ?_
      exact qOk.li h _ _ hH _ (lv_sub hl [1, 0] rfl)
  intro M3 h H locs hH ls hl
  exact W.vret hx hb hr (fun t ht _ => ⟨⟨_, rfl, qOk.s h, qHpt ht hH.1⟩, hH.2.F ht⟩) hH.2.2.2 dX8_layApart_63
abbrev rm_X8_heard : Room := { frames := 2, cells := 0, slots := 0, locals := 42 }
set_option maxHeartbeats 4000000 in
set_option maxRecDepth 100000 in
theorem c_X8_heard (l : Launch) (G : qG) (ad : Nat → Nat) (hI : qI W2N ad) (M : qM) (sz : Nat) (x1 : Int32) (x2 : Int32) {P : Int32 → qM → Prop} (h : qOk2 (kX8_heard M x1 x2) P) : Met l yX8_heard wsX8_heard rm_X8_heard (va_Pc [.ref (ad 0), .int x1, .int x2] (qPre W2N e2 G ad M sz)) (va_Qi P (fun u t => qHp W2N e2 G ad u t.heap) (qA W2N ad sz)) 0 0 (qA W2N ad sz) := by
  refine Met.ofW (cc := cX8_heard) (maxL := 3) (ret := (some .int)) (by decide) rfl ?_
  intro p e s m args below meth c s₁ B hml hv
  obtain ⟨rfl, hsz, hK, hP⟩ := hv
  subst hsz
  have hx := B.exec
  have hb := B.bytes
  have hr := B.returns
  have hts := atoms_spec (ws := wsX8_heard) B.pre
  have hown : s.vm.findClass RX8 = some m.cls := findClass_of_methodNamed B.named
  have hlocks := B.notSynchronized
  have hH : qHS W2N e2 G ad M s.heap s.heap [] := ⟨hP, va_S.rf⟩
  have f160 : (Cond.fieldLink RX8 160 "SongLampsModel" "sights" "I").before [.ref (ad 0), .int x1, .int x2].toArray s = true := hts _ (by decide +kernel)
  have i_X8 : ∀ w ∈ wsX80, w ∈ wsX8_heard := fun w hw => List.mem_cons_of_mem _ ((List.mem_append_right _ hw))
  have f31 : (Cond.fieldLink RX8 31 "SongLampsModel" "sight" "[I").before [.ref (ad 0), .int x1, .int x2].toArray s = true := hts _ (by decide +kernel)
  have hl := lv_entry ([.ref (ad 0), .int x1, .int x2]) (n := 3) (Nat.le_of_ble_eq_true rfl)
  rw [lg_entry_eq]
  generalize (lg_sl ([.ref (ad 0), .int x1, .int x2]) ++ List.replicate (3 - (lg_sl ([.ref (ad 0), .int x1, .int x2])).length) Slot.unset).toArray = ls at hl ⊢
  have hl : lv_has ls 3 [(0, .ref (ad 0)), (1, .int x1), (2, .int x2)] := hl
  have h : qOk (kX8_heard M x1 x2) _ := h
  unfold kX8_heard at h
  refine lv_iload_n hx hb dX8_heard_0 rfl (lv_at hl 1 rfl) ?_
  refine y_cs (va_runS (As := [.int x1]) (rest := []) ⟨hx, hb, hml, hown, hts⟩ (c_X8_isGallery l x1 (qOk.b1 h)) (va_cwS 1 hts gX8_heard_X8_isGallery rfl rfl rfl (by decide +kernel) ⟨Nat.le_of_ble_eq_true rfl, Nat.le_of_ble_eq_true rfl⟩) ⟨qPrT.blind, qPrT.at⟩ rfl rfl hl.1 rfl (lv_room (Nat.le_of_ble_eq_true rfl)) dX8_heard_1 ⟨Nat.zero_le _, Nat.zero_le _⟩) (fun v1 h => ?_)
  refine lv_if_ne (tgt := 9) hx hb dX8_heard_4 (by decide) (fun hc => ?_) (fun hc => ?_)
  · have h := qOk.f hc h
    refine lv_iload_n hx hb dX8_heard_9 rfl (lv_at hl 2 rfl) ?_
    refine lv_iconst (v := (-1)) hx hb dX8_heard_10 (by decide) ?_
    refine lv_bipush (v := 23) hx hb dX8_heard_11 (by decide) ?_
    refine y_cs (va_runS (As := [.int x2, .int (-1), .int 23]) (rest := []) ⟨hx, hb, hml, hown, hts⟩ (c_X8_in l x2 (-1) 23 (qOk.b1 h)) (va_cwS 3 hts gX8_heard_X8_in rfl rfl rfl (by decide +kernel) ⟨Nat.le_of_ble_eq_true rfl, Nat.le_of_ble_eq_true rfl⟩) ⟨qPrT.blind, qPrT.at⟩ rfl rfl hl.1 rfl (lv_room (Nat.le_of_ble_eq_true rfl)) dX8_heard_13 ⟨Nat.zero_le _, Nat.zero_le _⟩) (fun v2 h => ?_)
    refine lv_if_ne (tgt := 22) hx hb dX8_heard_16 (by decide) (fun hc => ?_) (fun hc => ?_)
    · have h := qOk.f hc h
      refine lv_aload_n hx hb dX8_heard_22 rfl (lv_at hl 0 rfl) ?_
      refine y_get hx hb hts i_X8 hown hK hH qOb_8 rfl 9 (by decide) f160 rfl dX8_heard_23 ?_
      refine lv_bipush (v := 8) hx hb dX8_heard_26 (by decide) ?_
      refine lv_icmp_ne (tgt := 34) hx hb dX8_heard_28 (by decide) (fun hc => ?_) (fun hc => ?_)
      · have h := qOk.f hc h
        refine lv_aload_n hx hb dX8_heard_34 rfl (lv_at hl 0 rfl) ?_
        refine y_get hx hb hts i_X8 hown hK hH qOb_8 rfl 10 (by decide) f31 rfl dX8_heard_35 ?_
        refine lv_iconst (v := 2) hx hb dX8_heard_38 (by decide) ?_
        refine lv_aload_n hx hb dX8_heard_39 rfl (lv_at hl 0 rfl) ?_
        refine y_get hx hb hts i_X8 hown hK hH qOb_8 rfl 9 (by decide) f160 rfl dX8_heard_40 ?_
        refine lv_imul hx hb dX8_heard_43 ?_
        refine lv_iload_n hx hb dX8_heard_44 rfl (lv_at hl 1 rfl) ?_
        refine y_iast hx hb hK hI hH qMr_8 h dX8_heard_45 (fun M3 H locs hH h => ?_)
        refine lv_aload_n hx hb dX8_heard_46 rfl (lv_at hl 0 rfl) ?_
        refine y_get hx hb hts i_X8 hown hK hH qOb_8 rfl 10 (by decide) f31 rfl dX8_heard_47 ?_
        refine lv_iconst (v := 2) hx hb dX8_heard_50 (by decide) ?_
        refine lv_aload_n hx hb dX8_heard_51 rfl (lv_at hl 0 rfl) ?_
        refine y_get hx hb hts i_X8 hown hK hH qOb_8 rfl 9 (by decide) f160 rfl dX8_heard_52 ?_
        refine lv_imul hx hb dX8_heard_55 ?_
        refine lv_iconst (v := 1) hx hb dX8_heard_56 (by decide) ?_
        refine lv_iadd hx hb dX8_heard_57 ?_
        refine lv_iload_n hx hb dX8_heard_58 rfl (lv_at hl 2 rfl) ?_
        refine y_iast hx hb hK hI hH qMr_8 h dX8_heard_59 (fun M4 H locs hH h => ?_)
        refine lv_aload_n hx hb dX8_heard_60 rfl (lv_at hl 0 rfl) ?_
        refine lv_dup hx hb dX8_heard_61 rfl ?_
        refine y_get hx hb hts i_X8 hown hK hH qOb_8 rfl 9 (by decide) f160 rfl dX8_heard_62 ?_
        refine lv_iconst (v := 1) hx hb dX8_heard_65 (by decide) ?_
        refine lv_iadd hx hb dX8_heard_66 ?_
        refine y_put hx hb hts i_X8 tyX8 tyX8_ok nmX8 hown hK hI hH qOb_8 rfl 9 (by decide) f160 rfl (by decide +kernel) (Nat.le_of_ble_eq_true rfl) (fun _ => rfl) h dX8_heard_67 (fun M5 H locs hH h => ?_)
        refine lv_aload_n hx hb dX8_heard_70 rfl (lv_at hl 0 rfl) ?_
        refine y_get hx hb hts i_X8 hown hK hH qOb_8 rfl 9 (by decide) f160 rfl dX8_heard_71 ?_
        exact W.iret hx hb hr (fun t ht _ => ⟨⟨_, _, rfl, qOk2.s h, qHpt ht hH.1⟩, hH.2.F ht⟩) hH.2.2.2 dX8_heard_74
      · have h := qOk.t hc h
        refine lv_bipush (v := (-4)) hx hb dX8_heard_31 (by decide) ?_
        exact W.iret hx hb hr (fun t ht _ => ⟨⟨_, _, rfl, qOk2.s h, qHpt ht hH.1⟩, hH.2.F ht⟩) hH.2.2.2 dX8_heard_33
    · have h := qOk.t hc h
      refine lv_bipush (v := (-2)) hx hb dX8_heard_19 (by decide) ?_
      exact W.iret hx hb hr (fun t ht _ => ⟨⟨_, _, rfl, qOk2.s h, qHpt ht hH.1⟩, hH.2.F ht⟩) hH.2.2.2 dX8_heard_21
  · have h := qOk.t hc h
    refine lv_iconst (v := (-1)) hx hb dX8_heard_7 (by decide) ?_
    exact W.iret hx hb hr (fun t ht _ => ⟨⟨_, _, rfl, qOk2.s h, qHpt ht hH.1⟩, hH.2.F ht⟩) hH.2.2.2 dX8_heard_8
abbrev rm_X8_forget : Room := { frames := 0, cells := 0, slots := 0, locals := 0 }
set_option maxHeartbeats 4000000 in
set_option maxRecDepth 100000 in
theorem c_X8_forget (l : Launch) (G : qG) (ad : Nat → Nat) (hI : qI W2N ad) (M : qM) (sz : Nat) {P : Int32 → qM → Prop} (h : qOk2 (kX8_forget M) P) : Met l yX8_forget wsX8_forget rm_X8_forget (va_Pc [.ref (ad 0)] (qPre W2N e2 G ad M sz)) (va_Qi P (fun u t => qHp W2N e2 G ad u t.heap) (qA W2N ad sz)) 0 0 (qA W2N ad sz) := by
  refine Met.ofW (cc := cX8_forget) (maxL := 2) (ret := (some .int)) (by decide) rfl ?_
  intro p e s m args below meth c s₁ B hml hv
  obtain ⟨rfl, hsz, hK, hP⟩ := hv
  subst hsz
  have hx := B.exec
  have hb := B.bytes
  have hr := B.returns
  have hts := atoms_spec (ws := wsX8_forget) B.pre
  have hown : s.vm.findClass RX8 = some m.cls := findClass_of_methodNamed B.named
  have hlocks := B.notSynchronized
  have hH : qHS W2N e2 G ad M s.heap s.heap [] := ⟨hP, va_S.rf⟩
  have f160 : (Cond.fieldLink RX8 160 "SongLampsModel" "sights" "I").before [.ref (ad 0)].toArray s = true := hts _ (by decide +kernel)
  have i_X8 : ∀ w ∈ wsX80, w ∈ wsX8_forget := fun w hw => List.mem_cons_of_mem _ ((List.mem_append_right _ hw))
  have hl := lv_entry ([.ref (ad 0)]) (n := 2) (Nat.le_of_ble_eq_true rfl)
  rw [lg_entry_eq]
  generalize (lg_sl ([.ref (ad 0)]) ++ List.replicate (2 - (lg_sl ([.ref (ad 0)])).length) Slot.unset).toArray = ls at hl ⊢
  have hl : lv_has ls 2 [(0, .ref (ad 0))] := hl
  have h : qOk (kX8_forget M) _ := h
  unfold kX8_forget at h
  refine lv_aload_n hx hb dX8_forget_0 rfl (lv_at hl 0 rfl) ?_
  refine y_get hx hb hts i_X8 hown hK hH qOb_8 rfl 9 (by decide) f160 rfl dX8_forget_1 ?_
  refine lv_topi (fun v1 ev1 => ?_)
  have h := qOk.v h ev1
  refine lv_istore_n (lv' := [(1, .int v1), (0, .ref (ad 0))]) hx hb dX8_forget_4 rfl hl (by decide) rfl (fun ls hl => ?_)
  refine lv_aload_n hx hb dX8_forget_5 rfl (lv_at hl 1 rfl) ?_
  refine lv_iconst (v := 0) hx hb dX8_forget_6 (by decide) ?_
  refine y_put hx hb hts i_X8 tyX8 tyX8_ok nmX8 hown hK hI hH qOb_8 rfl 9 (by decide) f160 rfl (by decide +kernel) (Nat.le_of_ble_eq_true rfl) (fun _ => rfl) h dX8_forget_7 (fun M2 H locs hH h => ?_)
  refine lv_iload_n hx hb dX8_forget_10 rfl (lv_at hl 0 rfl) ?_
  exact W.iret hx hb hr (fun t ht _ => ⟨⟨_, _, rfl, qOk2.s h, qHpt ht hH.1⟩, hH.2.F ht⟩) hH.2.2.2 dX8_forget_11
abbrev rm_X8_noteIn : Room := { frames := 0, cells := 0, slots := 0, locals := 0 }
set_option maxHeartbeats 4000000 in
set_option maxRecDepth 100000 in
theorem c_X8_noteIn (l : Launch) (G : qG) (ad : Nat → Nat) (hI : qI W2N ad) (M : qM) (sz : Nat) (x1 : Int32) (x2 : Int32) {P : Int32 → Prop} (h : qOk (kX8_noteIn M x1 x2) P) : Met l yX8_noteIn wsX8_noteIn rm_X8_noteIn (va_Pc [.ref (ad 0), .int x1, .int x2] (qPre W2N e2 G ad M sz)) (vp_Si P) 0 0 (fun _ => False) := by
  refine Met.ofW (cc := cX8_noteIn) (maxL := 4) (ret := (some .int)) (by decide) rfl ?_
  intro p e s m args below meth c s₁ B hml hv
  obtain ⟨rfl, hsz, hK, hP⟩ := hv
  subst hsz
  have hx := B.exec
  have hb := B.bytes
  have hr := B.returns
  have hts := atoms_spec (ws := wsX8_noteIn) B.pre
  have hown : s.vm.findClass RX8 = some m.cls := findClass_of_methodNamed B.named
  have hlocks := B.notSynchronized
  have hH : qHS W2N e2 G ad M s.heap s.heap [] := ⟨hP, va_S.rf⟩
  have f47 : (Cond.fieldLink RX8 47 "SongLampsModel" "apart" "[I").before [.ref (ad 0), .int x1, .int x2].toArray s = true := hts _ (by decide +kernel)
  have i_X8 : ∀ w ∈ wsX80, w ∈ wsX8_noteIn := fun w hw => List.mem_cons_of_mem _ ((List.mem_append_right _ hw))
  have hl := lv_entry ([.ref (ad 0), .int x1, .int x2]) (n := 4) (Nat.le_of_ble_eq_true rfl)
  rw [lg_entry_eq]
  generalize (lg_sl ([.ref (ad 0), .int x1, .int x2]) ++ List.replicate (4 - (lg_sl ([.ref (ad 0), .int x1, .int x2])).length) Slot.unset).toArray = ls at hl ⊢
  have hl : lv_has ls 4 [(0, .ref (ad 0)), (1, .int x1), (2, .int x2)] := hl
  have h : qOk (kX8_noteIn M x1 x2) _ := h
  unfold kX8_noteIn at h
  refine lv_iload_n hx hb dX8_noteIn_0 rfl (lv_at hl 1 rfl) ?_
  refine lv_bipush (v := 100) hx hb dX8_noteIn_1 (by decide) ?_
  refine lv_irem hx hb dX8_noteIn_3 (by decide) ?_
  refine lv_aload_n hx hb dX8_noteIn_4 rfl (lv_at hl 0 rfl) ?_
  refine y_get hx hb hts i_X8 hown hK hH qOb_8 rfl 20 (by decide) f47 rfl dX8_noteIn_5 ?_
  refine lv_iload_n hx hb dX8_noteIn_8 rfl (lv_at hl 1 rfl) ?_
  refine lv_bipush (v := 100) hx hb dX8_noteIn_9 (by decide) ?_
  refine lv_idiv hx hb dX8_noteIn_11 (by decide) ?_
  refine lv_bipush (v := 10) hx hb dX8_noteIn_12 (by decide) ?_
  refine lv_imul hx hb dX8_noteIn_14 ?_
  refine lv_iload_n hx hb dX8_noteIn_15 rfl (lv_at hl 2 rfl) ?_
  refine lv_iadd hx hb dX8_noteIn_16 ?_
  refine y_iald hx hb hK hH qMr_13 h dX8_noteIn_17 (fun v1 h => ?_)
  refine lv_isub hx hb dX8_noteIn_18 ?_
  refine lv_topi (fun v2 ev2 => ?_)
  have h := qOk.v h ev2
  refine lv_istore_n (lv' := [(3, .int v2), (0, .ref (ad 0)), (1, .int x1), (2, .int x2)]) hx hb dX8_noteIn_19 rfl hl (by decide) rfl (fun ls hl => ?_)
  refine lv_iload_n hx hb dX8_noteIn_20 rfl (lv_at hl 0 rfl) ?_
  refine qj1 (G := fun (v3 : Int32) => W p l e (headSpec wsX8_noteIn rm_X8_noteIn).room s m [.ref (ad 0), .int x1, .int x2].toArray below meth c s.heap [] 0 0 (MQ below (vp_Si P) [.ref (ad 0), .int x1, .int x2].toArray s 0 0 (fun _ => False)) (F0 m 29 ls [.int v3])) h ?_ ?_
  rotate_left
  · intro h
    refine lv_if_ge (tgt := 28) hx hb dX8_noteIn_21 (by decide) (fun hc => ?_) (fun hc => ?_)
    · have h := qOk.t hc h
      refine lv_iload_n hx hb dX8_noteIn_28 rfl (lv_at hl 0 rfl) ?_
      have h := qOk.s h
      exact h
    · have h := qOk.f hc h
      refine lv_iconst (v := (-1)) hx hb dX8_noteIn_24 (by decide) ?_
      refine lv_goto (tgt := 29) hx hb dX8_noteIn_25 (by decide) ?_
      have h := qOk.s h
      exact h
  intro v3 h
  exact W.iret hx hb hr (fun t ht _ => ⟨_, rfl, qOk.s h, ht⟩) (fun _ hq => by cases hq) dX8_noteIn_29
