abbrev rm_X8_isLost : Room := { frames := 1, cells := 0, slots := 0, locals := 23 }
set_option maxHeartbeats 4000000 in
set_option maxRecDepth 100000 in
theorem c_X8_isLost (l : Launch) (G : qG) (ad : Nat → Nat) (hI : qI W2N ad) (M : qM) (sz : Nat) (x1 : Int32) {P : Int32 → Prop} (h : qOk (kX8_isLost M x1) P) : Met l yX8_isLost wsX8_isLost rm_X8_isLost (va_Pc [.ref (ad 0), .int x1] (qPre W2N e2 G ad M sz)) (vp_Si P) 0 0 (fun _ => False) := by
  refine Met.ofW (cc := cX8_isLost) (maxL := 4) (ret := (some .boolean)) (by decide) rfl ?_
  intro p e s m args below meth c s₁ B hml hv
  obtain ⟨rfl, hsz, hK, hP⟩ := hv
  subst hsz
  have hx := B.exec
  have hb := B.bytes
  have hr := B.returns
  have hts := atoms_spec (ws := wsX8_isLost) B.pre
  have hown : s.vm.findClass RX8 = some m.cls := findClass_of_methodNamed B.named
  have hlocks := B.notSynchronized
  have hH : qHS W2N e2 G ad M s.heap s.heap [] := ⟨hP, va_S.rf⟩
  have f160 : (Cond.fieldLink RX8 160 "SongLampsModel" "sights" "I").before [.ref (ad 0), .int x1].toArray s = true := hts _ (by decide +kernel)
  have i_X8 : ∀ w ∈ wsX80, w ∈ wsX8_isLost := fun w hw => List.mem_cons_of_mem _ ((List.mem_append_right _ hw))
  have f31 : (Cond.fieldLink RX8 31 "SongLampsModel" "sight" "[I").before [.ref (ad 0), .int x1].toArray s = true := hts _ (by decide +kernel)
  have hl := lv_entry ([.ref (ad 0), .int x1]) (n := 4) (Nat.le_of_ble_eq_true rfl)
  rw [lg_entry_eq]
  generalize (lg_sl ([.ref (ad 0), .int x1]) ++ List.replicate (4 - (lg_sl ([.ref (ad 0), .int x1])).length) Slot.unset).toArray = ls at hl ⊢
  have hl : lv_has ls 4 [(0, .ref (ad 0)), (1, .int x1)] := hl
  have h : qOk (kX8_isLost M x1) _ := h
  unfold kX8_isLost at h
  refine lv_iload_n hx hb dX8_isLost_0 rfl (lv_at hl 1 rfl) ?_
  refine lv_bipush (v := 100) hx hb dX8_isLost_1 (by decide) ?_
  refine lv_irem hx hb dX8_isLost_3 (by decide) ?_
  refine lv_bipush (v := 24) hx hb dX8_isLost_4 (by decide) ?_
  refine qj1 (G := fun (v1 : Int32) => W p l e (headSpec wsX8_isLost rm_X8_isLost).room s m [.ref (ad 0), .int x1].toArray below meth c s.heap [] 0 0 (MQ below (vp_Si P) [.ref (ad 0), .int x1].toArray s 0 0 (fun _ => False)) (F0 m 14 ls [.int v1])) h ?_ ?_
  rotate_left
  · intro h
    refine lv_icmp_ge (tgt := 13) hx hb dX8_isLost_6 (by decide) (fun hc => ?_) (fun hc => ?_)
    · have h := qOk.t hc h
      refine lv_iconst (v := 0) hx hb dX8_isLost_13 (by decide) ?_
      have h := qOk.s h
      exact h
    · have h := qOk.f hc h
      refine lv_iconst (v := 1) hx hb dX8_isLost_9 (by decide) ?_
      refine lv_goto (tgt := 14) hx hb dX8_isLost_10 (by decide) ?_
      have h := qOk.s h
      exact h
  intro v1 h
  refine lv_istore_n (lv' := [(2, .int v1), (0, .ref (ad 0)), (1, .int x1)]) hx hb dX8_isLost_14 rfl hl (by decide) rfl (fun ls hl => ?_)
  refine lv_iconst (v := 0) hx hb dX8_isLost_15 (by decide) ?_
  refine lv_istore_n (lv' := [(3, .int 0), (2, .int v1), (0, .ref (ad 0)), (1, .int x1)]) hx hb dX8_isLost_16 rfl hl (by decide) rfl (fun ls hl => ?_)
  refine qj1 (G := fun (v4 : Int32) => ∀ ls : Array Slot, lv_has ls 4 [(2, .int v4)] → W p l e (headSpec wsX8_isLost rm_X8_isLost).room s m [.ref (ad 0), .int x1].toArray below meth c s.heap [] 0 0 (MQ below (vp_Si P) [.ref (ad 0), .int x1].toArray s 0 0 (fun _ => False)) (F0 m 67 ls [])) h ?_ ?_
  rotate_left
  · intro h
    refine qloop2 (I := fun (v2 : Int32) (v3 : Int32) => ∀ ls : Array Slot, lv_has ls 4 [(0, .ref (ad 0)), (1, .int x1), (2, .int v2), (3, .int v3)] → W p l e (headSpec wsX8_isLost rm_X8_isLost).room s m [.ref (ad 0), .int x1].toArray below meth c s.heap [] 0 0 (MQ below (vp_Si P) [.ref (ad 0), .int x1].toArray s 0 0 (fun _ => False)) (F0 m 17 ls [])) ?_ h _ (lv_sub hl [2, 3, 1, 0] rfl)
    intro v2 v3 h ls hl
    have h : qOk (kX8_isLost_L17 M x1 v2 v3) _ := h
    unfold kX8_isLost_L17 at h
    refine lv_iload_n hx hb dX8_isLost_17 rfl (lv_at hl 3 rfl) ?_
    refine lv_aload_n hx hb dX8_isLost_18 rfl (lv_at hl 0 rfl) ?_
    refine y_get hx hb hts i_X8 hown hK hH qOb_8 rfl 9 (by decide) f160 rfl dX8_isLost_19 ?_
    refine lv_icmp_ge (tgt := 67) hx hb dX8_isLost_22 (by decide) (fun hc => ?_) (fun hc => ?_)
    · have h := qOk.t hc h
      exact qOk.le h _ (lv_sub hl [2] rfl)
    · have h := qOk.f hc h
      refine lv_iload_n hx hb dX8_isLost_25 rfl (lv_at hl 2 rfl) ?_
      refine lv_if_eq (tgt := 67) hx hb dX8_isLost_26 (by decide) (fun hc => ?_) (fun hc => ?_)
      · have h := qOk.t hc h
        exact qOk.le h _ (lv_sub hl [2] rfl)
      · have h := qOk.f hc h
        refine lv_aload_n hx hb dX8_isLost_29 rfl (lv_at hl 0 rfl) ?_
        refine lv_iload_n hx hb dX8_isLost_30 rfl (lv_at hl 1 rfl) ?_
        refine lv_aload_n hx hb dX8_isLost_31 rfl (lv_at hl 0 rfl) ?_
        refine y_get hx hb hts i_X8 hown hK hH qOb_8 rfl 10 (by decide) f31 rfl dX8_isLost_32 ?_
        refine lv_iconst (v := 2) hx hb dX8_isLost_35 (by decide) ?_
        refine lv_iload_n hx hb dX8_isLost_36 rfl (lv_at hl 3 rfl) ?_
        refine lv_imul hx hb dX8_isLost_37 ?_
        refine y_iald hx hb hK hH qMr_8 h dX8_isLost_38 (fun v5 h => ?_)
        refine y_cs (va_runV (As := [.int x1, .int v5]) (rest := []) ⟨hx, hb, hml, hown, hts⟩ (c_X8_noteIn l G ad hI M _ x1 v5 (qOk.b1 h)) (cwV 2 hts gX8_isLost_X8_noteIn rfl rfl rfl (by decide +kernel) ⟨Nat.le_of_ble_eq_true rfl, Nat.le_of_ble_eq_true rfl⟩) ⟨qPre.blind, qrecv hK hH qOb_8 rfl, qPre.at hK hH⟩ rfl rfl hl.1 rfl (lv_room (Nat.le_of_ble_eq_true rfl)) dX8_isLost_39 ⟨Nat.zero_le _, Nat.zero_le _⟩) (fun v6 h => ?_)
        refine lv_aload_n hx hb dX8_isLost_42 rfl (lv_at hl 0 rfl) ?_
        refine y_get hx hb hts i_X8 hown hK hH qOb_8 rfl 10 (by decide) f31 rfl dX8_isLost_43 ?_
        refine lv_iconst (v := 2) hx hb dX8_isLost_46 (by decide) ?_
        refine lv_iload_n hx hb dX8_isLost_47 rfl (lv_at hl 3 rfl) ?_
        refine lv_imul hx hb dX8_isLost_48 ?_
        refine lv_iconst (v := 1) hx hb dX8_isLost_49 (by decide) ?_
        refine lv_iadd hx hb dX8_isLost_50 ?_
        refine y_iald hx hb hK hH qMr_8 h dX8_isLost_51 (fun v7 h => ?_)
        refine qj1 (G := fun (v8 : Int32) => W p l e (headSpec wsX8_isLost rm_X8_isLost).room s m [.ref (ad 0), .int x1].toArray below meth c s.heap [] 0 0 (MQ below (vp_Si P) [.ref (ad 0), .int x1].toArray s 0 0 (fun _ => False)) (F0 m 60 ls [.int v8])) h ?_ ?_
        rotate_left
        · intro h
          refine lv_icmp_ne (tgt := 59) hx hb dX8_isLost_52 (by decide) (fun hc => ?_) (fun hc => ?_)
          · have h := qOk.f hc h
            refine lv_iconst (v := 0) hx hb dX8_isLost_59 (by decide) ?_
            have h := qOk.s h
            exact h
          · have h := qOk.t hc h
            refine lv_iconst (v := 1) hx hb dX8_isLost_55 (by decide) ?_
            refine lv_goto (tgt := 60) hx hb dX8_isLost_56 (by decide) ?_
            have h := qOk.s h
            exact h
        intro v8 h
        refine lv_istore_n (lv' := [(2, .int v8), (0, .ref (ad 0)), (1, .int x1), (3, .int v3)]) hx hb dX8_isLost_60 rfl hl (by decide) rfl (fun ls hl => ?_)
        obtain ⟨v9, ev9⟩ : ∃ y : Int32, y = v3 + 1 := ⟨_, rfl⟩
        have h := qOk.v h ev9
        refine lv_iinc (v := v9) (lv' := [(3, .int v9), (2, .int v8), (0, .ref (ad 0)), (1, .int x1)]) hx hb dX8_isLost_61 hl (k := 3) rfl (by rw [ev9]; rfl) (by decide) rfl (fun ls hl => ?_)
        refine lv_goto (tgt := 17) hx hb dX8_isLost_64 (by decide) ?_
        exact qOk.li h _ (lv_sub hl [2, 3, 1, 0] rfl)
  intro v4 h ls hl
  refine lv_iload_n hx hb dX8_isLost_67 rfl (lv_at hl 0 rfl) ?_
  obtain ⟨hbn, h⟩ := qOk.bl h
  exact W.zret hx hb hr (qnarb hbn) (fun t ht _ => ⟨_, rfl, qOk.s h, ht⟩) (fun _ hq => by cases hq) dX8_isLost_68
abbrev rm_X8_losts : Room := { frames := 3, cells := 0, slots := 0, locals := 68 }
set_option maxHeartbeats 4000000 in
set_option maxRecDepth 100000 in
theorem c_X8_losts (l : Launch) (G : qG) (ad : Nat → Nat) (hI : qI W2N ad) (M : qM) (sz : Nat) (x1 : Int32) {P : Int32 → qM → Prop} (h : qOk2 (kX8_losts M x1) P) : Met l yX8_losts wsX8_losts rm_X8_losts (va_Pc [.ref (ad 0), .int x1] (qPre W2N e2 G ad M sz)) (va_Qi P (fun u t => qHp W2N e2 G ad u t.heap) (qA W2N ad sz)) 0 0 (qA W2N ad sz) := by
  refine Met.ofW (cc := cX8_losts) (maxL := 4) (ret := (some .int)) (by decide) rfl ?_
  intro p e s m args below meth c s₁ B hml hv
  obtain ⟨rfl, hsz, hK, hP⟩ := hv
  subst hsz
  have hx := B.exec
  have hb := B.bytes
  have hr := B.returns
  have hts := atoms_spec (ws := wsX8_losts) B.pre
  have hown : s.vm.findClass RX8 = some m.cls := findClass_of_methodNamed B.named
  have hlocks := B.notSynchronized
  have hH : qHS W2N e2 G ad M s.heap s.heap [] := ⟨hP, va_S.rf⟩
  have hl := lv_entry ([.ref (ad 0), .int x1]) (n := 4) (Nat.le_of_ble_eq_true rfl)
  rw [lg_entry_eq]
  generalize (lg_sl ([.ref (ad 0), .int x1]) ++ List.replicate (4 - (lg_sl ([.ref (ad 0), .int x1])).length) Slot.unset).toArray = ls at hl ⊢
  have hl : lv_has ls 4 [(0, .ref (ad 0)), (1, .int x1)] := hl
  have h : qOk (kX8_losts M x1) _ := h
  unfold kX8_losts at h
  refine lv_aload_n hx hb dX8_losts_0 rfl (lv_at hl 0 rfl) ?_
  refine y_cv hH (va_runV (As := []) (rest := []) ⟨hx, hb, hml, hown, hts⟩ (c_X8_layApart l G ad hI M _  (qOk.b1 h)) (cwV 0 hts gX8_losts_X8_layApart rfl rfl rfl (by decide +kernel) ⟨Nat.le_of_ble_eq_true rfl, Nat.le_of_ble_eq_true rfl⟩) ⟨qPre.blind, qrecv hK hH qOb_8 rfl, qPre.at hK hH⟩ rfl rfl hl.1 rfl (lv_room (Nat.le_of_ble_eq_true rfl)) dX8_losts_1 ⟨Nat.zero_le _, Nat.zero_le _⟩) (fun M1 H locs hH h => ?_)
  refine lv_iconst (v := 0) hx hb dX8_losts_4 (by decide) ?_
  refine lv_istore_n (lv' := [(2, .int 0), (0, .ref (ad 0)), (1, .int x1)]) hx hb dX8_losts_5 rfl hl (by decide) rfl (fun ls hl => ?_)
  refine lv_iconst (v := 0) hx hb dX8_losts_6 (by decide) ?_
  refine lv_istore_n (lv' := [(3, .int 0), (2, .int 0), (0, .ref (ad 0)), (1, .int x1)]) hx hb dX8_losts_7 rfl hl (by decide) rfl (fun ls hl => ?_)
  refine qjx1 (G := fun (v4 : Int32) => ∀ ls : Array Slot, lv_has ls 4 [(1, .int x1), (2, .int v4)] → W p l e (headSpec wsX8_losts rm_X8_losts).room s m [.ref (ad 0), .int x1].toArray below meth c H locs 0 0 (MQ below (va_Qi P (fun u t => qHp W2N e2 G ad u t.heap) (qA W2N ad s.heap.size)) [.ref (ad 0), .int x1].toArray s 0 0 (qA W2N ad s.heap.size)) (F0 m 39 ls [])) h ?_ ?_
  rotate_left
  · intro h
    refine qloop2 (I := fun (v2 : Int32) (v3 : Int32) => ∀ ls : Array Slot, lv_has ls 4 [(0, .ref (ad 0)), (1, .int x1), (2, .int v2), (3, .int v3)] → W p l e (headSpec wsX8_losts rm_X8_losts).room s m [.ref (ad 0), .int x1].toArray below meth c H locs 0 0 (MQ below (va_Qi P (fun u t => qHp W2N e2 G ad u t.heap) (qA W2N ad s.heap.size)) [.ref (ad 0), .int x1].toArray s 0 0 (qA W2N ad s.heap.size)) (F0 m 8 ls [])) ?_ h _ (lv_sub hl [2, 3, 1, 0] rfl)
    intro v2 v3 h ls hl
    have h : qOk (kX8_losts_L8 M1 x1 v2 v3) _ := h
    unfold kX8_losts_L8 at h
    refine lv_iload_n hx hb dX8_losts_8 rfl (lv_at hl 3 rfl) ?_
    refine lv_sipush (v := 1000) hx hb dX8_losts_9 (by decide) ?_
    refine lv_icmp_ge (tgt := 39) hx hb dX8_losts_12 (by decide) (fun hc => ?_) (fun hc => ?_)
    · have h := qOk.t hc h
      exact qOk.lx h _ (lv_sub hl [1, 2] rfl)
    · have h := qOk.f hc h
      refine lv_aload_n hx hb dX8_losts_15 rfl (lv_at hl 0 rfl) ?_
      refine lv_iload_n hx hb dX8_losts_16 rfl (lv_at hl 3 rfl) ?_
      refine y_cs (va_runV (As := [.int v3]) (rest := []) ⟨hx, hb, hml, hown, hts⟩ (c_X8_isLost l G ad hI M1 _ v3 (qOk.b1 h)) (cwV 1 hts gX8_losts_X8_isLost rfl rfl rfl (by decide +kernel) ⟨Nat.le_of_ble_eq_true rfl, Nat.le_of_ble_eq_true rfl⟩) ⟨qPre.blind, qrecv hK hH qOb_8 rfl, qPre.at hK hH⟩ rfl rfl hl.1 rfl (lv_room (Nat.le_of_ble_eq_true rfl)) dX8_losts_17 ⟨Nat.zero_le _, Nat.zero_le _⟩) (fun v5 h => ?_)
      refine lv_if_eq (tgt := 33) hx hb dX8_losts_20 (by decide) (fun hc => ?_) (fun hc => ?_)
      · have h := qOk.t hc h
        obtain ⟨v6, ev6⟩ : ∃ y : Int32, y = v3 + 1 := ⟨_, rfl⟩
        have h := qOk.v h ev6
        refine lv_iinc (v := v6) (lv' := [(3, .int v6), (0, .ref (ad 0)), (1, .int x1), (2, .int v2)]) hx hb dX8_losts_33 hl (k := 3) rfl (by rw [ev6]; rfl) (by decide) rfl (fun ls hl => ?_)
        refine lv_goto (tgt := 8) hx hb dX8_losts_36 (by decide) ?_
        exact qOk.li h _ (lv_sub hl [1, 2, 3, 0] rfl)
      · have h := qOk.f hc h
        refine lv_iload_n hx hb dX8_losts_23 rfl (lv_at hl 2 rfl) ?_
        refine lv_iload_n hx hb dX8_losts_24 rfl (lv_at hl 1 rfl) ?_
        refine lv_icmp_ne (tgt := 30) hx hb dX8_losts_25 (by decide) (fun hc => ?_) (fun hc => ?_)
        · have h := qOk.f hc h
          obtain ⟨v7, ev7⟩ : ∃ y : Int32, y = v2 + 1 := ⟨_, rfl⟩
          have h := qOk.v h ev7
          refine lv_iinc (v := v7) (lv' := [(2, .int v7), (0, .ref (ad 0)), (1, .int x1), (3, .int v3)]) hx hb dX8_losts_30 hl (k := 2) rfl (by rw [ev7]; rfl) (by decide) rfl (fun ls hl => ?_)
          obtain ⟨v8, ev8⟩ : ∃ y : Int32, y = v3 + 1 := ⟨_, rfl⟩
          have h := qOk.v h ev8
          refine lv_iinc (v := v8) (lv' := [(3, .int v8), (2, .int v7), (0, .ref (ad 0)), (1, .int x1)]) hx hb dX8_losts_33 hl (k := 3) rfl (by rw [ev8]; rfl) (by decide) rfl (fun ls hl => ?_)
          refine lv_goto (tgt := 8) hx hb dX8_losts_36 (by decide) ?_
          exact qOk.li h _ (lv_sub hl [2, 3, 1, 0] rfl)
        · have h := qOk.t hc h
          refine lv_iload_n hx hb dX8_losts_28 rfl (lv_at hl 3 rfl) ?_
          have h := qOk.lr h
          exact W.iret hx hb hr (fun t ht _ => ⟨⟨_, _, rfl, qOk2.s h, qHpt ht hH.1⟩, hH.2.F ht⟩) hH.2.2.2 dX8_losts_29
  intro v4 h ls hl
  refine lv_iload_n hx hb dX8_losts_39 rfl (lv_at hl 0 rfl) ?_
  refine lv_iconst (v := (-1)) hx hb dX8_losts_40 (by decide) ?_
  refine qj1 (G := fun (v9 : Int32) => W p l e (headSpec wsX8_losts rm_X8_losts).room s m [.ref (ad 0), .int x1].toArray below meth c H locs 0 0 (MQ below (va_Qi P (fun u t => qHp W2N e2 G ad u t.heap) (qA W2N ad s.heap.size)) [.ref (ad 0), .int x1].toArray s 0 0 (qA W2N ad s.heap.size)) (F0 m 50 ls [.int v9])) h ?_ ?_
  rotate_left
  · intro h
    refine lv_icmp_ne (tgt := 48) hx hb dX8_losts_41 (by decide) (fun hc => ?_) (fun hc => ?_)
    · have h := qOk.f hc h
      refine lv_bipush (v := (-6)) hx hb dX8_losts_48 (by decide) ?_
      have h := qOk.s h
      exact h
    · have h := qOk.t hc h
      refine lv_iload_n hx hb dX8_losts_44 rfl (lv_at hl 1 rfl) ?_
      refine lv_goto (tgt := 50) hx hb dX8_losts_45 (by decide) ?_
      have h := qOk.s h
      exact h
  intro v9 h
  exact W.iret hx hb hr (fun t ht _ => ⟨⟨_, _, rfl, qOk2.s h, qHpt ht hH.1⟩, hH.2.F ht⟩) hH.2.2.2 dX8_losts_50
abbrev rm_X8_listen : Room := { frames := 3, cells := 0, slots := 0, locals := 68 }
set_option maxHeartbeats 4000000 in
set_option maxRecDepth 100000 in
theorem c_X8_listen (l : Launch) (G : qG) (ad : Nat → Nat) (hI : qI W2N ad) (M : qM) (sz : Nat) (x1 : Int32) {P : Int32 → qM → Prop} (h : qOk2 (kX8_listen M x1) P) : Met l yX8_listen wsX8_listen rm_X8_listen (va_Pc [.ref (ad 0), .int x1] (qPre W2N e2 G ad M sz)) (va_Qi P (fun u t => qHp W2N e2 G ad u t.heap) (qA W2N ad sz)) 0 0 (qA W2N ad sz) := by
  refine Met.ofW (cc := cX8_listen) (maxL := 8) (ret := (some .int)) (by decide) rfl ?_
  intro p e s m args below meth c s₁ B hml hv
  obtain ⟨rfl, hsz, hK, hP⟩ := hv
  subst hsz
  have hx := B.exec
  have hb := B.bytes
  have hr := B.returns
  have hts := atoms_spec (ws := wsX8_listen) B.pre
  have hown : s.vm.findClass RX8 = some m.cls := findClass_of_methodNamed B.named
  have hlocks := B.notSynchronized
  have hH : qHS W2N e2 G ad M s.heap s.heap [] := ⟨hP, va_S.rf⟩
  have q144 : (Cond.constant RX8 144 (1000000)).before [.ref (ad 0), .int x1].toArray s = true := hts _ (by decide +kernel)
  have f50 : (Cond.fieldLink RX8 50 "SongLampsModel" "counts" "[I").before [.ref (ad 0), .int x1].toArray s = true := hts _ (by decide +kernel)
  have i_X8 : ∀ w ∈ wsX80, w ∈ wsX8_listen := fun w hw => List.mem_cons_of_mem _ ((List.mem_append_right _ hw))
  have hl := lv_entry ([.ref (ad 0), .int x1]) (n := 8) (Nat.le_of_ble_eq_true rfl)
  rw [lg_entry_eq]
  generalize (lg_sl ([.ref (ad 0), .int x1]) ++ List.replicate (8 - (lg_sl ([.ref (ad 0), .int x1])).length) Slot.unset).toArray = ls at hl ⊢
  have hl : lv_has ls 8 [(0, .ref (ad 0)), (1, .int x1)] := hl
  have h : qOk (kX8_listen M x1) _ := h
  unfold kX8_listen at h
  refine lv_iload_n hx hb dX8_listen_0 rfl (lv_at hl 1 rfl) ?_
  refine lv_iconst (v := 0) hx hb dX8_listen_1 (by decide) ?_
  refine lv_iconst (v := 1) hx hb dX8_listen_2 (by decide) ?_
  refine y_cs (va_runS (As := [.int x1, .int 0, .int 1]) (rest := []) ⟨hx, hb, hml, hown, hts⟩ (c_X8_in l x1 0 1 (qOk.b1 h)) (va_cwS 3 hts gX8_listen_X8_in rfl rfl rfl (by decide +kernel) ⟨Nat.le_of_ble_eq_true rfl, Nat.le_of_ble_eq_true rfl⟩) ⟨qPrT.blind, qPrT.at⟩ rfl rfl hl.1 rfl (lv_room (Nat.le_of_ble_eq_true rfl)) dX8_listen_3 ⟨Nat.zero_le _, Nat.zero_le _⟩) (fun v1 h => ?_)
  refine lv_if_ne (tgt := 12) hx hb dX8_listen_6 (by decide) (fun hc => ?_) (fun hc => ?_)
  · have h := qOk.f hc h
    refine lv_aload_n hx hb dX8_listen_12 rfl (lv_at hl 0 rfl) ?_
    refine y_cv hH (va_runV (As := []) (rest := []) ⟨hx, hb, hml, hown, hts⟩ (c_X8_layApart l G ad hI M _  (qOk.b1 h)) (cwV 0 hts gX8_listen_X8_layApart rfl rfl rfl (by decide +kernel) ⟨Nat.le_of_ble_eq_true rfl, Nat.le_of_ble_eq_true rfl⟩) ⟨qPre.blind, qrecv hK hH qOb_8 rfl, qPre.at hK hH⟩ rfl rfl hl.1 rfl (lv_room (Nat.le_of_ble_eq_true rfl)) dX8_listen_13 ⟨Nat.zero_le _, Nat.zero_le _⟩) (fun M2 H locs hH h => ?_)
    refine lv_bipush (v := (-6)) hx hb dX8_listen_16 (by decide) ?_
    refine lv_istore_n (lv' := [(2, .int (-6)), (0, .ref (ad 0)), (1, .int x1)]) hx hb dX8_listen_18 rfl hl (by decide) rfl (fun ls hl => ?_)
    refine lv_ldc (v := 1000000) hx hb hown q144 dX8_listen_19 ?_
    refine lv_istore_n (lv' := [(3, .int 1000000), (2, .int (-6)), (0, .ref (ad 0)), (1, .int x1)]) hx hb dX8_listen_21 rfl hl (by decide) rfl (fun ls hl => ?_)
    refine lv_iconst (v := 0) hx hb dX8_listen_22 (by decide) ?_
    refine lv_istore (lv' := [(4, .int 0), (3, .int 1000000), (2, .int (-6)), (0, .ref (ad 0)), (1, .int x1)]) hx hb dX8_listen_23 hl (by decide) rfl (fun ls hl => ?_)
    refine qj3 (G := fun (v7 : Int32) (v8 : Int32) (M9 : qM) => ∀ (H : Heap) (locs : List Loc), qHS W2N e2 G ad M9 s.heap H locs → ∀ ls : Array Slot, lv_has ls 8 [(1, .int x1), (2, .int v7), (3, .int v8)] → W p l e (headSpec wsX8_listen rm_X8_listen).room s m [.ref (ad 0), .int x1].toArray below meth c H locs 0 0 (MQ below (va_Qi P (fun u t => qHp W2N e2 G ad u t.heap) (qA W2N ad s.heap.size)) [.ref (ad 0), .int x1].toArray s 0 0 (qA W2N ad s.heap.size)) (F0 m 182 ls [])) h ?_ ?_
    rotate_left
    · intro h
      refine qloop4 (I := fun (v3 : Int32) (v4 : Int32) (v5 : Int32) (M6 : qM) => ∀ (H : Heap) (locs : List Loc), qHS W2N e2 G ad M6 s.heap H locs → ∀ ls : Array Slot, lv_has ls 8 [(0, .ref (ad 0)), (1, .int x1), (2, .int v3), (3, .int v4), (4, .int v5)] → W p l e (headSpec wsX8_listen rm_X8_listen).room s m [.ref (ad 0), .int x1].toArray below meth c H locs 0 0 (MQ below (va_Qi P (fun u t => qHp W2N e2 G ad u t.heap) (qA W2N ad s.heap.size)) [.ref (ad 0), .int x1].toArray s 0 0 (qA W2N ad s.heap.size)) (F0 m 25 ls [])) ?_ h _ _ hH _ (lv_sub hl [3, 4, 2, 1, 0] rfl)
      intro v3 v4 v5 M6 h H locs hH ls hl
      have h : qOk (kX8_listen_L25 v3 v4 v5 M6) _ := h
      unfold kX8_listen_L25 at h
      refine lv_iload hx hb dX8_listen_25 (lv_at hl 4 rfl) ?_
      refine lv_bipush (v := 10) hx hb dX8_listen_27 (by decide) ?_
      refine lv_icmp_ge (tgt := 182) hx hb dX8_listen_29 (by decide) (fun hc => ?_) (fun hc => ?_)
      · have h := qOk.t hc h
        exact qOk.le h _ _ hH _ (lv_sub hl [1, 2, 3] rfl)
      · have h := qOk.f hc h
        refine lv_iconst (v := 0) hx hb dX8_listen_32 (by decide) ?_
        refine lv_istore (lv' := [(5, .int 0), (0, .ref (ad 0)), (1, .int x1), (2, .int v3), (3, .int v4), (4, .int v5)]) hx hb dX8_listen_33 hl (by decide) rfl (fun ls hl => ?_)
        refine lv_iconst (v := 0) hx hb dX8_listen_35 (by decide) ?_
        refine lv_istore (lv' := [(6, .int 0), (5, .int 0), (0, .ref (ad 0)), (1, .int x1), (2, .int v3), (3, .int v4), (4, .int v5)]) hx hb dX8_listen_36 hl (by decide) rfl (fun ls hl => ?_)
        refine qj1 (G := fun (M12 : qM) => ∀ (H : Heap) (locs : List Loc), qHS W2N e2 G ad M12 s.heap H locs → ∀ ls : Array Slot, lv_has ls 8 [(0, .ref (ad 0)), (1, .int x1), (2, .int v3), (3, .int v4), (4, .int v5), (5, .int 0)] → W p l e (headSpec wsX8_listen rm_X8_listen).room s m [.ref (ad 0), .int x1].toArray below meth c H locs 0 0 (MQ below (va_Qi P (fun u t => qHp W2N e2 G ad u t.heap) (qA W2N ad s.heap.size)) [.ref (ad 0), .int x1].toArray s 0 0 (qA W2N ad s.heap.size)) (F0 m 59 ls [])) h ?_ ?_
        rotate_left
        · intro h
          refine qloop2 (I := fun (v10 : Int32) (M11 : qM) => ∀ (H : Heap) (locs : List Loc), qHS W2N e2 G ad M11 s.heap H locs → ∀ ls : Array Slot, lv_has ls 8 [(0, .ref (ad 0)), (1, .int x1), (2, .int v3), (3, .int v4), (4, .int v5), (5, .int 0), (6, .int v10)] → W p l e (headSpec wsX8_listen rm_X8_listen).room s m [.ref (ad 0), .int x1].toArray below meth c H locs 0 0 (MQ below (va_Qi P (fun u t => qHp W2N e2 G ad u t.heap) (qA W2N ad s.heap.size)) [.ref (ad 0), .int x1].toArray s 0 0 (qA W2N ad s.heap.size)) (F0 m 38 ls [])) ?_ h _ _ hH _ (lv_sub hl [2, 3, 4, 5, 6, 1, 0] rfl)
          intro v10 M11 h H locs hH ls hl
          have h : qOk (kX8_listen_L38 v10 M11) _ := h
          unfold kX8_listen_L38 at h
          refine lv_iload hx hb dX8_listen_38 (lv_at hl 6 rfl) ?_
          refine lv_bipush (v := 25) hx hb dX8_listen_40 (by decide) ?_
          refine lv_icmp_ge (tgt := 59) hx hb dX8_listen_42 (by decide) (fun hc => ?_) (fun hc => ?_)
          · have h := qOk.t hc h
            exact qOk.le h _ _ hH _ (lv_sub hl [0, 1, 2, 3, 4, 5] rfl)
          · have h := qOk.f hc h
            refine lv_aload_n hx hb dX8_listen_45 rfl (lv_at hl 0 rfl) ?_
            refine y_get hx hb hts i_X8 hown hK hH qOb_8 rfl 21 (by decide) f50 rfl dX8_listen_46 ?_
            refine lv_iload hx hb dX8_listen_49 (lv_at hl 6 rfl) ?_
            refine lv_iconst (v := 0) hx hb dX8_listen_51 (by decide) ?_
            refine y_iast hx hb hK hI hH qMr_14 h dX8_listen_52 (fun M13 H locs hH h => ?_)
            obtain ⟨v14, ev14⟩ : ∃ y : Int32, y = v10 + 1 := ⟨_, rfl⟩
            have h := qOk.v h ev14
            refine lv_iinc (v := v14) (lv' := [(6, .int v14), (0, .ref (ad 0)), (1, .int x1), (2, .int v3), (3, .int v4), (4, .int v5), (5, .int 0)]) hx hb dX8_listen_53 hl (k := 6) rfl (by rw [ev14]; rfl) (by decide) rfl (fun ls hl => ?_)
            refine lv_goto (tgt := 38) hx hb dX8_listen_56 (by decide) ?_
            exact qOk.li h _ _ hH _ (lv_sub hl [1, 2, 3, 4, 5, 6, 0] rfl)
        intro M12 h H locs hH ls hl
        refine lv_iconst (v := 0) hx hb dX8_listen_59 (by decide) ?_
        refine lv_istore (lv' := [(6, .int 0), (0, .ref (ad 0)), (1, .int x1), (2, .int v3), (3, .int v4), (4, .int v5), (5, .int 0)]) hx hb dX8_listen_60 hl (by decide) rfl (fun ls hl => ?_)
        refine qj2 (G := fun (v18 : Int32) (M19 : qM) => ∀ (H : Heap) (locs : List Loc), qHS W2N e2 G ad M19 s.heap H locs → ∀ ls : Array Slot, lv_has ls 8 [(0, .ref (ad 0)), (1, .int x1), (2, .int v3), (3, .int v4), (4, .int v5), (5, .int v18)] → W p l e (headSpec wsX8_listen rm_X8_listen).room s m [.ref (ad 0), .int x1].toArray below meth c H locs 0 0 (MQ below (va_Qi P (fun u t => qHp W2N e2 G ad u t.heap) (qA W2N ad s.heap.size)) [.ref (ad 0), .int x1].toArray s 0 0 (qA W2N ad s.heap.size)) (F0 m 134 ls [])) h ?_ ?_
        rotate_left
        · intro h
          refine qloop3 (I := fun (v15 : Int32) (v16 : Int32) (M17 : qM) => ∀ (H : Heap) (locs : List Loc), qHS W2N e2 G ad M17 s.heap H locs → ∀ ls : Array Slot, lv_has ls 8 [(0, .ref (ad 0)), (1, .int x1), (2, .int v3), (3, .int v4), (4, .int v5), (5, .int v15), (6, .int v16)] → W p l e (headSpec wsX8_listen rm_X8_listen).room s m [.ref (ad 0), .int x1].toArray below meth c H locs 0 0 (MQ below (va_Qi P (fun u t => qHp W2N e2 G ad u t.heap) (qA W2N ad s.heap.size)) [.ref (ad 0), .int x1].toArray s 0 0 (qA W2N ad s.heap.size)) (F0 m 62 ls [])) ?_ h _ _ hH _ (lv_sub hl [1, 2, 3, 4, 5, 6, 0] rfl)
          intro v15 v16 M17 h H locs hH ls hl
          have h : qOk (kX8_listen_L62 v5 v15 v16 M17) _ := h
          unfold kX8_listen_L62 at h
          refine lv_iload hx hb dX8_listen_62 (lv_at hl 6 rfl) ?_
          refine lv_sipush (v := 1000) hx hb dX8_listen_64 (by decide) ?_
          refine lv_icmp_ge (tgt := 134) hx hb dX8_listen_67 (by decide) (fun hc => ?_) (fun hc => ?_)
          · have h := qOk.t hc h
            exact qOk.le h _ _ hH _ (lv_sub hl [0, 1, 2, 3, 4, 5] rfl)
          · have h := qOk.f hc h
            refine lv_aload_n hx hb dX8_listen_70 rfl (lv_at hl 0 rfl) ?_
            refine lv_iload hx hb dX8_listen_71 (lv_at hl 6 rfl) ?_
            refine y_cs (va_runV (As := [.int v16]) (rest := []) ⟨hx, hb, hml, hown, hts⟩ (c_X8_isLost l G ad hI M17 _ v16 (qOk.b1 h)) (cwV 1 hts gX8_listen_X8_isLost rfl rfl rfl (by decide +kernel) ⟨Nat.le_of_ble_eq_true rfl, Nat.le_of_ble_eq_true rfl⟩) ⟨qPre.blind, qrecv hK hH qOb_8 rfl, qPre.at hK hH⟩ rfl rfl hl.1 rfl (lv_room (Nat.le_of_ble_eq_true rfl)) dX8_listen_73 ⟨Nat.zero_le _, Nat.zero_le _⟩) (fun v20 h => ?_)
            refine qj2 (G := fun (v21 : Int32) (M22 : qM) => ∀ (H : Heap) (locs : List Loc), qHS W2N e2 G ad M22 s.heap H locs → ∀ ls : Array Slot, lv_has ls 8 [(0, .ref (ad 0)), (1, .int x1), (2, .int v3), (3, .int v4), (4, .int v5), (5, .int v21), (6, .int v16)] → W p l e (headSpec wsX8_listen rm_X8_listen).room s m [.ref (ad 0), .int x1].toArray below meth c H locs 0 0 (MQ below (va_Qi P (fun u t => qHp W2N e2 G ad u t.heap) (qA W2N ad s.heap.size)) [.ref (ad 0), .int x1].toArray s 0 0 (qA W2N ad s.heap.size)) (F0 m 128 ls [])) h ?_ ?_
            rotate_left
            · intro h
              refine lv_if_eq (tgt := 128) hx hb dX8_listen_76 (by decide) (fun hc => ?_) (fun hc => ?_)
              · have h := qOk.t hc h
                have h := qOk.s h
                exact h _ _ hH _ (lv_sub hl [0, 1, 2, 3, 4, 5, 6] rfl)
              · have h := qOk.f hc h
                refine lv_aload_n hx hb dX8_listen_79 rfl (lv_at hl 0 rfl) ?_
                refine lv_iload hx hb dX8_listen_80 (lv_at hl 6 rfl) ?_
                refine lv_iload hx hb dX8_listen_82 (lv_at hl 4 rfl) ?_
                refine y_cs (va_runV (As := [.int v16, .int v5]) (rest := []) ⟨hx, hb, hml, hown, hts⟩ (c_X8_noteIn l G ad hI M17 _ v16 v5 (qOk.b1 h)) (cwV 2 hts gX8_listen_X8_noteIn rfl rfl rfl (by decide +kernel) ⟨Nat.le_of_ble_eq_true rfl, Nat.le_of_ble_eq_true rfl⟩) ⟨qPre.blind, qrecv hK hH qOb_8 rfl, qPre.at hK hH⟩ rfl rfl hl.1 rfl (lv_room (Nat.le_of_ble_eq_true rfl)) dX8_listen_84 ⟨Nat.zero_le _, Nat.zero_le _⟩) (fun v23 h => ?_)
                refine lv_iconst (v := 1) hx hb dX8_listen_87 (by decide) ?_
                refine lv_iadd hx hb dX8_listen_88 ?_
                refine lv_topi (fun v24 ev24 => ?_)
                have h := qOk.v h ev24
                refine lv_istore (lv' := [(7, .int v24), (0, .ref (ad 0)), (1, .int x1), (2, .int v3), (3, .int v4), (4, .int v5), (5, .int v15), (6, .int v16)]) hx hb dX8_listen_89 hl (by decide) rfl (fun ls hl => ?_)
                refine lv_aload_n hx hb dX8_listen_91 rfl (lv_at hl 1 rfl) ?_
                refine y_get hx hb hts i_X8 hown hK hH qOb_8 rfl 21 (by decide) f50 rfl dX8_listen_92 ?_
                refine lv_iload hx hb dX8_listen_95 (lv_at hl 0 rfl) ?_
                refine lv_dup2_11 hx hb dX8_listen_97 rfl rfl ?_
                refine y_iald hx hb hK hH qMr_14 h dX8_listen_98 (fun v25 h => ?_)
                refine lv_iconst (v := 1) hx hb dX8_listen_99 (by decide) ?_
                refine lv_iadd hx hb dX8_listen_100 ?_
                refine y_iast hx hb hK hI hH qMr_14 h dX8_listen_101 (fun M26 H locs hH h => ?_)
                refine lv_aload_n hx hb dX8_listen_102 rfl (lv_at hl 1 rfl) ?_
                refine y_get hx hb hts i_X8 hown hK hH qOb_8 rfl 21 (by decide) f50 rfl dX8_listen_103 ?_
                refine lv_iload hx hb dX8_listen_106 (lv_at hl 0 rfl) ?_
                refine y_iald hx hb hK hH qMr_14 h dX8_listen_108 (fun v27 h => ?_)
                refine lv_iload hx hb dX8_listen_109 (lv_at hl 6 rfl) ?_
                refine qj1 (G := fun (v28 : Int32) => W p l e (headSpec wsX8_listen rm_X8_listen).room s m [.ref (ad 0), .int x1].toArray below meth c H locs 0 0 (MQ below (va_Qi P (fun u t => qHp W2N e2 G ad u t.heap) (qA W2N ad s.heap.size)) [.ref (ad 0), .int x1].toArray s 0 0 (qA W2N ad s.heap.size)) (F0 m 126 ls [.int v28])) h ?_ ?_
                rotate_left
                · intro h
                  refine lv_icmp_le (tgt := 124) hx hb dX8_listen_111 (by decide) (fun hc => ?_) (fun hc => ?_)
                  · have h := qOk.t hc h
                    refine lv_iload hx hb dX8_listen_124 (lv_at hl 6 rfl) ?_
                    have h := qOk.s h
                    exact h
                  · have h := qOk.f hc h
                    refine lv_aload_n hx hb dX8_listen_114 rfl (lv_at hl 1 rfl) ?_
                    refine y_get hx hb hts i_X8 hown hK hH qOb_8 rfl 21 (by decide) f50 rfl dX8_listen_115 ?_
                    refine lv_iload hx hb dX8_listen_118 (lv_at hl 0 rfl) ?_
                    refine y_iald hx hb hK hH qMr_14 h dX8_listen_120 (fun v29 h => ?_)
                    refine lv_goto (tgt := 126) hx hb dX8_listen_121 (by decide) ?_
                    have h := qOk.s h
                    exact h
                intro v28 h
                refine lv_istore (lv' := [(5, .int v28), (7, .int v24), (0, .ref (ad 0)), (1, .int x1), (2, .int v3), (3, .int v4), (4, .int v5), (6, .int v16)]) hx hb dX8_listen_126 hl (by decide) rfl (fun ls hl => ?_)
                have h := qOk.s h
                exact h _ _ hH _ (lv_sub hl [2, 3, 4, 5, 6, 0, 7] rfl)
            intro v21 M22 h H locs hH ls hl
            obtain ⟨v30, ev30⟩ : ∃ y : Int32, y = v16 + 1 := ⟨_, rfl⟩
            have h := qOk.v h ev30
            refine lv_iinc (v := v30) (lv' := [(6, .int v30), (0, .ref (ad 0)), (1, .int x1), (2, .int v3), (3, .int v4), (4, .int v5), (5, .int v21)]) hx hb dX8_listen_128 hl (k := 6) rfl (by rw [ev30]; rfl) (by decide) rfl (fun ls hl => ?_)
            refine lv_goto (tgt := 62) hx hb dX8_listen_131 (by decide) ?_
            exact qOk.li h _ _ hH _ (lv_sub hl [1, 2, 3, 4, 5, 6, 0] rfl)
        intro v18 M19 h H locs hH ls hl
        refine lv_iload hx hb dX8_listen_134 (lv_at hl 5 rfl) ?_
        refine qj1 (G := fun (v31 : Int32) => W p l e (headSpec wsX8_listen rm_X8_listen).room s m [.ref (ad 0), .int x1].toArray below meth c H locs 0 0 (MQ below (va_Qi P (fun u t => qHp W2N e2 G ad u t.heap) (qA W2N ad s.heap.size)) [.ref (ad 0), .int x1].toArray s 0 0 (qA W2N ad s.heap.size)) (F0 m 150 ls [.int v31])) h ?_ ?_
        rotate_left
        · intro h
          refine lv_if_le (tgt := 149) hx hb dX8_listen_136 (by decide) (fun hc => ?_) (fun hc => ?_)
          · have h := qOk.t hc h
            refine lv_iconst (v := 0) hx hb dX8_listen_149 (by decide) ?_
            have h := qOk.s h
            exact h
          · have h := qOk.f hc h
            refine lv_iload hx hb dX8_listen_139 (lv_at hl 5 rfl) ?_
            refine lv_iload_n hx hb dX8_listen_141 rfl (lv_at hl 3 rfl) ?_
            refine lv_icmp_ge (tgt := 149) hx hb dX8_listen_142 (by decide) (fun hc => ?_) (fun hc => ?_)
            · have h := qOk.t hc h
              refine lv_iconst (v := 0) hx hb dX8_listen_149 (by decide) ?_
              have h := qOk.s h
              exact h
            · have h := qOk.f hc h
              refine lv_iconst (v := 1) hx hb dX8_listen_145 (by decide) ?_
              refine lv_goto (tgt := 150) hx hb dX8_listen_146 (by decide) ?_
              have h := qOk.s h
              exact h
        intro v31 h
        refine lv_istore (lv' := [(6, .int v31), (0, .ref (ad 0)), (1, .int x1), (2, .int v3), (3, .int v4), (4, .int v5), (5, .int v18)]) hx hb dX8_listen_150 hl (by decide) rfl (fun ls hl => ?_)
        refine lv_iload hx hb dX8_listen_152 (lv_at hl 0 rfl) ?_
        refine qj1 (G := fun (v32 : Int32) => W p l e (headSpec wsX8_listen rm_X8_listen).room s m [.ref (ad 0), .int x1].toArray below meth c H locs 0 0 (MQ below (va_Qi P (fun u t => qHp W2N e2 G ad u t.heap) (qA W2N ad s.heap.size)) [.ref (ad 0), .int x1].toArray s 0 0 (qA W2N ad s.heap.size)) (F0 m 163 ls [.int v32])) h ?_ ?_
        rotate_left
        · intro h
          refine lv_if_eq (tgt := 162) hx hb dX8_listen_154 (by decide) (fun hc => ?_) (fun hc => ?_)
          · have h := qOk.t hc h
            refine lv_iload_n hx hb dX8_listen_162 rfl (lv_at hl 3 rfl) ?_
            have h := qOk.s h
            exact h
          · have h := qOk.f hc h
            refine lv_iload hx hb dX8_listen_157 (lv_at hl 5 rfl) ?_
            refine lv_goto (tgt := 163) hx hb dX8_listen_159 (by decide) ?_
            have h := qOk.s h
            exact h
        intro v32 h
        refine lv_istore_n (lv' := [(2, .int v32), (6, .int v31), (0, .ref (ad 0)), (1, .int x1), (3, .int v4), (4, .int v5), (5, .int v18)]) hx hb dX8_listen_163 rfl hl (by decide) rfl (fun ls hl => ?_)
        refine lv_iload hx hb dX8_listen_164 (lv_at hl 1 rfl) ?_
        refine qj1 (G := fun (v33 : Int32) => W p l e (headSpec wsX8_listen rm_X8_listen).room s m [.ref (ad 0), .int x1].toArray below meth c H locs 0 0 (MQ below (va_Qi P (fun u t => qHp W2N e2 G ad u t.heap) (qA W2N ad s.heap.size)) [.ref (ad 0), .int x1].toArray s 0 0 (qA W2N ad s.heap.size)) (F0 m 175 ls [.int v33])) h ?_ ?_
        rotate_left
        · intro h
          refine lv_if_eq (tgt := 174) hx hb dX8_listen_166 (by decide) (fun hc => ?_) (fun hc => ?_)
          · have h := qOk.t hc h
            refine lv_iload_n hx hb dX8_listen_174 rfl (lv_at hl 4 rfl) ?_
            have h := qOk.s h
            exact h
          · have h := qOk.f hc h
            refine lv_iload hx hb dX8_listen_169 (lv_at hl 6 rfl) ?_
            refine lv_goto (tgt := 175) hx hb dX8_listen_171 (by decide) ?_
            have h := qOk.s h
            exact h
        intro v33 h
        refine lv_istore_n (lv' := [(3, .int v33), (2, .int v32), (6, .int v31), (0, .ref (ad 0)), (1, .int x1), (4, .int v5), (5, .int v18)]) hx hb dX8_listen_175 rfl hl (by decide) rfl (fun ls hl => ?_)
        obtain ⟨v34, ev34⟩ : ∃ y : Int32, y = v5 + 1 := ⟨_, rfl⟩
        have h := qOk.v h ev34
        refine lv_iinc (v := v34) (lv' := [(4, .int v34), (3, .int v33), (2, .int v32), (6, .int v31), (0, .ref (ad 0)), (1, .int x1), (5, .int v18)]) hx hb dX8_listen_176 hl (k := 5) rfl (by rw [ev34]; rfl) (by decide) rfl (fun ls hl => ?_)
        refine lv_goto (tgt := 25) hx hb dX8_listen_179 (by decide) ?_
        exact qOk.li h _ _ hH _ (lv_sub hl [4, 5, 2, 1, 0] rfl)
    intro v7 v8 M9 h H locs hH ls hl
    refine lv_iload_n hx hb dX8_listen_182 rfl (lv_at hl 1 rfl) ?_
    refine qj1 (G := fun (v35 : Int32) => W p l e (headSpec wsX8_listen rm_X8_listen).room s m [.ref (ad 0), .int x1].toArray below meth c H locs 0 0 (MQ below (va_Qi P (fun u t => qHp W2N e2 G ad u t.heap) (qA W2N ad s.heap.size)) [.ref (ad 0), .int x1].toArray s 0 0 (qA W2N ad s.heap.size)) (F0 m 195 ls [.int v35])) h ?_ ?_
    rotate_left
    · intro h
      refine lv_if_lt (tgt := 190) hx hb dX8_listen_183 (by decide) (fun hc => ?_) (fun hc => ?_)
      · have h := qOk.t hc h
        refine lv_iload_n hx hb dX8_listen_190 rfl (lv_at hl 1 rfl) ?_
        refine lv_goto (tgt := 195) hx hb dX8_listen_191 (by decide) ?_
        have h := qOk.s h
        exact h
      · have h := qOk.f hc h
        refine lv_iload_n hx hb dX8_listen_186 rfl (lv_at hl 0 rfl) ?_
        refine lv_if_ne (tgt := 194) hx hb dX8_listen_187 (by decide) (fun hc => ?_) (fun hc => ?_)
        · have h := qOk.f hc h
          refine lv_iload_n hx hb dX8_listen_194 rfl (lv_at hl 2 rfl) ?_
          have h := qOk.s h
          exact h
        · have h := qOk.t hc h
          refine lv_iload_n hx hb dX8_listen_190 rfl (lv_at hl 1 rfl) ?_
          refine lv_goto (tgt := 195) hx hb dX8_listen_191 (by decide) ?_
          have h := qOk.s h
          exact h
    intro v35 h
    exact W.iret hx hb hr (fun t ht _ => ⟨⟨_, _, rfl, qOk2.s h, qHpt ht hH.1⟩, hH.2.F ht⟩) hH.2.2.2 dX8_listen_195
  · have h := qOk.t hc h
    refine lv_bipush (v := (-2)) hx hb dX8_listen_9 (by decide) ?_
    exact W.iret hx hb hr (fun t ht _ => ⟨⟨_, _, rfl, qOk2.s h, qHpt ht hH.1⟩, hH.2.F ht⟩) hH.2.2.2 dX8_listen_11
abbrev rm_X8_power : Room := { frames := 0, cells := 0, slots := 0, locals := 0 }
set_option maxHeartbeats 4000000 in
set_option maxRecDepth 100000 in
theorem c_X8_power (l : Launch) (x0 : Int64) (x2 : Int32) {P : Int64 → Prop} (h : qOk (kX8_power x0 x2) P) : Met l yX8_power wsX8_power rm_X8_power (va_Pc [.long x0, .int x2] (fun _ => True)) (vp_Sl P) 0 0 (fun _ => False) := by
  refine Met.ofW (cc := cX8_power) (maxL := 6) (ret := (some .long)) (by decide) rfl ?_
  intro p e s m args below meth c s₁ B hml hv
  obtain ⟨rfl, -⟩ := hv
  have hx := B.exec
  have hb := B.bytes
  have hr := B.returns
  have hts := atoms_spec (ws := wsX8_power) B.pre
  have hown : s.vm.findClass RX8 = some m.cls := findClass_of_methodNamed B.named
  have hlocks := B.notSynchronized
  have hl := lv_entry ([.long x0, .int x2]) (n := 6) (Nat.le_of_ble_eq_true rfl)
  rw [lg_entry_eq]
  generalize (lg_sl ([.long x0, .int x2]) ++ List.replicate (6 - (lg_sl ([.long x0, .int x2])).length) Slot.unset).toArray = ls at hl ⊢
  have hl : lv_has ls 6 [(0, .long x0), (2, .int x2)] := hl
  have h : qOk (kX8_power x0 x2) _ := h
  unfold kX8_power at h
  refine lv_lconst (v := 1) hx hb dX8_power_0 (by decide) ?_
  refine lv_lstore_n (lv' := [(3, .long 1), (0, .long x0), (2, .int x2)]) hx hb dX8_power_1 rfl hl (by decide) rfl (fun ls hl => ?_)
  refine lv_iconst (v := 0) hx hb dX8_power_2 (by decide) ?_
  refine lv_istore (lv' := [(5, .int 0), (3, .long 1), (0, .long x0), (2, .int x2)]) hx hb dX8_power_3 hl (by decide) rfl (fun ls hl => ?_)
  refine qj1 (G := fun (v3 : Int64) => ∀ ls : Array Slot, lv_has ls 6 [(3, .long v3)] → W p l e (headSpec wsX8_power rm_X8_power).room s m [.long x0, .int x2].toArray below meth c s.heap [] 0 0 (MQ below (vp_Sl P) [.long x0, .int x2].toArray s 0 0 (fun _ => False)) (F0 m 21 ls [])) h ?_ ?_
  rotate_left
  · intro h
    refine qloop2 (I := fun (v1 : Int64) (v2 : Int32) => ∀ ls : Array Slot, lv_has ls 6 [(0, .long x0), (2, .int x2), (3, .long v1), (5, .int v2)] → W p l e (headSpec wsX8_power rm_X8_power).room s m [.long x0, .int x2].toArray below meth c s.heap [] 0 0 (MQ below (vp_Sl P) [.long x0, .int x2].toArray s 0 0 (fun _ => False)) (F0 m 5 ls [])) ?_ h _ (lv_sub hl [2, 3, 1, 0] rfl)
    intro v1 v2 h ls hl
    have h : qOk (kX8_power_L5 x2 x0 v1 v2) _ := h
    unfold kX8_power_L5 at h
    refine lv_iload hx hb dX8_power_5 (lv_at hl 3 rfl) ?_
    refine lv_iload_n hx hb dX8_power_7 rfl (lv_at hl 1 rfl) ?_
    refine lv_icmp_ge (tgt := 21) hx hb dX8_power_8 (by decide) (fun hc => ?_) (fun hc => ?_)
    · have h := qOk.t hc h
      exact qOk.le h _ (lv_sub hl [2] rfl)
    · have h := qOk.f hc h
      refine lv_lload_n hx hb dX8_power_11 rfl (lv_at hl 2 rfl) ?_
      refine lv_lload_n hx hb dX8_power_12 rfl (lv_at hl 0 rfl) ?_
      refine lv_lmul hx hb dX8_power_13 ?_
      refine lv_topl (fun v4 ev4 => ?_)
      have h := qOk.v h ev4
      refine lv_lstore_n (lv' := [(3, .long v4), (0, .long x0), (2, .int x2), (5, .int v2)]) hx hb dX8_power_14 rfl hl (by decide) rfl (fun ls hl => ?_)
      obtain ⟨v5, ev5⟩ : ∃ y : Int32, y = v2 + 1 := ⟨_, rfl⟩
      have h := qOk.v h ev5
      refine lv_iinc (v := v5) (lv' := [(5, .int v5), (3, .long v4), (0, .long x0), (2, .int x2)]) hx hb dX8_power_15 hl (k := 3) rfl (by rw [ev5]; rfl) (by decide) rfl (fun ls hl => ?_)
      refine lv_goto (tgt := 5) hx hb dX8_power_18 (by decide) ?_
      exact qOk.li h _ (lv_sub hl [2, 3, 1, 0] rfl)
  intro v3 h ls hl
  refine lv_lload_n hx hb dX8_power_21 rfl (lv_at hl 0 rfl) ?_
  exact W.lret hx hb hr (fun t ht _ => ⟨_, rfl, qOk.s h, ht⟩) (fun _ hq => by cases hq) dX8_power_22
abbrev rm_X8_cold : Room := { frames := 3, cells := 0, slots := 0, locals := 65 }
set_option maxHeartbeats 4000000 in
set_option maxRecDepth 100000 in
theorem c_X8_cold (l : Launch) (G : qG) (ad : Nat → Nat) (hI : qI W2N ad) (M : qM) (sz : Nat) (x1 : Int32) (x2 : Int32) (x3 : Int32) (x4 : Int32) (x5 : Int32) {P : Int64 → qM → Prop} (h : qOk2 (kX8_cold M x1 x2 x3 x4 x5) P) : Met l yX8_cold wsX8_cold rm_X8_cold (va_Pc [.ref (ad 0), .int x1, .int x2, .int x3, .int x4, .int x5] (qPre W2N e2 G ad M sz)) (va_Ql P (fun u t => qHp W2N e2 G ad u t.heap) (qA W2N ad sz)) 0 0 (qA W2N ad sz) := by
  refine Met.ofW (cc := cX8_cold) (maxL := 19) (ret := (some .long)) (by decide) rfl ?_
  intro p e s m args below meth c s₁ B hml hv
  obtain ⟨rfl, hsz, hK, hP⟩ := hv
  subst hsz
  have hx := B.exec
  have hb := B.bytes
  have hr := B.returns
  have hts := atoms_spec (ws := wsX8_cold) B.pre
  have hown : s.vm.findClass RX8 = some m.cls := findClass_of_methodNamed B.named
  have hlocks := B.notSynchronized
  have hH : qHS W2N e2 G ad M s.heap s.heap [] := ⟨hP, va_S.rf⟩
  have q174 : (Cond.constantLong RX8 174 (-1000000000000000002)).before [.ref (ad 0), .int x1, .int x2, .int x3, .int x4, .int x5].toArray s = true := hts _ (by decide +kernel)
  have q178 : (Cond.constantLong RX8 178 (10)).before [.ref (ad 0), .int x1, .int x2, .int x3, .int x4, .int x5].toArray s = true := hts _ (by decide +kernel)
  have q176 : (Cond.constantLong RX8 176 (-1000000000000000003)).before [.ref (ad 0), .int x1, .int x2, .int x3, .int x4, .int x5].toArray s = true := hts _ (by decide +kernel)
  have q172 : (Cond.constantLong RX8 172 (-1000000000000000001)).before [.ref (ad 0), .int x1, .int x2, .int x3, .int x4, .int x5].toArray s = true := hts _ (by decide +kernel)
  have hl := lv_entry ([.ref (ad 0), .int x1, .int x2, .int x3, .int x4, .int x5]) (n := 19) (Nat.le_of_ble_eq_true rfl)
  rw [lg_entry_eq]
  generalize (lg_sl ([.ref (ad 0), .int x1, .int x2, .int x3, .int x4, .int x5]) ++ List.replicate (19 - (lg_sl ([.ref (ad 0), .int x1, .int x2, .int x3, .int x4, .int x5])).length) Slot.unset).toArray = ls at hl ⊢
  have hl : lv_has ls 19 [(0, .ref (ad 0)), (1, .int x1), (2, .int x2), (3, .int x3), (4, .int x4), (5, .int x5)] := hl
  have h : qOk (kX8_cold M x1 x2 x3 x4 x5) _ := h
  unfold kX8_cold at h
  refine lv_iload_n hx hb dX8_cold_0 rfl (lv_at hl 1 rfl) ?_
  refine y_cs (va_runS (As := [.int x1]) (rest := []) ⟨hx, hb, hml, hown, hts⟩ (c_X8_isGallery l x1 (qOk.b1 h)) (va_cwS 1 hts gX8_cold_X8_isGallery rfl rfl rfl (by decide +kernel) ⟨Nat.le_of_ble_eq_true rfl, Nat.le_of_ble_eq_true rfl⟩) ⟨qPrT.blind, qPrT.at⟩ rfl rfl hl.1 rfl (lv_room (Nat.le_of_ble_eq_true rfl)) dX8_cold_1 ⟨Nat.zero_le _, Nat.zero_le _⟩) (fun v1 h => ?_)
  refine lv_if_ne (tgt := 11) hx hb dX8_cold_4 (by decide) (fun hc => ?_) (fun hc => ?_)
  · have h := qOk.f hc h
    refine lv_iload_n hx hb dX8_cold_11 rfl (lv_at hl 2 rfl) ?_
    refine lv_iconst (v := 0) hx hb dX8_cold_12 (by decide) ?_
    refine lv_bipush (v := 10) hx hb dX8_cold_13 (by decide) ?_
    refine y_cs (va_runS (As := [.int x2, .int 0, .int 10]) (rest := []) ⟨hx, hb, hml, hown, hts⟩ (c_X8_in l x2 0 10 (qOk.b1 h)) (va_cwS 3 hts gX8_cold_X8_in rfl rfl rfl (by decide +kernel) ⟨Nat.le_of_ble_eq_true rfl, Nat.le_of_ble_eq_true rfl⟩) ⟨qPrT.blind, qPrT.at⟩ rfl rfl hl.1 rfl (lv_room (Nat.le_of_ble_eq_true rfl)) dX8_cold_15 ⟨Nat.zero_le _, Nat.zero_le _⟩) (fun v2 h => ?_)
    refine lv_if_eq (tgt := 51) hx hb dX8_cold_18 (by decide) (fun hc => ?_) (fun hc => ?_)
    · have h := qOk.t hc h
      refine lv_ldc2 (v := (-1000000000000000002)) hx hb hown q174 dX8_cold_51 ?_
      exact W.lret hx hb hr (fun t ht _ => ⟨⟨_, _, rfl, qOk2.s h, qHpt ht hH.1⟩, hH.2.F ht⟩) hH.2.2.2 dX8_cold_54
    · have h := qOk.f hc h
      refine lv_iload_n hx hb dX8_cold_21 rfl (lv_at hl 3 rfl) ?_
      refine lv_iconst (v := 0) hx hb dX8_cold_22 (by decide) ?_
      refine lv_bipush (v := 9) hx hb dX8_cold_23 (by decide) ?_
      refine y_cs (va_runS (As := [.int x3, .int 0, .int 9]) (rest := []) ⟨hx, hb, hml, hown, hts⟩ (c_X8_in l x3 0 9 (qOk.b1 h)) (va_cwS 3 hts gX8_cold_X8_in rfl rfl rfl (by decide +kernel) ⟨Nat.le_of_ble_eq_true rfl, Nat.le_of_ble_eq_true rfl⟩) ⟨qPrT.blind, qPrT.at⟩ rfl rfl hl.1 rfl (lv_room (Nat.le_of_ble_eq_true rfl)) dX8_cold_25 ⟨Nat.zero_le _, Nat.zero_le _⟩) (fun v3 h => ?_)
      refine lv_if_eq (tgt := 51) hx hb dX8_cold_28 (by decide) (fun hc => ?_) (fun hc => ?_)
      · have h := qOk.t hc h
        refine lv_ldc2 (v := (-1000000000000000002)) hx hb hown q174 dX8_cold_51 ?_
        exact W.lret hx hb hr (fun t ht _ => ⟨⟨_, _, rfl, qOk2.s h, qHpt ht hH.1⟩, hH.2.F ht⟩) hH.2.2.2 dX8_cold_54
      · have h := qOk.f hc h
        refine lv_iload hx hb dX8_cold_31 (lv_at hl 4 rfl) ?_
        refine lv_iconst (v := 0) hx hb dX8_cold_33 (by decide) ?_
        refine lv_iconst (v := 1) hx hb dX8_cold_34 (by decide) ?_
        refine y_cs (va_runS (As := [.int x4, .int 0, .int 1]) (rest := []) ⟨hx, hb, hml, hown, hts⟩ (c_X8_in l x4 0 1 (qOk.b1 h)) (va_cwS 3 hts gX8_cold_X8_in rfl rfl rfl (by decide +kernel) ⟨Nat.le_of_ble_eq_true rfl, Nat.le_of_ble_eq_true rfl⟩) ⟨qPrT.blind, qPrT.at⟩ rfl rfl hl.1 rfl (lv_room (Nat.le_of_ble_eq_true rfl)) dX8_cold_35 ⟨Nat.zero_le _, Nat.zero_le _⟩) (fun v4 h => ?_)
        refine lv_if_eq (tgt := 51) hx hb dX8_cold_38 (by decide) (fun hc => ?_) (fun hc => ?_)
        · have h := qOk.t hc h
          refine lv_ldc2 (v := (-1000000000000000002)) hx hb hown q174 dX8_cold_51 ?_
          exact W.lret hx hb hr (fun t ht _ => ⟨⟨_, _, rfl, qOk2.s h, qHpt ht hH.1⟩, hH.2.F ht⟩) hH.2.2.2 dX8_cold_54
        · have h := qOk.f hc h
          refine lv_iload hx hb dX8_cold_41 (lv_at hl 5 rfl) ?_
          refine lv_iconst (v := 0) hx hb dX8_cold_43 (by decide) ?_
          refine lv_iconst (v := 1) hx hb dX8_cold_44 (by decide) ?_
          refine y_cs (va_runS (As := [.int x5, .int 0, .int 1]) (rest := []) ⟨hx, hb, hml, hown, hts⟩ (c_X8_in l x5 0 1 (qOk.b1 h)) (va_cwS 3 hts gX8_cold_X8_in rfl rfl rfl (by decide +kernel) ⟨Nat.le_of_ble_eq_true rfl, Nat.le_of_ble_eq_true rfl⟩) ⟨qPrT.blind, qPrT.at⟩ rfl rfl hl.1 rfl (lv_room (Nat.le_of_ble_eq_true rfl)) dX8_cold_45 ⟨Nat.zero_le _, Nat.zero_le _⟩) (fun v5 h => ?_)
          refine lv_if_ne (tgt := 55) hx hb dX8_cold_48 (by decide) (fun hc => ?_) (fun hc => ?_)
          · have h := qOk.f hc h
            refine lv_aload_n hx hb dX8_cold_55 rfl (lv_at hl 0 rfl) ?_
            refine y_cv hH (va_runV (As := []) (rest := []) ⟨hx, hb, hml, hown, hts⟩ (c_X8_asNow l G ad hI M _  (qOk.b1 h)) (cwV 0 hts gX8_cold_X8_asNow rfl rfl rfl (by decide +kernel) ⟨Nat.le_of_ble_eq_true rfl, Nat.le_of_ble_eq_true rfl⟩) ⟨qPre.blind, qrecv hK hH qOb_8 rfl, qPre.at hK hH⟩ rfl rfl hl.1 rfl (lv_room (Nat.le_of_ble_eq_true rfl)) dX8_cold_56 ⟨Nat.zero_le _, Nat.zero_le _⟩) (fun M6 H locs hH h => ?_)
            refine lv_iconst (v := 0) hx hb dX8_cold_59 (by decide) ?_
            refine lv_istore (lv' := [(6, .int 0), (0, .ref (ad 0)), (1, .int x1), (2, .int x2), (3, .int x3), (4, .int x4), (5, .int x5)]) hx hb dX8_cold_60 hl (by decide) rfl (fun ls hl => ?_)
            refine lv_iconst (v := 0) hx hb dX8_cold_62 (by decide) ?_
            refine lv_istore (lv' := [(7, .int 0), (6, .int 0), (0, .ref (ad 0)), (1, .int x1), (2, .int x2), (3, .int x3), (4, .int x4), (5, .int x5)]) hx hb dX8_cold_63 hl (by decide) rfl (fun ls hl => ?_)
            refine qj1 (G := fun (v9 : Int32) => ∀ ls : Array Slot, lv_has ls 19 [(2, .int x2), (3, .int x3), (4, .int x4), (5, .int x5), (6, .int v9)] → W p l e (headSpec wsX8_cold rm_X8_cold).room s m [.ref (ad 0), .int x1, .int x2, .int x3, .int x4, .int x5].toArray below meth c H locs 0 0 (MQ below (va_Ql P (fun u t => qHp W2N e2 G ad u t.heap) (qA W2N ad s.heap.size)) [.ref (ad 0), .int x1, .int x2, .int x3, .int x4, .int x5].toArray s 0 0 (qA W2N ad s.heap.size)) (F0 m 98 ls [])) h ?_ ?_
            rotate_left
            · intro h
              refine qloop2 (I := fun (v7 : Int32) (v8 : Int32) => ∀ ls : Array Slot, lv_has ls 19 [(0, .ref (ad 0)), (1, .int x1), (2, .int x2), (3, .int x3), (4, .int x4), (5, .int x5), (6, .int v7), (7, .int v8)] → W p l e (headSpec wsX8_cold rm_X8_cold).room s m [.ref (ad 0), .int x1, .int x2, .int x3, .int x4, .int x5].toArray below meth c H locs 0 0 (MQ below (va_Ql P (fun u t => qHp W2N e2 G ad u t.heap) (qA W2N ad s.heap.size)) [.ref (ad 0), .int x1, .int x2, .int x3, .int x4, .int x5].toArray s 0 0 (qA W2N ad s.heap.size)) (F0 m 65 ls [])) ?_ h _ (lv_sub hl [2, 3, 4, 5, 6, 7, 1, 0] rfl)
              intro v7 v8 h ls hl
              have h : qOk (kX8_cold_L65 M6 x1 v7 v8) _ := h
              unfold kX8_cold_L65 at h
              refine lv_iload hx hb dX8_cold_65 (lv_at hl 7 rfl) ?_
              refine lv_bipush (v := 8) hx hb dX8_cold_67 (by decide) ?_
              refine lv_icmp_ge (tgt := 98) hx hb dX8_cold_69 (by decide) (fun hc => ?_) (fun hc => ?_)
              · have h := qOk.t hc h
                exact qOk.le h _ (lv_sub hl [2, 3, 4, 5, 6] rfl)
              · have h := qOk.f hc h
                refine lv_iload hx hb dX8_cold_72 (lv_at hl 6 rfl) ?_
                refine lv_aload_n hx hb dX8_cold_74 rfl (lv_at hl 0 rfl) ?_
                refine lv_iload hx hb dX8_cold_75 (lv_at hl 7 rfl) ?_
                refine lv_iload_n hx hb dX8_cold_77 rfl (lv_at hl 1 rfl) ?_
                refine y_cs (va_runV (As := [.int v8, .int x1]) (rest := [.int v7]) ⟨hx, hb, hml, hown, hts⟩ (c_X8_sings l G ad hI M6 _ v8 x1 (qOk.b1 h)) (cwV 2 hts gX8_cold_X8_sings rfl rfl rfl (by decide +kernel) ⟨Nat.le_of_ble_eq_true rfl, Nat.le_of_ble_eq_true rfl⟩) ⟨qPre.blind, qrecv hK hH qOb_8 rfl, qPre.at hK hH⟩ rfl rfl hl.1 rfl (lv_room (Nat.le_of_ble_eq_true rfl)) dX8_cold_78 ⟨Nat.zero_le _, Nat.zero_le _⟩) (fun v10 h => ?_)
                refine qj1 (G := fun (v11 : Int32) => W p l e (headSpec wsX8_cold rm_X8_cold).room s m [.ref (ad 0), .int x1, .int x2, .int x3, .int x4, .int x5].toArray below meth c H locs 0 0 (MQ below (va_Ql P (fun u t => qHp W2N e2 G ad u t.heap) (qA W2N ad s.heap.size)) [.ref (ad 0), .int x1, .int x2, .int x3, .int x4, .int x5].toArray s 0 0 (qA W2N ad s.heap.size)) (F0 m 89 ls [.int v11, .int v7])) h ?_ ?_
                rotate_left
                · intro h
                  refine lv_if_eq (tgt := 88) hx hb dX8_cold_81 (by decide) (fun hc => ?_) (fun hc => ?_)
                  · have h := qOk.t hc h
                    refine lv_iconst (v := 0) hx hb dX8_cold_88 (by decide) ?_
                    have h := qOk.s h
                    exact h
                  · have h := qOk.f hc h
                    refine lv_iconst (v := 1) hx hb dX8_cold_84 (by decide) ?_
                    refine lv_goto (tgt := 89) hx hb dX8_cold_85 (by decide) ?_
                    have h := qOk.s h
                    exact h
                intro v11 h
                refine lv_iadd hx hb dX8_cold_89 ?_
                refine lv_topi (fun v12 ev12 => ?_)
                have h := qOk.v h ev12
                refine lv_istore (lv' := [(6, .int v12), (0, .ref (ad 0)), (1, .int x1), (2, .int x2), (3, .int x3), (4, .int x4), (5, .int x5), (7, .int v8)]) hx hb dX8_cold_90 hl (by decide) rfl (fun ls hl => ?_)
                obtain ⟨v13, ev13⟩ : ∃ y : Int32, y = v8 + 1 := ⟨_, rfl⟩
                have h := qOk.v h ev13
                refine lv_iinc (v := v13) (lv' := [(7, .int v13), (6, .int v12), (0, .ref (ad 0)), (1, .int x1), (2, .int x2), (3, .int x3), (4, .int x4), (5, .int x5)]) hx hb dX8_cold_92 hl (k := 7) rfl (by rw [ev13]; rfl) (by decide) rfl (fun ls hl => ?_)
                refine lv_goto (tgt := 65) hx hb dX8_cold_95 (by decide) ?_
                exact qOk.li h _ (lv_sub hl [2, 3, 4, 5, 6, 7, 1, 0] rfl)
            intro v9 h ls hl
            refine lv_iload hx hb dX8_cold_98 (lv_at hl 2 rfl) ?_
            refine lv_if_ne (tgt := 116) hx hb dX8_cold_100 (by decide) (fun hc => ?_) (fun hc => ?_)
            · have h := qOk.f hc h
              refine lv_ldc2 (v := 10) hx hb hown q178 dX8_cold_116 ?_
              refine lv_iload_n hx hb dX8_cold_119 rfl (lv_at hl 1 rfl) ?_
              refine y_cl (va_runS (As := [.long 10, .int x3]) (rest := []) ⟨hx, hb, hml, hown, hts⟩ (c_X8_power l 10 x3 (qOk.b1 h)) (va_cwS 2 hts gX8_cold_X8_power rfl rfl rfl (by decide +kernel) ⟨Nat.le_of_ble_eq_true rfl, Nat.le_of_ble_eq_true rfl⟩) ⟨qPrT.blind, qPrT.at⟩ rfl rfl hl.1 rfl (lv_room (Nat.le_of_ble_eq_true rfl)) dX8_cold_120 ⟨Nat.zero_le _, Nat.zero_le _⟩) (fun v14 h => ?_)
              refine lv_lstore (lv' := [(7, .long v14), (2, .int x2), (3, .int x3), (4, .int x4), (5, .int x5), (6, .int v9)]) hx hb dX8_cold_123 hl (by decide) rfl (fun ls hl => ?_)
              refine lv_ldc2 (v := 10) hx hb hown q178 dX8_cold_125 ?_
              refine lv_iload_n hx hb dX8_cold_128 rfl (lv_at hl 1 rfl) ?_
              refine lv_i2l (v := (x2 : Int32).toInt64) hx hb dX8_cold_129 rfl ?_
              refine lv_lsub hx hb dX8_cold_130 ?_
              refine lv_iload_n hx hb dX8_cold_131 rfl (lv_at hl 2 rfl) ?_
              refine y_cl (va_runS (As := [.long (10 - ((x2 : Int32).toInt64)), .int x3]) (rest := []) ⟨hx, hb, hml, hown, hts⟩ (c_X8_power l (10 - ((x2 : Int32).toInt64)) x3 (qOk.b1 h)) (va_cwS 2 hts gX8_cold_X8_power rfl rfl rfl (by decide +kernel) ⟨Nat.le_of_ble_eq_true rfl, Nat.le_of_ble_eq_true rfl⟩) ⟨qPrT.blind, qPrT.at⟩ rfl rfl hl.1 rfl (lv_room (Nat.le_of_ble_eq_true rfl)) dX8_cold_132 ⟨Nat.zero_le _, Nat.zero_le _⟩) (fun v15 h => ?_)
              refine lv_lstore (lv' := [(9, .long v15), (7, .long v14), (2, .int x2), (3, .int x3), (4, .int x4), (5, .int x5), (6, .int v9)]) hx hb dX8_cold_135 hl (by decide) rfl (fun ls hl => ?_)
              refine lv_iload hx hb dX8_cold_137 (lv_at hl 6 rfl) ?_
              refine lv_i2l (v := (v9 : Int32).toInt64) hx hb dX8_cold_139 rfl ?_
              refine lv_lload hx hb dX8_cold_140 (lv_at hl 0 rfl) ?_
              refine lv_lmul hx hb dX8_cold_142 ?_
              refine lv_topl (fun v16 ev16 => ?_)
              have h := qOk.v h ev16
              refine lv_lstore (lv' := [(11, .long v16), (9, .long v15), (7, .long v14), (2, .int x2), (3, .int x3), (4, .int x4), (5, .int x5), (6, .int v9)]) hx hb dX8_cold_143 hl (by decide) rfl (fun ls hl => ?_)
              refine lv_iload hx hb dX8_cold_145 (lv_at hl 5 rfl) ?_
              refine qj2 (G := fun (v17 : Int64) (v18 : Int64) => ∀ ls : Array Slot, lv_has ls 19 [(5, .int x5), (7, .long v17), (11, .long v18)] → W p l e (headSpec wsX8_cold rm_X8_cold).room s m [.ref (ad 0), .int x1, .int x2, .int x3, .int x4, .int x5].toArray below meth c H locs 0 0 (MQ below (va_Ql P (fun u t => qHp W2N e2 G ad u t.heap) (qA W2N ad s.heap.size)) [.ref (ad 0), .int x1, .int x2, .int x3, .int x4, .int x5].toArray s 0 0 (qA W2N ad s.heap.size)) (F0 m 179 ls [])) h ?_ ?_
              rotate_left
              · intro h
                refine lv_if_ne (tgt := 179) hx hb dX8_cold_147 (by decide) (fun hc => ?_) (fun hc => ?_)
                · have h := qOk.f hc h
                  have h := qOk.s h
                  exact h _ (lv_sub hl [6, 2, 0] rfl)
                · have h := qOk.t hc h
                  refine lv_lload hx hb dX8_cold_150 (lv_at hl 2 rfl) ?_
                  refine lv_iload hx hb dX8_cold_152 (lv_at hl 7 rfl) ?_
                  refine y_cl (va_runS (As := [.long v14, .int v9]) (rest := []) ⟨hx, hb, hml, hown, hts⟩ (c_X8_power l v14 v9 (qOk.b1 h)) (va_cwS 2 hts gX8_cold_X8_power rfl rfl rfl (by decide +kernel) ⟨Nat.le_of_ble_eq_true rfl, Nat.le_of_ble_eq_true rfl⟩) ⟨qPrT.blind, qPrT.at⟩ rfl rfl hl.1 rfl (lv_room (Nat.le_of_ble_eq_true rfl)) dX8_cold_154 ⟨Nat.zero_le _, Nat.zero_le _⟩) (fun v19 h => ?_)
                  refine lv_lload hx hb dX8_cold_157 (lv_at hl 2 rfl) ?_
                  refine lv_lload hx hb dX8_cold_159 (lv_at hl 1 rfl) ?_
                  refine lv_lsub hx hb dX8_cold_161 ?_
                  refine lv_iload hx hb dX8_cold_162 (lv_at hl 7 rfl) ?_
                  refine y_cl (va_runS (As := [.long (v14 - v15), .int v9]) (rest := [.long v19]) ⟨hx, hb, hml, hown, hts⟩ (c_X8_power l (v14 - v15) v9 (qOk.b1 h)) (va_cwS 2 hts gX8_cold_X8_power rfl rfl rfl (by decide +kernel) ⟨Nat.le_of_ble_eq_true rfl, Nat.le_of_ble_eq_true rfl⟩) ⟨qPrT.blind, qPrT.at⟩ rfl rfl hl.1 rfl (lv_room (Nat.le_of_ble_eq_true rfl)) dX8_cold_164 ⟨Nat.zero_le _, Nat.zero_le _⟩) (fun v20 h => ?_)
                  refine lv_lsub hx hb dX8_cold_167 ?_
                  refine lv_topl (fun v21 ev21 => ?_)
                  have h := qOk.v h ev21
                  refine lv_lstore (lv' := [(11, .long v21), (9, .long v15), (7, .long v14), (2, .int x2), (3, .int x3), (4, .int x4), (5, .int x5), (6, .int v9)]) hx hb dX8_cold_168 hl (by decide) rfl (fun ls hl => ?_)
                  refine lv_lload hx hb dX8_cold_170 (lv_at hl 2 rfl) ?_
                  refine lv_iload hx hb dX8_cold_172 (lv_at hl 7 rfl) ?_
                  refine y_cl (va_runS (As := [.long v14, .int v9]) (rest := []) ⟨hx, hb, hml, hown, hts⟩ (c_X8_power l v14 v9 (qOk.b1 h)) (va_cwS 2 hts gX8_cold_X8_power rfl rfl rfl (by decide +kernel) ⟨Nat.le_of_ble_eq_true rfl, Nat.le_of_ble_eq_true rfl⟩) ⟨qPrT.blind, qPrT.at⟩ rfl rfl hl.1 rfl (lv_room (Nat.le_of_ble_eq_true rfl)) dX8_cold_174 ⟨Nat.zero_le _, Nat.zero_le _⟩) (fun v22 h => ?_)
                  refine lv_lstore (lv' := [(7, .long v22), (11, .long v21), (9, .long v15), (2, .int x2), (3, .int x3), (4, .int x4), (5, .int x5), (6, .int v9)]) hx hb dX8_cold_177 hl (by decide) rfl (fun ls hl => ?_)
                  have h := qOk.s h
                  exact h _ (lv_sub hl [6, 0, 1] rfl)
              intro v17 v18 h ls hl
              refine lv_lload hx hb dX8_cold_179 (lv_at hl 2 rfl) ?_
              refine lv_lstore (lv' := [(13, .long v18), (5, .int x5), (7, .long v17), (11, .long v18)]) hx hb dX8_cold_181 hl (by decide) rfl (fun ls hl => ?_)
              refine lv_lload hx hb dX8_cold_183 (lv_at hl 2 rfl) ?_
              refine lv_lstore (lv' := [(15, .long v17), (13, .long v18), (5, .int x5), (7, .long v17), (11, .long v18)]) hx hb dX8_cold_185 hl (by decide) rfl (fun ls hl => ?_)
              refine qj1 (G := fun (v25 : Int64) => ∀ ls : Array Slot, lv_has ls 19 [(5, .int x5), (7, .long v17), (11, .long v18), (13, .long v25)] → W p l e (headSpec wsX8_cold rm_X8_cold).room s m [.ref (ad 0), .int x1, .int x2, .int x3, .int x4, .int x5].toArray below meth c H locs 0 0 (MQ below (va_Ql P (fun u t => qHp W2N e2 G ad u t.heap) (qA W2N ad s.heap.size)) [.ref (ad 0), .int x1, .int x2, .int x3, .int x4, .int x5].toArray s 0 0 (qA W2N ad s.heap.size)) (F0 m 212 ls [])) h ?_ ?_
              rotate_left
              · intro h
                refine qloop2 (I := fun (v23 : Int64) (v24 : Int64) => ∀ ls : Array Slot, lv_has ls 19 [(5, .int x5), (7, .long v17), (11, .long v18), (13, .long v23), (15, .long v24)] → W p l e (headSpec wsX8_cold rm_X8_cold).room s m [.ref (ad 0), .int x1, .int x2, .int x3, .int x4, .int x5].toArray below meth c H locs 0 0 (MQ below (va_Ql P (fun u t => qHp W2N e2 G ad u t.heap) (qA W2N ad s.heap.size)) [.ref (ad 0), .int x1, .int x2, .int x3, .int x4, .int x5].toArray s 0 0 (qA W2N ad s.heap.size)) (F0 m 187 ls [])) ?_ h _ (lv_sub hl [2, 3, 4, 1, 0] rfl)
                intro v23 v24 h ls hl
                have h : qOk (kX8_cold_L187 v23 v24) _ := h
                unfold kX8_cold_L187 at h
                refine lv_lload hx hb dX8_cold_187 (lv_at hl 4 rfl) ?_
                refine lv_lconst (v := 0) hx hb dX8_cold_189 (by decide) ?_
                refine W.lcmp hx hb dX8_cold_190 ?_
                refine lv_if_eq (tgt := 212) hx hb dX8_cold_191 (by decide) (fun hc => ?_) (fun hc => ?_)
                · have h := qOk.t hc h
                  exact qOk.le h _ (lv_sub hl [0, 1, 2, 3] rfl)
                · have h := qOk.f hc h
                  refine lv_lload hx hb dX8_cold_194 (lv_at hl 3 rfl) ?_
                  refine lv_lload hx hb dX8_cold_196 (lv_at hl 4 rfl) ?_
                  obtain ⟨hz, h⟩ := qOk.nl h
                  refine lv_lrem hx hb dX8_cold_198 hz ?_
                  refine lv_topl (fun v26 ev26 => ?_)
                  have h := qOk.v h ev26
                  refine lv_lstore (lv' := [(17, .long v26), (5, .int x5), (7, .long v17), (11, .long v18), (13, .long v23), (15, .long v24)]) hx hb dX8_cold_199 hl (by decide) rfl (fun ls hl => ?_)
                  refine lv_lload hx hb dX8_cold_201 (lv_at hl 5 rfl) ?_
                  refine lv_lstore (lv' := [(13, .long v24), (17, .long v26), (5, .int x5), (7, .long v17), (11, .long v18), (15, .long v24)]) hx hb dX8_cold_203 hl (by decide) rfl (fun ls hl => ?_)
                  refine lv_lload hx hb dX8_cold_205 (lv_at hl 1 rfl) ?_
                  refine lv_lstore (lv' := [(15, .long v26), (13, .long v24), (17, .long v26), (5, .int x5), (7, .long v17), (11, .long v18)]) hx hb dX8_cold_207 hl (by decide) rfl (fun ls hl => ?_)
                  refine lv_goto (tgt := 187) hx hb dX8_cold_209 (by decide) ?_
                  exact qOk.li h _ (lv_sub hl [3, 4, 5, 1, 0] rfl)
              intro v25 h ls hl
              refine lv_iload hx hb dX8_cold_212 (lv_at hl 0 rfl) ?_
              refine qj1 (G := fun (v27 : Int64) => W p l e (headSpec wsX8_cold rm_X8_cold).room s m [.ref (ad 0), .int x1, .int x2, .int x3, .int x4, .int x5].toArray below meth c H locs 0 0 (MQ below (va_Ql P (fun u t => qHp W2N e2 G ad u t.heap) (qA W2N ad s.heap.size)) [.ref (ad 0), .int x1, .int x2, .int x3, .int x4, .int x5].toArray s 0 0 (qA W2N ad s.heap.size)) (F0 m 230 ls [.long v27])) h ?_ ?_
              rotate_left
              · intro h
                refine lv_if_ne (tgt := 225) hx hb dX8_cold_214 (by decide) (fun hc => ?_) (fun hc => ?_)
                · have h := qOk.f hc h
                  refine lv_lload hx hb dX8_cold_225 (lv_at hl 1 rfl) ?_
                  refine lv_lload hx hb dX8_cold_227 (lv_at hl 3 rfl) ?_
                  obtain ⟨hz, h⟩ := qOk.nl h
                  refine lv_ldiv hx hb dX8_cold_229 hz ?_
                  have h := qOk.s h
                  exact h
                · have h := qOk.t hc h
                  refine lv_lload hx hb dX8_cold_217 (lv_at hl 2 rfl) ?_
                  refine lv_lload hx hb dX8_cold_219 (lv_at hl 3 rfl) ?_
                  obtain ⟨hz, h⟩ := qOk.nl h
                  refine lv_ldiv hx hb dX8_cold_221 hz ?_
                  refine lv_goto (tgt := 230) hx hb dX8_cold_222 (by decide) ?_
                  have h := qOk.s h
                  exact h
              intro v27 h
              exact W.lret hx hb hr (fun t ht _ => ⟨⟨_, _, rfl, qOk2.s h, qHpt ht hH.1⟩, hH.2.F ht⟩) hH.2.2.2 dX8_cold_230
            · have h := qOk.t hc h
              refine lv_iload_n hx hb dX8_cold_103 rfl (lv_at hl 1 rfl) ?_
              refine lv_iload hx hb dX8_cold_104 (lv_at hl 4 rfl) ?_
              refine lv_imul hx hb dX8_cold_106 ?_
              refine lv_bipush (v := 18) hx hb dX8_cold_107 (by decide) ?_
              refine lv_icmp_le (tgt := 116) hx hb dX8_cold_109 (by decide) (fun hc => ?_) (fun hc => ?_)
              · have h := qOk.t hc h
                refine lv_ldc2 (v := 10) hx hb hown q178 dX8_cold_116 ?_
                refine lv_iload_n hx hb dX8_cold_119 rfl (lv_at hl 1 rfl) ?_
                refine y_cl (va_runS (As := [.long 10, .int x3]) (rest := []) ⟨hx, hb, hml, hown, hts⟩ (c_X8_power l 10 x3 (qOk.b1 h)) (va_cwS 2 hts gX8_cold_X8_power rfl rfl rfl (by decide +kernel) ⟨Nat.le_of_ble_eq_true rfl, Nat.le_of_ble_eq_true rfl⟩) ⟨qPrT.blind, qPrT.at⟩ rfl rfl hl.1 rfl (lv_room (Nat.le_of_ble_eq_true rfl)) dX8_cold_120 ⟨Nat.zero_le _, Nat.zero_le _⟩) (fun v28 h => ?_)
                refine lv_lstore (lv' := [(7, .long v28), (2, .int x2), (3, .int x3), (4, .int x4), (5, .int x5), (6, .int v9)]) hx hb dX8_cold_123 hl (by decide) rfl (fun ls hl => ?_)
                refine lv_ldc2 (v := 10) hx hb hown q178 dX8_cold_125 ?_
                refine lv_iload_n hx hb dX8_cold_128 rfl (lv_at hl 1 rfl) ?_
                refine lv_i2l (v := (x2 : Int32).toInt64) hx hb dX8_cold_129 rfl ?_
                refine lv_lsub hx hb dX8_cold_130 ?_
                refine lv_iload_n hx hb dX8_cold_131 rfl (lv_at hl 2 rfl) ?_
                refine y_cl (va_runS (As := [.long (10 - ((x2 : Int32).toInt64)), .int x3]) (rest := []) ⟨hx, hb, hml, hown, hts⟩ (c_X8_power l (10 - ((x2 : Int32).toInt64)) x3 (qOk.b1 h)) (va_cwS 2 hts gX8_cold_X8_power rfl rfl rfl (by decide +kernel) ⟨Nat.le_of_ble_eq_true rfl, Nat.le_of_ble_eq_true rfl⟩) ⟨qPrT.blind, qPrT.at⟩ rfl rfl hl.1 rfl (lv_room (Nat.le_of_ble_eq_true rfl)) dX8_cold_132 ⟨Nat.zero_le _, Nat.zero_le _⟩) (fun v29 h => ?_)
                refine lv_lstore (lv' := [(9, .long v29), (7, .long v28), (2, .int x2), (3, .int x3), (4, .int x4), (5, .int x5), (6, .int v9)]) hx hb dX8_cold_135 hl (by decide) rfl (fun ls hl => ?_)
                refine lv_iload hx hb dX8_cold_137 (lv_at hl 6 rfl) ?_
                refine lv_i2l (v := (v9 : Int32).toInt64) hx hb dX8_cold_139 rfl ?_
                refine lv_lload hx hb dX8_cold_140 (lv_at hl 0 rfl) ?_
                refine lv_lmul hx hb dX8_cold_142 ?_
                refine lv_topl (fun v30 ev30 => ?_)
                have h := qOk.v h ev30
                refine lv_lstore (lv' := [(11, .long v30), (9, .long v29), (7, .long v28), (2, .int x2), (3, .int x3), (4, .int x4), (5, .int x5), (6, .int v9)]) hx hb dX8_cold_143 hl (by decide) rfl (fun ls hl => ?_)
                refine lv_iload hx hb dX8_cold_145 (lv_at hl 5 rfl) ?_
                refine qj2 (G := fun (v31 : Int64) (v32 : Int64) => ∀ ls : Array Slot, lv_has ls 19 [(5, .int x5), (7, .long v31), (11, .long v32)] → W p l e (headSpec wsX8_cold rm_X8_cold).room s m [.ref (ad 0), .int x1, .int x2, .int x3, .int x4, .int x5].toArray below meth c H locs 0 0 (MQ below (va_Ql P (fun u t => qHp W2N e2 G ad u t.heap) (qA W2N ad s.heap.size)) [.ref (ad 0), .int x1, .int x2, .int x3, .int x4, .int x5].toArray s 0 0 (qA W2N ad s.heap.size)) (F0 m 179 ls [])) h ?_ ?_
                rotate_left
                · intro h
                  refine lv_if_ne (tgt := 179) hx hb dX8_cold_147 (by decide) (fun hc => ?_) (fun hc => ?_)
                  · have h := qOk.f hc h
                    have h := qOk.s h
                    exact h _ (lv_sub hl [6, 2, 0] rfl)
                  · have h := qOk.t hc h
                    refine lv_lload hx hb dX8_cold_150 (lv_at hl 2 rfl) ?_
                    refine lv_iload hx hb dX8_cold_152 (lv_at hl 7 rfl) ?_
                    refine y_cl (va_runS (As := [.long v28, .int v9]) (rest := []) ⟨hx, hb, hml, hown, hts⟩ (c_X8_power l v28 v9 (qOk.b1 h)) (va_cwS 2 hts gX8_cold_X8_power rfl rfl rfl (by decide +kernel) ⟨Nat.le_of_ble_eq_true rfl, Nat.le_of_ble_eq_true rfl⟩) ⟨qPrT.blind, qPrT.at⟩ rfl rfl hl.1 rfl (lv_room (Nat.le_of_ble_eq_true rfl)) dX8_cold_154 ⟨Nat.zero_le _, Nat.zero_le _⟩) (fun v33 h => ?_)
                    refine lv_lload hx hb dX8_cold_157 (lv_at hl 2 rfl) ?_
                    refine lv_lload hx hb dX8_cold_159 (lv_at hl 1 rfl) ?_
                    refine lv_lsub hx hb dX8_cold_161 ?_
                    refine lv_iload hx hb dX8_cold_162 (lv_at hl 7 rfl) ?_
                    refine y_cl (va_runS (As := [.long (v28 - v29), .int v9]) (rest := [.long v33]) ⟨hx, hb, hml, hown, hts⟩ (c_X8_power l (v28 - v29) v9 (qOk.b1 h)) (va_cwS 2 hts gX8_cold_X8_power rfl rfl rfl (by decide +kernel) ⟨Nat.le_of_ble_eq_true rfl, Nat.le_of_ble_eq_true rfl⟩) ⟨qPrT.blind, qPrT.at⟩ rfl rfl hl.1 rfl (lv_room (Nat.le_of_ble_eq_true rfl)) dX8_cold_164 ⟨Nat.zero_le _, Nat.zero_le _⟩) (fun v34 h => ?_)
                    refine lv_lsub hx hb dX8_cold_167 ?_
                    refine lv_topl (fun v35 ev35 => ?_)
                    have h := qOk.v h ev35
                    refine lv_lstore (lv' := [(11, .long v35), (9, .long v29), (7, .long v28), (2, .int x2), (3, .int x3), (4, .int x4), (5, .int x5), (6, .int v9)]) hx hb dX8_cold_168 hl (by decide) rfl (fun ls hl => ?_)
                    refine lv_lload hx hb dX8_cold_170 (lv_at hl 2 rfl) ?_
                    refine lv_iload hx hb dX8_cold_172 (lv_at hl 7 rfl) ?_
                    refine y_cl (va_runS (As := [.long v28, .int v9]) (rest := []) ⟨hx, hb, hml, hown, hts⟩ (c_X8_power l v28 v9 (qOk.b1 h)) (va_cwS 2 hts gX8_cold_X8_power rfl rfl rfl (by decide +kernel) ⟨Nat.le_of_ble_eq_true rfl, Nat.le_of_ble_eq_true rfl⟩) ⟨qPrT.blind, qPrT.at⟩ rfl rfl hl.1 rfl (lv_room (Nat.le_of_ble_eq_true rfl)) dX8_cold_174 ⟨Nat.zero_le _, Nat.zero_le _⟩) (fun v36 h => ?_)
                    refine lv_lstore (lv' := [(7, .long v36), (11, .long v35), (9, .long v29), (2, .int x2), (3, .int x3), (4, .int x4), (5, .int x5), (6, .int v9)]) hx hb dX8_cold_177 hl (by decide) rfl (fun ls hl => ?_)
                    have h := qOk.s h
                    exact h _ (lv_sub hl [6, 0, 1] rfl)
                intro v31 v32 h ls hl
                refine lv_lload hx hb dX8_cold_179 (lv_at hl 2 rfl) ?_
                refine lv_lstore (lv' := [(13, .long v32), (5, .int x5), (7, .long v31), (11, .long v32)]) hx hb dX8_cold_181 hl (by decide) rfl (fun ls hl => ?_)
                refine lv_lload hx hb dX8_cold_183 (lv_at hl 2 rfl) ?_
                refine lv_lstore (lv' := [(15, .long v31), (13, .long v32), (5, .int x5), (7, .long v31), (11, .long v32)]) hx hb dX8_cold_185 hl (by decide) rfl (fun ls hl => ?_)
                refine qj1 (G := fun (v39 : Int64) => ∀ ls : Array Slot, lv_has ls 19 [(5, .int x5), (7, .long v31), (11, .long v32), (13, .long v39)] → W p l e (headSpec wsX8_cold rm_X8_cold).room s m [.ref (ad 0), .int x1, .int x2, .int x3, .int x4, .int x5].toArray below meth c H locs 0 0 (MQ below (va_Ql P (fun u t => qHp W2N e2 G ad u t.heap) (qA W2N ad s.heap.size)) [.ref (ad 0), .int x1, .int x2, .int x3, .int x4, .int x5].toArray s 0 0 (qA W2N ad s.heap.size)) (F0 m 212 ls [])) h ?_ ?_
                rotate_left
                · intro h
                  refine qloop2 (I := fun (v37 : Int64) (v38 : Int64) => ∀ ls : Array Slot, lv_has ls 19 [(5, .int x5), (7, .long v31), (11, .long v32), (13, .long v37), (15, .long v38)] → W p l e (headSpec wsX8_cold rm_X8_cold).room s m [.ref (ad 0), .int x1, .int x2, .int x3, .int x4, .int x5].toArray below meth c H locs 0 0 (MQ below (va_Ql P (fun u t => qHp W2N e2 G ad u t.heap) (qA W2N ad s.heap.size)) [.ref (ad 0), .int x1, .int x2, .int x3, .int x4, .int x5].toArray s 0 0 (qA W2N ad s.heap.size)) (F0 m 187 ls [])) ?_ h _ (lv_sub hl [2, 3, 4, 1, 0] rfl)
                  intro v37 v38 h ls hl
                  have h : qOk (kX8_cold_L187 v37 v38) _ := h
                  unfold kX8_cold_L187 at h
                  refine lv_lload hx hb dX8_cold_187 (lv_at hl 4 rfl) ?_
                  refine lv_lconst (v := 0) hx hb dX8_cold_189 (by decide) ?_
                  refine W.lcmp hx hb dX8_cold_190 ?_
                  refine lv_if_eq (tgt := 212) hx hb dX8_cold_191 (by decide) (fun hc => ?_) (fun hc => ?_)
                  · have h := qOk.t hc h
                    exact qOk.le h _ (lv_sub hl [0, 1, 2, 3] rfl)
                  · have h := qOk.f hc h
                    refine lv_lload hx hb dX8_cold_194 (lv_at hl 3 rfl) ?_
                    refine lv_lload hx hb dX8_cold_196 (lv_at hl 4 rfl) ?_
                    obtain ⟨hz, h⟩ := qOk.nl h
                    refine lv_lrem hx hb dX8_cold_198 hz ?_
                    refine lv_topl (fun v40 ev40 => ?_)
                    have h := qOk.v h ev40
                    refine lv_lstore (lv' := [(17, .long v40), (5, .int x5), (7, .long v31), (11, .long v32), (13, .long v37), (15, .long v38)]) hx hb dX8_cold_199 hl (by decide) rfl (fun ls hl => ?_)
                    refine lv_lload hx hb dX8_cold_201 (lv_at hl 5 rfl) ?_
                    refine lv_lstore (lv' := [(13, .long v38), (17, .long v40), (5, .int x5), (7, .long v31), (11, .long v32), (15, .long v38)]) hx hb dX8_cold_203 hl (by decide) rfl (fun ls hl => ?_)
                    refine lv_lload hx hb dX8_cold_205 (lv_at hl 1 rfl) ?_
                    refine lv_lstore (lv' := [(15, .long v40), (13, .long v38), (17, .long v40), (5, .int x5), (7, .long v31), (11, .long v32)]) hx hb dX8_cold_207 hl (by decide) rfl (fun ls hl => ?_)
                    refine lv_goto (tgt := 187) hx hb dX8_cold_209 (by decide) ?_
                    exact qOk.li h _ (lv_sub hl [3, 4, 5, 1, 0] rfl)
                intro v39 h ls hl
                refine lv_iload hx hb dX8_cold_212 (lv_at hl 0 rfl) ?_
                refine qj1 (G := fun (v41 : Int64) => W p l e (headSpec wsX8_cold rm_X8_cold).room s m [.ref (ad 0), .int x1, .int x2, .int x3, .int x4, .int x5].toArray below meth c H locs 0 0 (MQ below (va_Ql P (fun u t => qHp W2N e2 G ad u t.heap) (qA W2N ad s.heap.size)) [.ref (ad 0), .int x1, .int x2, .int x3, .int x4, .int x5].toArray s 0 0 (qA W2N ad s.heap.size)) (F0 m 230 ls [.long v41])) h ?_ ?_
                rotate_left
                · intro h
                  refine lv_if_ne (tgt := 225) hx hb dX8_cold_214 (by decide) (fun hc => ?_) (fun hc => ?_)
                  · have h := qOk.f hc h
                    refine lv_lload hx hb dX8_cold_225 (lv_at hl 1 rfl) ?_
                    refine lv_lload hx hb dX8_cold_227 (lv_at hl 3 rfl) ?_
                    obtain ⟨hz, h⟩ := qOk.nl h
                    refine lv_ldiv hx hb dX8_cold_229 hz ?_
                    have h := qOk.s h
                    exact h
                  · have h := qOk.t hc h
                    refine lv_lload hx hb dX8_cold_217 (lv_at hl 2 rfl) ?_
                    refine lv_lload hx hb dX8_cold_219 (lv_at hl 3 rfl) ?_
                    obtain ⟨hz, h⟩ := qOk.nl h
                    refine lv_ldiv hx hb dX8_cold_221 hz ?_
                    refine lv_goto (tgt := 230) hx hb dX8_cold_222 (by decide) ?_
                    have h := qOk.s h
                    exact h
                intro v41 h
                exact W.lret hx hb hr (fun t ht _ => ⟨⟨_, _, rfl, qOk2.s h, qHpt ht hH.1⟩, hH.2.F ht⟩) hH.2.2.2 dX8_cold_230
              · have h := qOk.f hc h
                refine lv_ldc2 (v := (-1000000000000000003)) hx hb hown q176 dX8_cold_112 ?_
                exact W.lret hx hb hr (fun t ht _ => ⟨⟨_, _, rfl, qOk2.s h, qHpt ht hH.1⟩, hH.2.F ht⟩) hH.2.2.2 dX8_cold_115
          · have h := qOk.t hc h
            refine lv_ldc2 (v := (-1000000000000000002)) hx hb hown q174 dX8_cold_51 ?_
            exact W.lret hx hb hr (fun t ht _ => ⟨⟨_, _, rfl, qOk2.s h, qHpt ht hH.1⟩, hH.2.F ht⟩) hH.2.2.2 dX8_cold_54
  · have h := qOk.t hc h
    refine lv_ldc2 (v := (-1000000000000000001)) hx hb hown q172 dX8_cold_7 ?_
    exact W.lret hx hb hr (fun t ht _ => ⟨⟨_, _, rfl, qOk2.s h, qHpt ht hH.1⟩, hH.2.F ht⟩) hH.2.2.2 dX8_cold_10
