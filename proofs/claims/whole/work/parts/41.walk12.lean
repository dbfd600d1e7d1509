abbrev rm_X8_shakes : Room := { frames := 3, cells := 0, slots := 0, locals := 65 }
set_option maxHeartbeats 4000000 in
set_option maxRecDepth 100000 in
theorem c_X8_shakes (l : Launch) (G : qG) (ad : Nat → Nat) (hI : qI W2N ad) (M : qM) (sz : Nat) {P : Int32 → qM → Prop} (h : qOk2 (kX8_shakes M) P) : Met l yX8_shakes wsX8_shakes rm_X8_shakes (va_Pc [.ref (ad 0)] (qPre W2N e2 G ad M sz)) (va_Qi P (fun u t => qHp W2N e2 G ad u t.heap) (qA W2N ad sz)) 0 0 (qA W2N ad sz) := by
  refine Met.ofW (cc := cX8_shakes) (maxL := 5) (ret := (some .int)) (by decide) rfl ?_
  intro p e s m args below meth c s₁ B hml hv
  obtain ⟨rfl, hsz, hK, hP⟩ := hv
  subst hsz
  have hx := B.exec
  have hb := B.bytes
  have hr := B.returns
  have hts := atoms_spec (ws := wsX8_shakes) B.pre
  have hown : s.vm.findClass RX8 = some m.cls := findClass_of_methodNamed B.named
  have hlocks := B.notSynchronized
  have hH : qHS W2N e2 G ad M s.heap s.heap [] := ⟨hP, va_S.rf⟩
  have f13 : (Cond.fieldLink RX8 13 "SongLampsModel" "now" "[I").before [.ref (ad 0)].toArray s = true := hts _ (by decide +kernel)
  have i_X8 : ∀ w ∈ wsX80, w ∈ wsX8_shakes := fun w hw => List.mem_cons_of_mem _ ((List.mem_append_right _ hw))
  have hl := lv_entry ([.ref (ad 0)]) (n := 5) (Nat.le_of_ble_eq_true rfl)
  rw [lg_entry_eq]
  generalize (lg_sl ([.ref (ad 0)]) ++ List.replicate (5 - (lg_sl ([.ref (ad 0)])).length) Slot.unset).toArray = ls at hl ⊢
  have hl : lv_has ls 5 [(0, .ref (ad 0))] := hl
  have h : qOk (kX8_shakes M) _ := h
  unfold kX8_shakes at h
  refine lv_aload_n hx hb dX8_shakes_0 rfl (lv_at hl 0 rfl) ?_
  refine y_cv hH (va_runV (As := []) (rest := []) ⟨hx, hb, hml, hown, hts⟩ (c_X8_asNow l G ad hI M _  (qOk.b1 h)) (cwV 0 hts gX8_shakes_X8_asNow rfl rfl rfl (by decide +kernel) ⟨Nat.le_of_ble_eq_true rfl, Nat.le_of_ble_eq_true rfl⟩) ⟨qPre.blind, qrecv hK hH qOb_8 rfl, qPre.at hK hH⟩ rfl rfl hl.1 rfl (lv_room (Nat.le_of_ble_eq_true rfl)) dX8_shakes_1 ⟨Nat.zero_le _, Nat.zero_le _⟩) (fun M1 H locs hH h => ?_)
  refine lv_iconst (v := 0) hx hb dX8_shakes_4 (by decide) ?_
  refine lv_istore_n (lv' := [(1, .int 0), (0, .ref (ad 0))]) hx hb dX8_shakes_5 rfl hl (by decide) rfl (fun ls hl => ?_)
  refine lv_iconst (v := 0) hx hb dX8_shakes_6 (by decide) ?_
  refine lv_istore_n (lv' := [(2, .int 0), (1, .int 0), (0, .ref (ad 0))]) hx hb dX8_shakes_7 rfl hl (by decide) rfl (fun ls hl => ?_)
  refine qj1 (G := fun (v4 : Int32) => ∀ ls : Array Slot, lv_has ls 5 [(1, .int v4)] → W p l e (headSpec wsX8_shakes rm_X8_shakes).room s m [.ref (ad 0)].toArray below meth c H locs 0 0 (MQ below (va_Qi P (fun u t => qHp W2N e2 G ad u t.heap) (qA W2N ad s.heap.size)) [.ref (ad 0)].toArray s 0 0 (qA W2N ad s.heap.size)) (F0 m 93 ls [])) h ?_ ?_
  rotate_left
  · intro h
    refine qloop2 (I := fun (v2 : Int32) (v3 : Int32) => ∀ ls : Array Slot, lv_has ls 5 [(0, .ref (ad 0)), (1, .int v2), (2, .int v3)] → W p l e (headSpec wsX8_shakes rm_X8_shakes).room s m [.ref (ad 0)].toArray below meth c H locs 0 0 (MQ below (va_Qi P (fun u t => qHp W2N e2 G ad u t.heap) (qA W2N ad s.heap.size)) [.ref (ad 0)].toArray s 0 0 (qA W2N ad s.heap.size)) (F0 m 8 ls [])) ?_ h _ (lv_sub hl [2, 1, 0] rfl)
    intro v2 v3 h ls hl
    have h : qOk (kX8_shakes_L8 M1 v2 v3) _ := h
    unfold kX8_shakes_L8 at h
    refine lv_iload_n hx hb dX8_shakes_8 rfl (lv_at hl 2 rfl) ?_
    refine lv_bipush (v := 8) hx hb dX8_shakes_9 (by decide) ?_
    refine lv_icmp_ge (tgt := 93) hx hb dX8_shakes_11 (by decide) (fun hc => ?_) (fun hc => ?_)
    · have h := qOk.t hc h
      exact qOk.le h _ (lv_sub hl [1] rfl)
    · have h := qOk.f hc h
      refine lv_iconst (v := 0) hx hb dX8_shakes_14 (by decide) ?_
      refine lv_istore_n (lv' := [(3, .int 0), (0, .ref (ad 0)), (1, .int v2), (2, .int v3)]) hx hb dX8_shakes_15 rfl hl (by decide) rfl (fun ls hl => ?_)
      refine qj1 (G := fun (v7 : Int32) => ∀ ls : Array Slot, lv_has ls 5 [(0, .ref (ad 0)), (1, .int v7), (2, .int v3)] → W p l e (headSpec wsX8_shakes rm_X8_shakes).room s m [.ref (ad 0)].toArray below meth c H locs 0 0 (MQ below (va_Qi P (fun u t => qHp W2N e2 G ad u t.heap) (qA W2N ad s.heap.size)) [.ref (ad 0)].toArray s 0 0 (qA W2N ad s.heap.size)) (F0 m 87 ls [])) h ?_ ?_
      rotate_left
      · intro h
        refine qloop2 (I := fun (v5 : Int32) (v6 : Int32) => ∀ ls : Array Slot, lv_has ls 5 [(0, .ref (ad 0)), (1, .int v5), (2, .int v3), (3, .int v6)] → W p l e (headSpec wsX8_shakes rm_X8_shakes).room s m [.ref (ad 0)].toArray below meth c H locs 0 0 (MQ below (va_Qi P (fun u t => qHp W2N e2 G ad u t.heap) (qA W2N ad s.heap.size)) [.ref (ad 0)].toArray s 0 0 (qA W2N ad s.heap.size)) (F0 m 16 ls [])) ?_ h _ (lv_sub hl [1, 2, 3, 0] rfl)
        intro v5 v6 h ls hl
        have h : qOk (kX8_shakes_L16 M1 v3 v5 v6) _ := h
        unfold kX8_shakes_L16 at h
        refine lv_iload_n hx hb dX8_shakes_16 rfl (lv_at hl 3 rfl) ?_
        refine lv_bipush (v := 8) hx hb dX8_shakes_17 (by decide) ?_
        refine lv_icmp_ge (tgt := 87) hx hb dX8_shakes_19 (by decide) (fun hc => ?_) (fun hc => ?_)
        · have h := qOk.t hc h
          exact qOk.le h _ (lv_sub hl [0, 1, 2] rfl)
        · have h := qOk.f hc h
          refine lv_aload_n hx hb dX8_shakes_22 rfl (lv_at hl 0 rfl) ?_
          refine y_get hx hb hts i_X8 hown hK hH qOb_8 rfl 1 (by decide) f13 rfl dX8_shakes_23 ?_
          refine lv_bipush (v := 16) hx hb dX8_shakes_26 (by decide) ?_
          refine lv_iload_n hx hb dX8_shakes_28 rfl (lv_at hl 2 rfl) ?_
          refine lv_iadd hx hb dX8_shakes_29 ?_
          refine y_iald hx hb hK hH qMr_2 h dX8_shakes_30 (fun v8 h => ?_)
          refine lv_istore (lv' := [(4, .int v8), (0, .ref (ad 0)), (1, .int v5), (2, .int v3), (3, .int v6)]) hx hb dX8_shakes_31 hl (by decide) rfl (fun ls hl => ?_)
          refine lv_iload_n hx hb dX8_shakes_33 rfl (lv_at hl 2 rfl) ?_
          refine lv_aload_n hx hb dX8_shakes_34 rfl (lv_at hl 1 rfl) ?_
          refine lv_iload_n hx hb dX8_shakes_35 rfl (lv_at hl 3 rfl) ?_
          refine lv_iload hx hb dX8_shakes_36 (lv_at hl 0 rfl) ?_
          refine y_cs (va_runV (As := [.int v3, .int v8]) (rest := [.int v5]) ⟨hx, hb, hml, hown, hts⟩ (c_X8_sings l G ad hI M1 _ v3 v8 (qOk.b1 h)) (cwV 2 hts gX8_shakes_X8_sings rfl rfl rfl (by decide +kernel) ⟨Nat.le_of_ble_eq_true rfl, Nat.le_of_ble_eq_true rfl⟩) ⟨qPre.blind, qrecv hK hH qOb_8 rfl, qPre.at hK hH⟩ rfl rfl hl.1 rfl (lv_room (Nat.le_of_ble_eq_true rfl)) dX8_shakes_38 ⟨Nat.zero_le _, Nat.zero_le _⟩) (fun v9 h => ?_)
          refine qj1 (G := fun (v10 : Int32) => W p l e (headSpec wsX8_shakes rm_X8_shakes).room s m [.ref (ad 0)].toArray below meth c H locs 0 0 (MQ below (va_Qi P (fun u t => qHp W2N e2 G ad u t.heap) (qA W2N ad s.heap.size)) [.ref (ad 0)].toArray s 0 0 (qA W2N ad s.heap.size)) (F0 m 79 ls [.int v10, .int v5])) h ?_ ?_
          rotate_left
          · intro h
            refine lv_if_eq (tgt := 78) hx hb dX8_shakes_41 (by decide) (fun hc => ?_) (fun hc => ?_)
            · have h := qOk.t hc h
              refine lv_iconst (v := 0) hx hb dX8_shakes_78 (by decide) ?_
              have h := qOk.s h
              exact h
            · have h := qOk.f hc h
              refine lv_aload_n hx hb dX8_shakes_44 rfl (lv_at hl 1 rfl) ?_
              refine lv_iload_n hx hb dX8_shakes_45 rfl (lv_at hl 4 rfl) ?_
              refine lv_iload hx hb dX8_shakes_46 (lv_at hl 0 rfl) ?_
              refine y_cs (va_runV (As := [.int v6, .int v8]) (rest := [.int v5]) ⟨hx, hb, hml, hown, hts⟩ (c_X8_sings l G ad hI M1 _ v6 v8 (qOk.b1 h)) (cwV 2 hts gX8_shakes_X8_sings rfl rfl rfl (by decide +kernel) ⟨Nat.le_of_ble_eq_true rfl, Nat.le_of_ble_eq_true rfl⟩) ⟨qPre.blind, qrecv hK hH qOb_8 rfl, qPre.at hK hH⟩ rfl rfl hl.1 rfl (lv_room (Nat.le_of_ble_eq_true rfl)) dX8_shakes_48 ⟨Nat.zero_le _, Nat.zero_le _⟩) (fun v11 h => ?_)
              refine lv_if_eq (tgt := 78) hx hb dX8_shakes_51 (by decide) (fun hc => ?_) (fun hc => ?_)
              · have h := qOk.t hc h
                refine lv_iconst (v := 0) hx hb dX8_shakes_78 (by decide) ?_
                have h := qOk.s h
                exact h
              · have h := qOk.f hc h
                refine lv_aload_n hx hb dX8_shakes_54 rfl (lv_at hl 1 rfl) ?_
                refine y_get hx hb hts i_X8 hown hK hH qOb_8 rfl 1 (by decide) f13 rfl dX8_shakes_55 ?_
                refine lv_iload_n hx hb dX8_shakes_58 rfl (lv_at hl 3 rfl) ?_
                refine y_iald hx hb hK hH qMr_2 h dX8_shakes_59 (fun v12 h => ?_)
                refine lv_aload_n hx hb dX8_shakes_60 rfl (lv_at hl 1 rfl) ?_
                refine y_get hx hb hts i_X8 hown hK hH qOb_8 rfl 1 (by decide) f13 rfl dX8_shakes_61 ?_
                refine lv_iload_n hx hb dX8_shakes_64 rfl (lv_at hl 4 rfl) ?_
                refine y_iald hx hb hK hH qMr_2 h dX8_shakes_65 (fun v13 h => ?_)
                refine lv_iconst (v := 1) hx hb dX8_shakes_66 (by decide) ?_
                refine lv_iadd hx hb dX8_shakes_67 ?_
                refine lv_icmp_ne (tgt := 78) hx hb dX8_shakes_68 (by decide) (fun hc => ?_) (fun hc => ?_)
                · have h := qOk.f hc h
                  refine lv_iconst (v := 0) hx hb dX8_shakes_78 (by decide) ?_
                  have h := qOk.s h
                  exact h
                · have h := qOk.t hc h
                  refine lv_iconst (v := 1) hx hb dX8_shakes_71 (by decide) ?_
                  refine lv_iload hx hb dX8_shakes_72 (lv_at hl 0 rfl) ?_
                  refine lv_ishl hx hb dX8_shakes_74 ?_
                  refine lv_goto (tgt := 79) hx hb dX8_shakes_75 (by decide) ?_
                  have h := qOk.s h
                  exact h
          intro v10 h
          refine lv_ior hx hb dX8_shakes_79 ?_
          refine lv_topi (fun v14 ev14 => ?_)
          have h := qOk.v h ev14
          refine lv_istore_n (lv' := [(1, .int v14), (4, .int v8), (0, .ref (ad 0)), (2, .int v3), (3, .int v6)]) hx hb dX8_shakes_80 rfl hl (by decide) rfl (fun ls hl => ?_)
          obtain ⟨v15, ev15⟩ : ∃ y : Int32, y = v6 + 1 := ⟨_, rfl⟩
          have h := qOk.v h ev15
          refine lv_iinc (v := v15) (lv' := [(3, .int v15), (1, .int v14), (4, .int v8), (0, .ref (ad 0)), (2, .int v3)]) hx hb dX8_shakes_81 hl (k := 4) rfl (by rw [ev15]; rfl) (by decide) rfl (fun ls hl => ?_)
          refine lv_goto (tgt := 16) hx hb dX8_shakes_84 (by decide) ?_
          exact qOk.li h _ (lv_sub hl [3, 1, 4, 0] rfl)
      intro v7 h ls hl
      obtain ⟨v16, ev16⟩ : ∃ y : Int32, y = v3 + 1 := ⟨_, rfl⟩
      have h := qOk.v h ev16
      refine lv_iinc (v := v16) (lv' := [(2, .int v16), (0, .ref (ad 0)), (1, .int v7)]) hx hb dX8_shakes_87 hl (k := 2) rfl (by rw [ev16]; rfl) (by decide) rfl (fun ls hl => ?_)
      refine lv_goto (tgt := 8) hx hb dX8_shakes_90 (by decide) ?_
      exact qOk.li h _ (lv_sub hl [1, 2, 0] rfl)
  intro v4 h ls hl
  refine lv_iload_n hx hb dX8_shakes_93 rfl (lv_at hl 0 rfl) ?_
  exact W.iret hx hb hr (fun t ht _ => ⟨⟨_, _, rfl, qOk2.s h, qHpt ht hH.1⟩, hH.2.F ht⟩) hH.2.2.2 dX8_shakes_94
abbrev rm_X8_layFar : Room := { frames := 1, cells := 0, slots := 0, locals := 21 }
set_option maxHeartbeats 4000000 in
set_option maxRecDepth 100000 in
theorem c_X8_layFar (l : Launch) (G : qG) (ad : Nat → Nat) (hI : qI W2N ad) (M : qM) (sz : Nat) (x1 : Int32) (x2 : Int32) {P : qM → Prop} (h : qOk (kX8_layFar M x1 x2) P) : Met l yX8_layFar wsX8_layFar rm_X8_layFar (va_Pc [.ref (ad 0), .int x1, .int x2] (qPre W2N e2 G ad M sz)) (va_Qv P (fun u t => qHp W2N e2 G ad u t.heap) (qA W2N ad sz)) 0 0 (qA W2N ad sz) := by
  refine Met.ofW (cc := cX8_layFar) (maxL := 6) (ret := none) (by decide) rfl ?_
  intro p e s m args below meth c s₁ B hml hv
  obtain ⟨rfl, hsz, hK, hP⟩ := hv
  subst hsz
  have hx := B.exec
  have hb := B.bytes
  have hr := B.returns
  have hts := atoms_spec (ws := wsX8_layFar) B.pre
  have hown : s.vm.findClass RX8 = some m.cls := findClass_of_methodNamed B.named
  have hlocks := B.notSynchronized
  have hH : qHS W2N e2 G ad M s.heap s.heap [] := ⟨hP, va_S.rf⟩
  have f40 : (Cond.fieldLink RX8 40 "SongLampsModel" "far" "[I").before [.ref (ad 0), .int x1, .int x2].toArray s = true := hts _ (by decide +kernel)
  have i_X8 : ∀ w ∈ wsX80, w ∈ wsX8_layFar := fun w hw => List.mem_cons_of_mem _ ((List.mem_append_right _ hw))
  have q144 : (Cond.constant RX8 144 (1000000)).before [.ref (ad 0), .int x1, .int x2].toArray s = true := hts _ (by decide +kernel)
  have f25 : (Cond.fieldLink RX8 25 "SongLampsModel" "passages" "[I").before [.ref (ad 0), .int x1, .int x2].toArray s = true := hts _ (by decide +kernel)
  have hl := lv_entry ([.ref (ad 0), .int x1, .int x2]) (n := 6) (Nat.le_of_ble_eq_true rfl)
  rw [lg_entry_eq]
  generalize (lg_sl ([.ref (ad 0), .int x1, .int x2]) ++ List.replicate (6 - (lg_sl ([.ref (ad 0), .int x1, .int x2])).length) Slot.unset).toArray = ls at hl ⊢
  have hl : lv_has ls 6 [(0, .ref (ad 0)), (1, .int x1), (2, .int x2)] := hl
  have h : qOk (kX8_layFar M x1 x2) _ := h
  unfold kX8_layFar at h
  refine lv_iconst (v := 0) hx hb dX8_layFar_0 (by decide) ?_
  refine lv_istore_n (lv' := [(3, .int 0), (0, .ref (ad 0)), (1, .int x1), (2, .int x2)]) hx hb dX8_layFar_1 rfl hl (by decide) rfl (fun ls hl => ?_)
  refine qj1 (G := fun (M3 : qM) => ∀ (H : Heap) (locs : List Loc), qHS W2N e2 G ad M3 s.heap H locs → ∀ ls : Array Slot, lv_has ls 6 [(0, .ref (ad 0)), (2, .int x2)] → W p l e (headSpec wsX8_layFar rm_X8_layFar).room s m [.ref (ad 0), .int x1, .int x2].toArray below meth c H locs 0 0 (MQ below (va_Qv P (fun u t => qHp W2N e2 G ad u t.heap) (qA W2N ad s.heap.size)) [.ref (ad 0), .int x1, .int x2].toArray s 0 0 (qA W2N ad s.heap.size)) (F0 m 39 ls [])) h ?_ ?_
  rotate_left
  · intro h
    refine qloop2 (I := fun (v1 : Int32) (M2 : qM) => ∀ (H : Heap) (locs : List Loc), qHS W2N e2 G ad M2 s.heap H locs → ∀ ls : Array Slot, lv_has ls 6 [(0, .ref (ad 0)), (1, .int x1), (2, .int x2), (3, .int v1)] → W p l e (headSpec wsX8_layFar rm_X8_layFar).room s m [.ref (ad 0), .int x1, .int x2].toArray below meth c H locs 0 0 (MQ below (va_Qv P (fun u t => qHp W2N e2 G ad u t.heap) (qA W2N ad s.heap.size)) [.ref (ad 0), .int x1, .int x2].toArray s 0 0 (qA W2N ad s.heap.size)) (F0 m 2 ls [])) ?_ h _ _ hH _ (lv_sub hl [1, 2, 3, 0] rfl)
    intro v1 M2 h H locs hH ls hl
    have h : qOk (kX8_layFar_L2 x1 x2 v1 M2) _ := h
    unfold kX8_layFar_L2 at h
    refine lv_iload_n hx hb dX8_layFar_2 rfl (lv_at hl 3 rfl) ?_
    refine lv_bipush (v := 10) hx hb dX8_layFar_3 (by decide) ?_
    refine lv_icmp_ge (tgt := 39) hx hb dX8_layFar_5 (by decide) (fun hc => ?_) (fun hc => ?_)
    · have h := qOk.t hc h
      exact qOk.le h _ _ hH _ (lv_sub hl [0, 2] rfl)
    · have h := qOk.f hc h
      refine lv_aload_n hx hb dX8_layFar_8 rfl (lv_at hl 0 rfl) ?_
      refine y_get hx hb hts i_X8 hown hK hH qOb_8 rfl 18 (by decide) f40 rfl dX8_layFar_9 ?_
      refine lv_iload_n hx hb dX8_layFar_12 rfl (lv_at hl 3 rfl) ?_
      refine lv_iload_n hx hb dX8_layFar_13 rfl (lv_at hl 3 rfl) ?_
      refine lv_iload_n hx hb dX8_layFar_14 rfl (lv_at hl 1 rfl) ?_
      refine qj1 (G := fun (v4 : Int32) => W p l e (headSpec wsX8_layFar rm_X8_layFar).room s m [.ref (ad 0), .int x1, .int x2].toArray below meth c H locs 0 0 (MQ below (va_Qv P (fun u t => qHp W2N e2 G ad u t.heap) (qA W2N ad s.heap.size)) [.ref (ad 0), .int x1, .int x2].toArray s 0 0 (qA W2N ad s.heap.size)) (F0 m 32 ls [.int v4, .int v1, .ref (ad 11)])) h ?_ ?_
      rotate_left
      · intro h
        refine lv_icmp_ne (tgt := 30) hx hb dX8_layFar_15 (by decide) (fun hc => ?_) (fun hc => ?_)
        · have h := qOk.f hc h
          refine lv_ldc (v := 1000000) hx hb hown q144 dX8_layFar_30 ?_
          have h := qOk.s h
          exact h
        · have h := qOk.t hc h
          refine lv_iload_n hx hb dX8_layFar_18 rfl (lv_at hl 2 rfl) ?_
          refine lv_iload_n hx hb dX8_layFar_19 rfl (lv_at hl 3 rfl) ?_
          refine y_cs (va_runS (As := [.int x2, .int v1]) (rest := [.int v1, .ref (ad 11)]) ⟨hx, hb, hml, hown, hts⟩ (c_X8_has l x2 v1 (qOk.b1 h)) (va_cwS 2 hts gX8_layFar_X8_has rfl rfl rfl (by decide +kernel) ⟨Nat.le_of_ble_eq_true rfl, Nat.le_of_ble_eq_true rfl⟩) ⟨qPrT.blind, qPrT.at⟩ rfl rfl hl.1 rfl (lv_room (Nat.le_of_ble_eq_true rfl)) dX8_layFar_20 ⟨Nat.zero_le _, Nat.zero_le _⟩) (fun v5 h => ?_)
          refine lv_if_eq (tgt := 30) hx hb dX8_layFar_23 (by decide) (fun hc => ?_) (fun hc => ?_)
          · have h := qOk.t hc h
            refine lv_ldc (v := 1000000) hx hb hown q144 dX8_layFar_30 ?_
            have h := qOk.s h
            exact h
          · have h := qOk.f hc h
            refine lv_iconst (v := 0) hx hb dX8_layFar_26 (by decide) ?_
            refine lv_goto (tgt := 32) hx hb dX8_layFar_27 (by decide) ?_
            have h := qOk.s h
            exact h
      intro v4 h
      refine y_iast hx hb hK hI hH qMr_11 h dX8_layFar_32 (fun M6 H locs hH h => ?_)
      obtain ⟨v7, ev7⟩ : ∃ y : Int32, y = v1 + 1 := ⟨_, rfl⟩
      have h := qOk.v h ev7
      refine lv_iinc (v := v7) (lv' := [(3, .int v7), (0, .ref (ad 0)), (1, .int x1), (2, .int x2)]) hx hb dX8_layFar_33 hl (k := 3) rfl (by rw [ev7]; rfl) (by decide) rfl (fun ls hl => ?_)
      refine lv_goto (tgt := 2) hx hb dX8_layFar_36 (by decide) ?_
      exact qOk.li h _ _ hH _ (lv_sub hl [1, 2, 3, 0] rfl)
  intro M3 h H locs hH ls hl
  refine lv_iconst (v := 0) hx hb dX8_layFar_39 (by decide) ?_
  refine lv_istore_n (lv' := [(3, .int 0), (0, .ref (ad 0)), (2, .int x2)]) hx hb dX8_layFar_40 rfl hl (by decide) rfl (fun ls hl => ?_)
  refine qj1 (G := fun (M10 : qM) => ∀ (H : Heap) (locs : List Loc), qHS W2N e2 G ad M10 s.heap H locs → ∀ ls : Array Slot, lv_has ls 6 [] → W p l e (headSpec wsX8_layFar rm_X8_layFar).room s m [.ref (ad 0), .int x1, .int x2].toArray below meth c H locs 0 0 (MQ below (va_Qv P (fun u t => qHp W2N e2 G ad u t.heap) (qA W2N ad s.heap.size)) [.ref (ad 0), .int x1, .int x2].toArray s 0 0 (qA W2N ad s.heap.size)) (F0 m 154 ls [])) h ?_ ?_
  rotate_left
  · intro h
    refine qloop2 (I := fun (v8 : Int32) (M9 : qM) => ∀ (H : Heap) (locs : List Loc), qHS W2N e2 G ad M9 s.heap H locs → ∀ ls : Array Slot, lv_has ls 6 [(0, .ref (ad 0)), (2, .int x2), (3, .int v8)] → W p l e (headSpec wsX8_layFar rm_X8_layFar).room s m [.ref (ad 0), .int x1, .int x2].toArray below meth c H locs 0 0 (MQ below (va_Qv P (fun u t => qHp W2N e2 G ad u t.heap) (qA W2N ad s.heap.size)) [.ref (ad 0), .int x1, .int x2].toArray s 0 0 (qA W2N ad s.heap.size)) (F0 m 41 ls [])) ?_ h _ _ hH _ (lv_sub hl [1, 2, 0] rfl)
    intro v8 M9 h H locs hH ls hl
    have h : qOk (kX8_layFar_L41 x2 v8 M9) _ := h
    unfold kX8_layFar_L41 at h
    refine lv_iload_n hx hb dX8_layFar_41 rfl (lv_at hl 2 rfl) ?_
    refine lv_bipush (v := 10) hx hb dX8_layFar_42 (by decide) ?_
    refine lv_icmp_ge (tgt := 154) hx hb dX8_layFar_44 (by decide) (fun hc => ?_) (fun hc => ?_)
    · have h := qOk.t hc h
      exact qOk.le h _ _ hH _ (lv_sub hl [] rfl)
    · have h := qOk.f hc h
      refine lv_iconst (v := 0) hx hb dX8_layFar_47 (by decide) ?_
      refine lv_istore (lv' := [(4, .int 0), (0, .ref (ad 0)), (2, .int x2), (3, .int v8)]) hx hb dX8_layFar_48 hl (by decide) rfl (fun ls hl => ?_)
      refine qj1 (G := fun (M13 : qM) => ∀ (H : Heap) (locs : List Loc), qHS W2N e2 G ad M13 s.heap H locs → ∀ ls : Array Slot, lv_has ls 6 [(0, .ref (ad 0)), (2, .int x2), (3, .int v8)] → W p l e (headSpec wsX8_layFar rm_X8_layFar).room s m [.ref (ad 0), .int x1, .int x2].toArray below meth c H locs 0 0 (MQ below (va_Qv P (fun u t => qHp W2N e2 G ad u t.heap) (qA W2N ad s.heap.size)) [.ref (ad 0), .int x1, .int x2].toArray s 0 0 (qA W2N ad s.heap.size)) (F0 m 148 ls [])) h ?_ ?_
      rotate_left
      · intro h
        refine qloop2 (I := fun (v11 : Int32) (M12 : qM) => ∀ (H : Heap) (locs : List Loc), qHS W2N e2 G ad M12 s.heap H locs → ∀ ls : Array Slot, lv_has ls 6 [(0, .ref (ad 0)), (2, .int x2), (3, .int v8), (4, .int v11)] → W p l e (headSpec wsX8_layFar rm_X8_layFar).room s m [.ref (ad 0), .int x1, .int x2].toArray below meth c H locs 0 0 (MQ below (va_Qv P (fun u t => qHp W2N e2 G ad u t.heap) (qA W2N ad s.heap.size)) [.ref (ad 0), .int x1, .int x2].toArray s 0 0 (qA W2N ad s.heap.size)) (F0 m 50 ls [])) ?_ h _ _ hH _ (lv_sub hl [1, 2, 3, 0] rfl)
        intro v11 M12 h H locs hH ls hl
        have h : qOk (kX8_layFar_L50 x2 v11 M12) _ := h
        unfold kX8_layFar_L50 at h
        refine lv_iload hx hb dX8_layFar_50 (lv_at hl 3 rfl) ?_
        refine lv_bipush (v := 10) hx hb dX8_layFar_52 (by decide) ?_
        refine lv_icmp_ge (tgt := 148) hx hb dX8_layFar_54 (by decide) (fun hc => ?_) (fun hc => ?_)
        · have h := qOk.t hc h
          exact qOk.le h _ _ hH _ (lv_sub hl [0, 1, 2] rfl)
        · have h := qOk.f hc h
          refine lv_iconst (v := 0) hx hb dX8_layFar_57 (by decide) ?_
          refine lv_istore (lv' := [(5, .int 0), (0, .ref (ad 0)), (2, .int x2), (3, .int v8), (4, .int v11)]) hx hb dX8_layFar_58 hl (by decide) rfl (fun ls hl => ?_)
          refine qj1 (G := fun (M16 : qM) => ∀ (H : Heap) (locs : List Loc), qHS W2N e2 G ad M16 s.heap H locs → ∀ ls : Array Slot, lv_has ls 6 [(0, .ref (ad 0)), (2, .int x2), (3, .int v8), (4, .int v11)] → W p l e (headSpec wsX8_layFar rm_X8_layFar).room s m [.ref (ad 0), .int x1, .int x2].toArray below meth c H locs 0 0 (MQ below (va_Qv P (fun u t => qHp W2N e2 G ad u t.heap) (qA W2N ad s.heap.size)) [.ref (ad 0), .int x1, .int x2].toArray s 0 0 (qA W2N ad s.heap.size)) (F0 m 142 ls [])) h ?_ ?_
          rotate_left
          · intro h
            refine qloop2 (I := fun (v14 : Int32) (M15 : qM) => ∀ (H : Heap) (locs : List Loc), qHS W2N e2 G ad M15 s.heap H locs → ∀ ls : Array Slot, lv_has ls 6 [(0, .ref (ad 0)), (2, .int x2), (3, .int v8), (4, .int v11), (5, .int v14)] → W p l e (headSpec wsX8_layFar rm_X8_layFar).room s m [.ref (ad 0), .int x1, .int x2].toArray below meth c H locs 0 0 (MQ below (va_Qv P (fun u t => qHp W2N e2 G ad u t.heap) (qA W2N ad s.heap.size)) [.ref (ad 0), .int x1, .int x2].toArray s 0 0 (qA W2N ad s.heap.size)) (F0 m 60 ls [])) ?_ h _ _ hH _ (lv_sub hl [1, 2, 3, 4, 0] rfl)
            intro v14 M15 h H locs hH ls hl
            have h : qOk (kX8_layFar_L60 v11 x2 v14 M15) _ := h
            unfold kX8_layFar_L60 at h
            refine lv_iload hx hb dX8_layFar_60 (lv_at hl 4 rfl) ?_
            refine lv_bipush (v := 10) hx hb dX8_layFar_62 (by decide) ?_
            refine lv_icmp_ge (tgt := 142) hx hb dX8_layFar_64 (by decide) (fun hc => ?_) (fun hc => ?_)
            · have h := qOk.t hc h
              exact qOk.le h _ _ hH _ (lv_sub hl [0, 1, 2, 3] rfl)
            · have h := qOk.f hc h
              refine lv_aload_n hx hb dX8_layFar_67 rfl (lv_at hl 0 rfl) ?_
              refine y_get hx hb hts i_X8 hown hK hH qOb_8 rfl 18 (by decide) f40 rfl dX8_layFar_68 ?_
              refine lv_iload hx hb dX8_layFar_71 (lv_at hl 4 rfl) ?_
              refine lv_aload_n hx hb dX8_layFar_73 rfl (lv_at hl 0 rfl) ?_
              refine y_get hx hb hts i_X8 hown hK hH qOb_8 rfl 6 (by decide) f25 rfl dX8_layFar_74 ?_
              refine lv_iload hx hb dX8_layFar_77 (lv_at hl 3 rfl) ?_
              refine y_iald hx hb hK hH qMr_6 h dX8_layFar_79 (fun v17 h => ?_)
              refine lv_iload hx hb dX8_layFar_80 (lv_at hl 4 rfl) ?_
              refine y_cs (va_runS (As := [.int v17, .int v14]) (rest := [.int v14, .ref (ad 11)]) ⟨hx, hb, hml, hown, hts⟩ (c_X8_has l v17 v14 (qOk.b1 h)) (va_cwS 2 hts gX8_layFar_X8_has rfl rfl rfl (by decide +kernel) ⟨Nat.le_of_ble_eq_true rfl, Nat.le_of_ble_eq_true rfl⟩) ⟨qPrT.blind, qPrT.at⟩ rfl rfl hl.1 rfl (lv_room (Nat.le_of_ble_eq_true rfl)) dX8_layFar_82 ⟨Nat.zero_le _, Nat.zero_le _⟩) (fun v18 h => ?_)
              refine qj1 (G := fun (v19 : Int32) => W p l e (headSpec wsX8_layFar rm_X8_layFar).room s m [.ref (ad 0), .int x1, .int x2].toArray below meth c H locs 0 0 (MQ below (va_Qv P (fun u t => qHp W2N e2 G ad u t.heap) (qA W2N ad s.heap.size)) [.ref (ad 0), .int x1, .int x2].toArray s 0 0 (qA W2N ad s.heap.size)) (F0 m 135 ls [.int v19, .int v14, .ref (ad 11)])) h ?_ ?_
              rotate_left
              · intro h
                refine lv_if_eq (tgt := 128) hx hb dX8_layFar_85 (by decide) (fun hc => ?_) (fun hc => ?_)
                · have h := qOk.t hc h
                  refine lv_aload_n hx hb dX8_layFar_128 rfl (lv_at hl 0 rfl) ?_
                  refine y_get hx hb hts i_X8 hown hK hH qOb_8 rfl 18 (by decide) f40 rfl dX8_layFar_129 ?_
                  refine lv_iload hx hb dX8_layFar_132 (lv_at hl 4 rfl) ?_
                  refine y_iald hx hb hK hH qMr_11 h dX8_layFar_134 (fun v20 h => ?_)
                  have h := qOk.s h
                  exact h
                · have h := qOk.f hc h
                  refine lv_iload_n hx hb dX8_layFar_88 rfl (lv_at hl 1 rfl) ?_
                  refine lv_iload hx hb dX8_layFar_89 (lv_at hl 4 rfl) ?_
                  refine y_cs (va_runS (As := [.int x2, .int v14]) (rest := [.int v14, .ref (ad 11)]) ⟨hx, hb, hml, hown, hts⟩ (c_X8_has l x2 v14 (qOk.b1 h)) (va_cwS 2 hts gX8_layFar_X8_has rfl rfl rfl (by decide +kernel) ⟨Nat.le_of_ble_eq_true rfl, Nat.le_of_ble_eq_true rfl⟩) ⟨qPrT.blind, qPrT.at⟩ rfl rfl hl.1 rfl (lv_room (Nat.le_of_ble_eq_true rfl)) dX8_layFar_91 ⟨Nat.zero_le _, Nat.zero_le _⟩) (fun v21 h => ?_)
                  refine lv_if_eq (tgt := 128) hx hb dX8_layFar_94 (by decide) (fun hc => ?_) (fun hc => ?_)
                  · have h := qOk.t hc h
                    refine lv_aload_n hx hb dX8_layFar_128 rfl (lv_at hl 0 rfl) ?_
                    refine y_get hx hb hts i_X8 hown hK hH qOb_8 rfl 18 (by decide) f40 rfl dX8_layFar_129 ?_
                    refine lv_iload hx hb dX8_layFar_132 (lv_at hl 4 rfl) ?_
                    refine y_iald hx hb hK hH qMr_11 h dX8_layFar_134 (fun v22 h => ?_)
                    have h := qOk.s h
                    exact h
                  · have h := qOk.f hc h
                    refine lv_aload_n hx hb dX8_layFar_97 rfl (lv_at hl 0 rfl) ?_
                    refine y_get hx hb hts i_X8 hown hK hH qOb_8 rfl 18 (by decide) f40 rfl dX8_layFar_98 ?_
                    refine lv_iload hx hb dX8_layFar_101 (lv_at hl 3 rfl) ?_
                    refine y_iald hx hb hK hH qMr_11 h dX8_layFar_103 (fun v23 h => ?_)
                    refine lv_iconst (v := 1) hx hb dX8_layFar_104 (by decide) ?_
                    refine lv_iadd hx hb dX8_layFar_105 ?_
                    refine lv_aload_n hx hb dX8_layFar_106 rfl (lv_at hl 0 rfl) ?_
                    refine y_get hx hb hts i_X8 hown hK hH qOb_8 rfl 18 (by decide) f40 rfl dX8_layFar_107 ?_
                    refine lv_iload hx hb dX8_layFar_110 (lv_at hl 4 rfl) ?_
                    refine y_iald hx hb hK hH qMr_11 h dX8_layFar_112 (fun v24 h => ?_)
                    refine lv_icmp_ge (tgt := 128) hx hb dX8_layFar_113 (by decide) (fun hc => ?_) (fun hc => ?_)
                    · have h := qOk.t hc h
                      refine lv_aload_n hx hb dX8_layFar_128 rfl (lv_at hl 0 rfl) ?_
                      refine y_get hx hb hts i_X8 hown hK hH qOb_8 rfl 18 (by decide) f40 rfl dX8_layFar_129 ?_
                      refine lv_iload hx hb dX8_layFar_132 (lv_at hl 4 rfl) ?_
                      refine y_iald hx hb hK hH qMr_11 h dX8_layFar_134 (fun v25 h => ?_)
                      have h := qOk.s h
                      exact h
                    · have h := qOk.f hc h
                      refine lv_aload_n hx hb dX8_layFar_116 rfl (lv_at hl 0 rfl) ?_
                      refine y_get hx hb hts i_X8 hown hK hH qOb_8 rfl 18 (by decide) f40 rfl dX8_layFar_117 ?_
                      refine lv_iload hx hb dX8_layFar_120 (lv_at hl 3 rfl) ?_
                      refine y_iald hx hb hK hH qMr_11 h dX8_layFar_122 (fun v26 h => ?_)
                      refine lv_iconst (v := 1) hx hb dX8_layFar_123 (by decide) ?_
                      refine lv_iadd hx hb dX8_layFar_124 ?_
                      refine lv_goto (tgt := 135) hx hb dX8_layFar_125 (by decide) ?_
                      have h := qOk.s h
                      exact h
              intro v19 h
              refine y_iast hx hb hK hI hH qMr_11 h dX8_layFar_135 (fun M27 H locs hH h => ?_)
              obtain ⟨v28, ev28⟩ : ∃ y : Int32, y = v14 + 1 := ⟨_, rfl⟩
              have h := qOk.v h ev28
              refine lv_iinc (v := v28) (lv' := [(5, .int v28), (0, .ref (ad 0)), (2, .int x2), (3, .int v8), (4, .int v11)]) hx hb dX8_layFar_136 hl (k := 4) rfl (by rw [ev28]; rfl) (by decide) rfl (fun ls hl => ?_)
              refine lv_goto (tgt := 60) hx hb dX8_layFar_139 (by decide) ?_
              exact qOk.li h _ _ hH _ (lv_sub hl [1, 2, 3, 4, 0] rfl)
          intro M16 h H locs hH ls hl
          obtain ⟨v29, ev29⟩ : ∃ y : Int32, y = v11 + 1 := ⟨_, rfl⟩
          have h := qOk.v h ev29
          refine lv_iinc (v := v29) (lv' := [(4, .int v29), (0, .ref (ad 0)), (2, .int x2), (3, .int v8)]) hx hb dX8_layFar_142 hl (k := 3) rfl (by rw [ev29]; rfl) (by decide) rfl (fun ls hl => ?_)
          refine lv_goto (tgt := 50) hx hb dX8_layFar_145 (by decide) ?_
          exact qOk.li h _ _ hH _ (lv_sub hl [1, 2, 3, 0] rfl)
      intro M13 h H locs hH ls hl
      obtain ⟨v30, ev30⟩ : ∃ y : Int32, y = v8 + 1 := ⟨_, rfl⟩
      have h := qOk.v h ev30
      refine lv_iinc (v := v30) (lv' := [(3, .int v30), (0, .ref (ad 0)), (2, .int x2)]) hx hb dX8_layFar_148 hl (k := 2) rfl (by rw [ev30]; rfl) (by decide) rfl (fun ls hl => ?_)
      refine lv_goto (tgt := 41) hx hb dX8_layFar_151 (by decide) ?_
      exact qOk.li h _ _ hH _ (lv_sub hl [1, 2, 0] rfl)
  intro M10 h H locs hH ls hl
  exact W.vret hx hb hr (fun t ht _ => ⟨⟨_, rfl, qOk.s h, qHpt ht hH.1⟩, hH.2.F ht⟩) hH.2.2.2 dX8_layFar_154
abbrev rm_X8_way : Room := { frames := 6, cells := 0, slots := 0, locals := 136 }
set_option maxHeartbeats 4000000 in
set_option maxRecDepth 100000 in
theorem c_X8_way (l : Launch) (G : qG) (ad : Nat → Nat) (hI : qI W2N ad) (M : qM) (sz : Nat) (x1 : Int32) (x2 : Int32) (x3 : Int32) {P : Int32 → qM → Prop} (h : qOk2 (kX8_way M x1 x2 x3) P) : Met l yX8_way wsX8_way rm_X8_way (va_Pc [.ref (ad 0), .int x1, .int x2, .int x3] (qPre W2N e2 G ad M sz)) (va_Qi P (fun u t => qHp W2N e2 G ad u t.heap) (qA W2N ad sz)) 0 0 (qA W2N ad sz) := by
  refine Met.ofW (cc := cX8_way) (maxL := 6) (ret := (some .int)) (by decide) rfl ?_
  intro p e s m args below meth c s₁ B hml hv
  obtain ⟨rfl, hsz, hK, hP⟩ := hv
  subst hsz
  have hx := B.exec
  have hb := B.bytes
  have hr := B.returns
  have hts := atoms_spec (ws := wsX8_way) B.pre
  have hown : s.vm.findClass RX8 = some m.cls := findClass_of_methodNamed B.named
  have hlocks := B.notSynchronized
  have hH : qHS W2N e2 G ad M s.heap s.heap [] := ⟨hP, va_S.rf⟩
  have f7 : (Cond.fieldLink RX8 7 "SongLampsModel" "book" "[I").before [.ref (ad 0), .int x1, .int x2, .int x3].toArray s = true := hts _ (by decide +kernel)
  have i_X8 : ∀ w ∈ wsX80, w ∈ wsX8_way := fun w hw => List.mem_cons_of_mem _ ((List.mem_append_right _ hw))
  have f40 : (Cond.fieldLink RX8 40 "SongLampsModel" "far" "[I").before [.ref (ad 0), .int x1, .int x2, .int x3].toArray s = true := hts _ (by decide +kernel)
  have q144 : (Cond.constant RX8 144 (1000000)).before [.ref (ad 0), .int x1, .int x2, .int x3].toArray s = true := hts _ (by decide +kernel)
  have f25 : (Cond.fieldLink RX8 25 "SongLampsModel" "passages" "[I").before [.ref (ad 0), .int x1, .int x2, .int x3].toArray s = true := hts _ (by decide +kernel)
  have hl := lv_entry ([.ref (ad 0), .int x1, .int x2, .int x3]) (n := 6) (Nat.le_of_ble_eq_true rfl)
  rw [lg_entry_eq]
  generalize (lg_sl ([.ref (ad 0), .int x1, .int x2, .int x3]) ++ List.replicate (6 - (lg_sl ([.ref (ad 0), .int x1, .int x2, .int x3])).length) Slot.unset).toArray = ls at hl ⊢
  have hl : lv_has ls 6 [(0, .ref (ad 0)), (1, .int x1), (2, .int x2), (3, .int x3)] := hl
  have h : qOk (kX8_way M x1 x2 x3) _ := h
  unfold kX8_way at h
  refine lv_iload_n hx hb dX8_way_0 rfl (lv_at hl 1 rfl) ?_
  refine y_cs (va_runS (As := [.int x1]) (rest := []) ⟨hx, hb, hml, hown, hts⟩ (c_X8_isGallery l x1 (qOk.b1 h)) (va_cwS 1 hts gX8_way_X8_isGallery rfl rfl rfl (by decide +kernel) ⟨Nat.le_of_ble_eq_true rfl, Nat.le_of_ble_eq_true rfl⟩) ⟨qPrT.blind, qPrT.at⟩ rfl rfl hl.1 rfl (lv_room (Nat.le_of_ble_eq_true rfl)) dX8_way_1 ⟨Nat.zero_le _, Nat.zero_le _⟩) (fun v1 h => ?_)
  refine lv_if_eq (tgt := 14) hx hb dX8_way_4 (by decide) (fun hc => ?_) (fun hc => ?_)
  · have h := qOk.t hc h
    refine lv_iconst (v := (-1)) hx hb dX8_way_14 (by decide) ?_
    exact W.iret hx hb hr (fun t ht _ => ⟨⟨_, _, rfl, qOk2.s h, qHpt ht hH.1⟩, hH.2.F ht⟩) hH.2.2.2 dX8_way_15
  · have h := qOk.f hc h
    refine lv_iload_n hx hb dX8_way_7 rfl (lv_at hl 2 rfl) ?_
    refine y_cs (va_runS (As := [.int x2]) (rest := []) ⟨hx, hb, hml, hown, hts⟩ (c_X8_isGallery l x2 (qOk.b1 h)) (va_cwS 1 hts gX8_way_X8_isGallery rfl rfl rfl (by decide +kernel) ⟨Nat.le_of_ble_eq_true rfl, Nat.le_of_ble_eq_true rfl⟩) ⟨qPrT.blind, qPrT.at⟩ rfl rfl hl.1 rfl (lv_room (Nat.le_of_ble_eq_true rfl)) dX8_way_8 ⟨Nat.zero_le _, Nat.zero_le _⟩) (fun v2 h => ?_)
    refine lv_if_ne (tgt := 16) hx hb dX8_way_11 (by decide) (fun hc => ?_) (fun hc => ?_)
    · have h := qOk.f hc h
      refine lv_iload_n hx hb dX8_way_16 rfl (lv_at hl 3 rfl) ?_
      refine lv_iconst (v := 0) hx hb dX8_way_17 (by decide) ?_
      refine lv_iconst (v := 1) hx hb dX8_way_18 (by decide) ?_
      refine y_cs (va_runS (As := [.int x3, .int 0, .int 1]) (rest := []) ⟨hx, hb, hml, hown, hts⟩ (c_X8_in l x3 0 1 (qOk.b1 h)) (va_cwS 3 hts gX8_way_X8_in rfl rfl rfl (by decide +kernel) ⟨Nat.le_of_ble_eq_true rfl, Nat.le_of_ble_eq_true rfl⟩) ⟨qPrT.blind, qPrT.at⟩ rfl rfl hl.1 rfl (lv_room (Nat.le_of_ble_eq_true rfl)) dX8_way_19 ⟨Nat.zero_le _, Nat.zero_le _⟩) (fun v3 h => ?_)
      refine lv_if_ne (tgt := 28) hx hb dX8_way_22 (by decide) (fun hc => ?_) (fun hc => ?_)
      · have h := qOk.f hc h
        refine lv_aload_n hx hb dX8_way_28 rfl (lv_at hl 0 rfl) ?_
        refine y_cv hH (va_runV (As := []) (rest := []) ⟨hx, hb, hml, hown, hts⟩ (c_X8_asNow l G ad hI M _  (qOk.b1 h)) (cwV 0 hts gX8_way_X8_asNow rfl rfl rfl (by decide +kernel) ⟨Nat.le_of_ble_eq_true rfl, Nat.le_of_ble_eq_true rfl⟩) ⟨qPre.blind, qrecv hK hH qOb_8 rfl, qPre.at hK hH⟩ rfl rfl hl.1 rfl (lv_room (Nat.le_of_ble_eq_true rfl)) dX8_way_29 ⟨Nat.zero_le _, Nat.zero_le _⟩) (fun M4 H locs hH h => ?_)
        refine lv_aload_n hx hb dX8_way_32 rfl (lv_at hl 0 rfl) ?_
        refine lv_iload_n hx hb dX8_way_33 rfl (lv_at hl 2 rfl) ?_
        refine lv_aload_n hx hb dX8_way_34 rfl (lv_at hl 0 rfl) ?_
        refine y_cs (va_runV (As := []) (rest := [.int x2, .ref (ad 0)]) ⟨hx, hb, hml, hown, hts⟩ (c_X8_lamps l G ad hI M4 _  (qOk.b1 h)) (cwV 0 hts gX8_way_X8_lamps rfl rfl rfl (by decide +kernel) ⟨Nat.le_of_ble_eq_true rfl, Nat.le_of_ble_eq_true rfl⟩) ⟨qPre.blind, qrecv hK hH qOb_8 rfl, qPre.at hK hH⟩ rfl rfl hl.1 rfl (lv_room (Nat.le_of_ble_eq_true rfl)) dX8_way_35 ⟨Nat.zero_le _, Nat.zero_le _⟩) (fun v5 h => ?_)
        refine lv_aload_n hx hb dX8_way_38 rfl (lv_at hl 0 rfl) ?_
        refine y_get hx hb hts i_X8 hown hK hH qOb_8 rfl 0 (by decide) f7 rfl dX8_way_39 ?_
        refine lv_bipush (v := 34) hx hb dX8_way_42 (by decide) ?_
        refine y_iald hx hb hK hH qMr_1 h dX8_way_44 (fun v6 h => ?_)
        refine lv_iconst (v := (-1)) hx hb dX8_way_45 (by decide) ?_
        refine lv_ixor hx hb dX8_way_46 ?_
        refine lv_iand hx hb dX8_way_47 ?_
        refine y_cv hH (va_runV (As := [.int x2, .int (v5 &&& (v6 ^^^ (-1)))]) (rest := []) ⟨hx, hb, hml, hown, hts⟩ (c_X8_layFar l G ad hI M4 _ x2 (v5 &&& (v6 ^^^ (-1))) (qOk.b1 h)) (cwV 2 hts gX8_way_X8_layFar rfl rfl rfl (by decide +kernel) ⟨Nat.le_of_ble_eq_true rfl, Nat.le_of_ble_eq_true rfl⟩) ⟨qPre.blind, qrecv hK hH qOb_8 rfl, qPre.at hK hH⟩ rfl rfl hl.1 rfl (lv_room (Nat.le_of_ble_eq_true rfl)) dX8_way_48 ⟨Nat.zero_le _, Nat.zero_le _⟩) (fun M7 H locs hH h => ?_)
        refine lv_aload_n hx hb dX8_way_51 rfl (lv_at hl 0 rfl) ?_
        refine y_get hx hb hts i_X8 hown hK hH qOb_8 rfl 18 (by decide) f40 rfl dX8_way_52 ?_
        refine lv_iload_n hx hb dX8_way_55 rfl (lv_at hl 1 rfl) ?_
        refine y_iald hx hb hK hH qMr_11 h dX8_way_56 (fun v8 h => ?_)
        refine lv_ldc (v := 1000000) hx hb hown q144 dX8_way_57 ?_
        refine lv_icmp_lt (tgt := 65) hx hb dX8_way_59 (by decide) (fun hc => ?_) (fun hc => ?_)
        · have h := qOk.t hc h
          refine lv_iload_n hx hb dX8_way_65 rfl (lv_at hl 3 rfl) ?_
          refine lv_if_ne (tgt := 76) hx hb dX8_way_66 (by decide) (fun hc => ?_) (fun hc => ?_)
          · have h := qOk.f hc h
            refine lv_bipush (v := (-6)) hx hb dX8_way_76 (by decide) ?_
            refine lv_istore (lv' := [(4, .int (-6)), (0, .ref (ad 0)), (1, .int x1), (2, .int x2), (3, .int x3)]) hx hb dX8_way_78 hl (by decide) rfl (fun ls hl => ?_)
            refine lv_bipush (v := 9) hx hb dX8_way_80 (by decide) ?_
            refine lv_istore (lv' := [(5, .int 9), (4, .int (-6)), (0, .ref (ad 0)), (1, .int x1), (2, .int x2), (3, .int x3)]) hx hb dX8_way_82 hl (by decide) rfl (fun ls hl => ?_)
            refine qj1 (G := fun (v11 : Int32) => ∀ ls : Array Slot, lv_has ls 6 [(4, .int v11)] → W p l e (headSpec wsX8_way rm_X8_way).room s m [.ref (ad 0), .int x1, .int x2, .int x3].toArray below meth c H locs 0 0 (MQ below (va_Qi P (fun u t => qHp W2N e2 G ad u t.heap) (qA W2N ad s.heap.size)) [.ref (ad 0), .int x1, .int x2, .int x3].toArray s 0 0 (qA W2N ad s.heap.size)) (F0 m 141 ls [])) h ?_ ?_
            rotate_left
            · intro h
              refine qloop2 (I := fun (v9 : Int32) (v10 : Int32) => ∀ ls : Array Slot, lv_has ls 6 [(0, .ref (ad 0)), (1, .int x1), (2, .int x2), (4, .int v9), (5, .int v10)] → W p l e (headSpec wsX8_way rm_X8_way).room s m [.ref (ad 0), .int x1, .int x2, .int x3].toArray below meth c H locs 0 0 (MQ below (va_Qi P (fun u t => qHp W2N e2 G ad u t.heap) (qA W2N ad s.heap.size)) [.ref (ad 0), .int x1, .int x2, .int x3].toArray s 0 0 (qA W2N ad s.heap.size)) (F0 m 84 ls [])) ?_ h _ (lv_sub hl [2, 3, 4, 1, 0] rfl)
              intro v9 v10 h ls hl
              have h : qOk (kX8_way_L84 x1 x2 M7 v9 v10) _ := h
              unfold kX8_way_L84 at h
              refine lv_iload hx hb dX8_way_84 (lv_at hl 4 rfl) ?_
              refine lv_if_lt (tgt := 141) hx hb dX8_way_86 (by decide) (fun hc => ?_) (fun hc => ?_)
              · have h := qOk.t hc h
                exact qOk.le h _ (lv_sub hl [3] rfl)
              · have h := qOk.f hc h
                refine lv_iload_n hx hb dX8_way_89 rfl (lv_at hl 1 rfl) ?_
                refine lv_iload_n hx hb dX8_way_90 rfl (lv_at hl 2 rfl) ?_
                refine lv_icmp_eq (tgt := 141) hx hb dX8_way_91 (by decide) (fun hc => ?_) (fun hc => ?_)
                · have h := qOk.t hc h
                  exact qOk.le h _ (lv_sub hl [3] rfl)
                · have h := qOk.f hc h
                  refine lv_aload_n hx hb dX8_way_94 rfl (lv_at hl 0 rfl) ?_
                  refine y_get hx hb hts i_X8 hown hK hH qOb_8 rfl 6 (by decide) f25 rfl dX8_way_95 ?_
                  refine lv_iload_n hx hb dX8_way_98 rfl (lv_at hl 1 rfl) ?_
                  refine y_iald hx hb hK hH qMr_6 h dX8_way_99 (fun v12 h => ?_)
                  refine lv_iload hx hb dX8_way_100 (lv_at hl 4 rfl) ?_
                  refine y_cs (va_runS (As := [.int v12, .int v10]) (rest := []) ⟨hx, hb, hml, hown, hts⟩ (c_X8_has l v12 v10 (qOk.b1 h)) (va_cwS 2 hts gX8_way_X8_has rfl rfl rfl (by decide +kernel) ⟨Nat.le_of_ble_eq_true rfl, Nat.le_of_ble_eq_true rfl⟩) ⟨qPrT.blind, qPrT.at⟩ rfl rfl hl.1 rfl (lv_room (Nat.le_of_ble_eq_true rfl)) dX8_way_102 ⟨Nat.zero_le _, Nat.zero_le _⟩) (fun v13 h => ?_)
                  refine qj1 (G := fun (v14 : Int32) => W p l e (headSpec wsX8_way rm_X8_way).room s m [.ref (ad 0), .int x1, .int x2, .int x3].toArray below meth c H locs 0 0 (MQ below (va_Qi P (fun u t => qHp W2N e2 G ad u t.heap) (qA W2N ad s.heap.size)) [.ref (ad 0), .int x1, .int x2, .int x3].toArray s 0 0 (qA W2N ad s.heap.size)) (F0 m 133 ls [.int v14])) h ?_ ?_
                  rotate_left
                  · intro h
                    refine lv_if_eq (tgt := 131) hx hb dX8_way_105 (by decide) (fun hc => ?_) (fun hc => ?_)
                    · have h := qOk.t hc h
                      refine lv_iload hx hb dX8_way_131 (lv_at hl 3 rfl) ?_
                      have h := qOk.s h
                      exact h
                    · have h := qOk.f hc h
                      refine lv_aload_n hx hb dX8_way_108 rfl (lv_at hl 0 rfl) ?_
                      refine y_get hx hb hts i_X8 hown hK hH qOb_8 rfl 18 (by decide) f40 rfl dX8_way_109 ?_
                      refine lv_iload hx hb dX8_way_112 (lv_at hl 4 rfl) ?_
                      refine y_iald hx hb hK hH qMr_11 h dX8_way_114 (fun v15 h => ?_)
                      refine lv_iconst (v := 1) hx hb dX8_way_115 (by decide) ?_
                      refine lv_iadd hx hb dX8_way_116 ?_
                      refine lv_aload_n hx hb dX8_way_117 rfl (lv_at hl 0 rfl) ?_
                      refine y_get hx hb hts i_X8 hown hK hH qOb_8 rfl 18 (by decide) f40 rfl dX8_way_118 ?_
                      refine lv_iload_n hx hb dX8_way_121 rfl (lv_at hl 1 rfl) ?_
                      refine y_iald hx hb hK hH qMr_11 h dX8_way_122 (fun v16 h => ?_)
                      refine lv_icmp_ne (tgt := 131) hx hb dX8_way_123 (by decide) (fun hc => ?_) (fun hc => ?_)
                      · have h := qOk.f hc h
                        refine lv_iload hx hb dX8_way_131 (lv_at hl 3 rfl) ?_
                        have h := qOk.s h
                        exact h
                      · have h := qOk.t hc h
                        refine lv_iload hx hb dX8_way_126 (lv_at hl 4 rfl) ?_
                        refine lv_goto (tgt := 133) hx hb dX8_way_128 (by decide) ?_
                        have h := qOk.s h
                        exact h
                  intro v14 h
                  refine lv_istore (lv' := [(4, .int v14), (0, .ref (ad 0)), (1, .int x1), (2, .int x2), (5, .int v10)]) hx hb dX8_way_133 hl (by decide) rfl (fun ls hl => ?_)
                  obtain ⟨v17, ev17⟩ : ∃ y : Int32, y = v10 + (-1) := ⟨_, rfl⟩
                  have h := qOk.v h ev17
                  refine lv_iinc (v := v17) (lv' := [(5, .int v17), (4, .int v14), (0, .ref (ad 0)), (1, .int x1), (2, .int x2)]) hx hb dX8_way_135 hl (k := 4) rfl (by rw [ev17]; rfl) (by decide) rfl (fun ls hl => ?_)
                  refine lv_goto (tgt := 84) hx hb dX8_way_138 (by decide) ?_
                  exact qOk.li h _ (lv_sub hl [2, 3, 4, 1, 0] rfl)
            intro v11 h ls hl
            refine lv_iload hx hb dX8_way_141 (lv_at hl 0 rfl) ?_
            exact W.iret hx hb hr (fun t ht _ => ⟨⟨_, _, rfl, qOk2.s h, qHpt ht hH.1⟩, hH.2.F ht⟩) hH.2.2.2 dX8_way_143
          · have h := qOk.t hc h
            refine lv_aload_n hx hb dX8_way_69 rfl (lv_at hl 0 rfl) ?_
            refine y_get hx hb hts i_X8 hown hK hH qOb_8 rfl 18 (by decide) f40 rfl dX8_way_70 ?_
            refine lv_iload_n hx hb dX8_way_73 rfl (lv_at hl 1 rfl) ?_
            refine y_iald hx hb hK hH qMr_11 h dX8_way_74 (fun v18 h => ?_)
            exact W.iret hx hb hr (fun t ht _ => ⟨⟨_, _, rfl, qOk2.s h, qHpt ht hH.1⟩, hH.2.F ht⟩) hH.2.2.2 dX8_way_75
        · have h := qOk.f hc h
          refine lv_bipush (v := (-6)) hx hb dX8_way_62 (by decide) ?_
          exact W.iret hx hb hr (fun t ht _ => ⟨⟨_, _, rfl, qOk2.s h, qHpt ht hH.1⟩, hH.2.F ht⟩) hH.2.2.2 dX8_way_64
      · have h := qOk.t hc h
        refine lv_bipush (v := (-2)) hx hb dX8_way_25 (by decide) ?_
        exact W.iret hx hb hr (fun t ht _ => ⟨⟨_, _, rfl, qOk2.s h, qHpt ht hH.1⟩, hH.2.F ht⟩) hH.2.2.2 dX8_way_27
    · have h := qOk.t hc h
      refine lv_iconst (v := (-1)) hx hb dX8_way_14 (by decide) ?_
      exact W.iret hx hb hr (fun t ht _ => ⟨⟨_, _, rfl, qOk2.s h, qHpt ht hH.1⟩, hH.2.F ht⟩) hH.2.2.2 dX8_way_15
abbrev rm_X8_fewest : Room := { frames := 1, cells := 0, slots := 0, locals := 22 }
set_option maxHeartbeats 4000000 in
set_option maxRecDepth 100000 in
theorem c_X8_fewest (l : Launch) (G : qG) (ad : Nat → Nat) (hI : qI W2N ad) (M : qM) (sz : Nat) (x1 : Int32) (x2 : Int32) {P : Int32 → Prop} (h : qOk (kX8_fewest M x1 x2) P) : Met l yX8_fewest wsX8_fewest rm_X8_fewest (va_Pc [.ref (ad 0), .int x1, .int x2] (qPre W2N e2 G ad M sz)) (vp_Si P) 0 0 (fun _ => False) := by
  refine Met.ofW (cc := cX8_fewest) (maxL := 7) (ret := (some .int)) (by decide) rfl ?_
  intro p e s m args below meth c s₁ B hml hv
  obtain ⟨rfl, hsz, hK, hP⟩ := hv
  subst hsz
  have hx := B.exec
  have hb := B.bytes
  have hr := B.returns
  have hts := atoms_spec (ws := wsX8_fewest) B.pre
  have hown : s.vm.findClass RX8 = some m.cls := findClass_of_methodNamed B.named
  have hlocks := B.notSynchronized
  have hH : qHS W2N e2 G ad M s.heap s.heap [] := ⟨hP, va_S.rf⟩
  have f28 : (Cond.fieldLink RX8 28 "SongLampsModel" "echo" "[I").before [.ref (ad 0), .int x1, .int x2].toArray s = true := hts _ (by decide +kernel)
  have i_X8 : ∀ w ∈ wsX80, w ∈ wsX8_fewest := fun w hw => List.mem_cons_of_mem _ ((List.mem_append_right _ hw))
  have hl := lv_entry ([.ref (ad 0), .int x1, .int x2]) (n := 7) (Nat.le_of_ble_eq_true rfl)
  rw [lg_entry_eq]
  generalize (lg_sl ([.ref (ad 0), .int x1, .int x2]) ++ List.replicate (7 - (lg_sl ([.ref (ad 0), .int x1, .int x2])).length) Slot.unset).toArray = ls at hl ⊢
  have hl : lv_has ls 7 [(0, .ref (ad 0)), (1, .int x1), (2, .int x2)] := hl
  have h : qOk (kX8_fewest M x1 x2) _ := h
  unfold kX8_fewest at h
  refine lv_iload_n hx hb dX8_fewest_0 rfl (lv_at hl 1 rfl) ?_
  refine lv_iconst (v := 0) hx hb dX8_fewest_1 (by decide) ?_
  refine lv_sipush (v := 1023) hx hb dX8_fewest_2 (by decide) ?_
  refine y_cs (va_runS (As := [.int x1, .int 0, .int 1023]) (rest := []) ⟨hx, hb, hml, hown, hts⟩ (c_X8_in l x1 0 1023 (qOk.b1 h)) (va_cwS 3 hts gX8_fewest_X8_in rfl rfl rfl (by decide +kernel) ⟨Nat.le_of_ble_eq_true rfl, Nat.le_of_ble_eq_true rfl⟩) ⟨qPrT.blind, qPrT.at⟩ rfl rfl hl.1 rfl (lv_room (Nat.le_of_ble_eq_true rfl)) dX8_fewest_5 ⟨Nat.zero_le _, Nat.zero_le _⟩) (fun v1 h => ?_)
  refine lv_if_eq (tgt := 20) hx hb dX8_fewest_8 (by decide) (fun hc => ?_) (fun hc => ?_)
  · have h := qOk.t hc h
    refine lv_bipush (v := (-2)) hx hb dX8_fewest_20 (by decide) ?_
    exact W.iret hx hb hr (fun t ht _ => ⟨_, rfl, qOk.s h, ht⟩) (fun _ hq => by cases hq) dX8_fewest_22
  · have h := qOk.f hc h
    refine lv_iload_n hx hb dX8_fewest_11 rfl (lv_at hl 2 rfl) ?_
    refine lv_iconst (v := 0) hx hb dX8_fewest_12 (by decide) ?_
    refine lv_iconst (v := 1) hx hb dX8_fewest_13 (by decide) ?_
    refine y_cs (va_runS (As := [.int x2, .int 0, .int 1]) (rest := []) ⟨hx, hb, hml, hown, hts⟩ (c_X8_in l x2 0 1 (qOk.b1 h)) (va_cwS 3 hts gX8_fewest_X8_in rfl rfl rfl (by decide +kernel) ⟨Nat.le_of_ble_eq_true rfl, Nat.le_of_ble_eq_true rfl⟩) ⟨qPrT.blind, qPrT.at⟩ rfl rfl hl.1 rfl (lv_room (Nat.le_of_ble_eq_true rfl)) dX8_fewest_14 ⟨Nat.zero_le _, Nat.zero_le _⟩) (fun v2 h => ?_)
    refine lv_if_ne (tgt := 23) hx hb dX8_fewest_17 (by decide) (fun hc => ?_) (fun hc => ?_)
    · have h := qOk.f hc h
      refine lv_sipush (v := 1023) hx hb dX8_fewest_23 (by decide) ?_
      refine lv_istore_n (lv' := [(3, .int 1023), (0, .ref (ad 0)), (1, .int x1), (2, .int x2)]) hx hb dX8_fewest_26 rfl hl (by decide) rfl (fun ls hl => ?_)
      refine lv_iconst (v := 0) hx hb dX8_fewest_27 (by decide) ?_
      refine lv_istore (lv' := [(4, .int 0), (3, .int 1023), (0, .ref (ad 0)), (1, .int x1), (2, .int x2)]) hx hb dX8_fewest_28 hl (by decide) rfl (fun ls hl => ?_)
      refine qj1 (G := fun (v5 : Int32) => ∀ ls : Array Slot, lv_has ls 7 [(2, .int x2), (3, .int v5)] → W p l e (headSpec wsX8_fewest rm_X8_fewest).room s m [.ref (ad 0), .int x1, .int x2].toArray below meth c s.heap [] 0 0 (MQ below (vp_Si P) [.ref (ad 0), .int x1, .int x2].toArray s 0 0 (fun _ => False)) (F0 m 120 ls [])) h ?_ ?_
      rotate_left
      · intro h
        refine qloop2 (I := fun (v3 : Int32) (v4 : Int32) => ∀ ls : Array Slot, lv_has ls 7 [(0, .ref (ad 0)), (1, .int x1), (2, .int x2), (3, .int v3), (4, .int v4)] → W p l e (headSpec wsX8_fewest rm_X8_fewest).room s m [.ref (ad 0), .int x1, .int x2].toArray below meth c s.heap [] 0 0 (MQ below (vp_Si P) [.ref (ad 0), .int x1, .int x2].toArray s 0 0 (fun _ => False)) (F0 m 30 ls [])) ?_ h _ (lv_sub hl [2, 3, 4, 1, 0] rfl)
        intro v3 v4 h ls hl
        have h : qOk (kX8_fewest_L30 M x1 v3 v4) _ := h
        unfold kX8_fewest_L30 at h
        refine lv_iload hx hb dX8_fewest_30 (lv_at hl 4 rfl) ?_
        refine lv_sipush (v := 1024) hx hb dX8_fewest_32 (by decide) ?_
        refine lv_icmp_ge (tgt := 120) hx hb dX8_fewest_35 (by decide) (fun hc => ?_) (fun hc => ?_)
        · have h := qOk.t hc h
          exact qOk.le h _ (lv_sub hl [2, 3] rfl)
        · have h := qOk.f hc h
          refine lv_iload hx hb dX8_fewest_38 (lv_at hl 4 rfl) ?_
          refine lv_istore (lv' := [(5, .int v4), (0, .ref (ad 0)), (1, .int x1), (2, .int x2), (3, .int v3), (4, .int v4)]) hx hb dX8_fewest_40 hl (by decide) rfl (fun ls hl => ?_)
          refine lv_iconst (v := 0) hx hb dX8_fewest_42 (by decide) ?_
          refine lv_istore (lv' := [(6, .int 0), (5, .int v4), (0, .ref (ad 0)), (1, .int x1), (2, .int x2), (3, .int v3), (4, .int v4)]) hx hb dX8_fewest_43 hl (by decide) rfl (fun ls hl => ?_)
          refine qj1 (G := fun (v8 : Int32) => ∀ ls : Array Slot, lv_has ls 7 [(0, .ref (ad 0)), (1, .int x1), (2, .int x2), (3, .int v3), (4, .int v4), (5, .int v8)] → W p l e (headSpec wsX8_fewest rm_X8_fewest).room s m [.ref (ad 0), .int x1, .int x2].toArray below meth c s.heap [] 0 0 (MQ below (vp_Si P) [.ref (ad 0), .int x1, .int x2].toArray s 0 0 (fun _ => False)) (F0 m 86 ls [])) h ?_ ?_
          rotate_left
          · intro h
            refine qloop2 (I := fun (v6 : Int32) (v7 : Int32) => ∀ ls : Array Slot, lv_has ls 7 [(0, .ref (ad 0)), (1, .int x1), (2, .int x2), (3, .int v3), (4, .int v4), (5, .int v6), (6, .int v7)] → W p l e (headSpec wsX8_fewest rm_X8_fewest).room s m [.ref (ad 0), .int x1, .int x2].toArray below meth c s.heap [] 0 0 (MQ below (vp_Si P) [.ref (ad 0), .int x1, .int x2].toArray s 0 0 (fun _ => False)) (F0 m 45 ls [])) ?_ h _ (lv_sub hl [2, 3, 4, 5, 6, 1, 0] rfl)
            intro v6 v7 h ls hl
            have h : qOk (kX8_fewest_L45 v4 M v6 v7) _ := h
            unfold kX8_fewest_L45 at h
            refine lv_iload hx hb dX8_fewest_45 (lv_at hl 6 rfl) ?_
            refine lv_bipush (v := 10) hx hb dX8_fewest_47 (by decide) ?_
            refine lv_icmp_ge (tgt := 86) hx hb dX8_fewest_49 (by decide) (fun hc => ?_) (fun hc => ?_)
            · have h := qOk.t hc h
              exact qOk.le h _ (lv_sub hl [0, 1, 2, 3, 4, 5] rfl)
            · have h := qOk.f hc h
              refine lv_iload hx hb dX8_fewest_52 (lv_at hl 5 rfl) ?_
              refine lv_iload hx hb dX8_fewest_54 (lv_at hl 4 rfl) ?_
              refine lv_iload hx hb dX8_fewest_56 (lv_at hl 6 rfl) ?_
              refine y_cs (va_runS (As := [.int v4, .int v7]) (rest := [.int v6]) ⟨hx, hb, hml, hown, hts⟩ (c_X8_has l v4 v7 (qOk.b1 h)) (va_cwS 2 hts gX8_fewest_X8_has rfl rfl rfl (by decide +kernel) ⟨Nat.le_of_ble_eq_true rfl, Nat.le_of_ble_eq_true rfl⟩) ⟨qPrT.blind, qPrT.at⟩ rfl rfl hl.1 rfl (lv_room (Nat.le_of_ble_eq_true rfl)) dX8_fewest_58 ⟨Nat.zero_le _, Nat.zero_le _⟩) (fun v9 h => ?_)
              refine qj1 (G := fun (v10 : Int32) => W p l e (headSpec wsX8_fewest rm_X8_fewest).room s m [.ref (ad 0), .int x1, .int x2].toArray below meth c s.heap [] 0 0 (MQ below (vp_Si P) [.ref (ad 0), .int x1, .int x2].toArray s 0 0 (fun _ => False)) (F0 m 77 ls [.int v10, .int v6])) h ?_ ?_
              rotate_left
              · intro h
                refine lv_if_eq (tgt := 76) hx hb dX8_fewest_61 (by decide) (fun hc => ?_) (fun hc => ?_)
                · have h := qOk.t hc h
                  refine lv_iconst (v := 0) hx hb dX8_fewest_76 (by decide) ?_
                  have h := qOk.s h
                  exact h
                · have h := qOk.f hc h
                  refine lv_iconst (v := 1) hx hb dX8_fewest_64 (by decide) ?_
                  refine lv_aload_n hx hb dX8_fewest_65 rfl (lv_at hl 0 rfl) ?_
                  refine y_get hx hb hts i_X8 hown hK hH qOb_8 rfl 7 (by decide) f28 rfl dX8_fewest_66 ?_
                  refine lv_iload hx hb dX8_fewest_69 (lv_at hl 6 rfl) ?_
                  refine y_iald hx hb hK hH qMr_7 h dX8_fewest_71 (fun v11 h => ?_)
                  refine lv_ishl hx hb dX8_fewest_72 ?_
                  refine lv_goto (tgt := 77) hx hb dX8_fewest_73 (by decide) ?_
                  have h := qOk.s h
                  exact h
              intro v10 h
              refine lv_ior hx hb dX8_fewest_77 ?_
              refine lv_topi (fun v12 ev12 => ?_)
              have h := qOk.v h ev12
              refine lv_istore (lv' := [(5, .int v12), (0, .ref (ad 0)), (1, .int x1), (2, .int x2), (3, .int v3), (4, .int v4), (6, .int v7)]) hx hb dX8_fewest_78 hl (by decide) rfl (fun ls hl => ?_)
              obtain ⟨v13, ev13⟩ : ∃ y : Int32, y = v7 + 1 := ⟨_, rfl⟩
              have h := qOk.v h ev13
              refine lv_iinc (v := v13) (lv' := [(6, .int v13), (5, .int v12), (0, .ref (ad 0)), (1, .int x1), (2, .int x2), (3, .int v3), (4, .int v4)]) hx hb dX8_fewest_80 hl (k := 6) rfl (by rw [ev13]; rfl) (by decide) rfl (fun ls hl => ?_)
              refine lv_goto (tgt := 45) hx hb dX8_fewest_83 (by decide) ?_
              exact qOk.li h _ (lv_sub hl [2, 3, 4, 5, 6, 1, 0] rfl)
          intro v8 h ls hl
          refine lv_iload_n hx hb dX8_fewest_86 rfl (lv_at hl 1 rfl) ?_
          refine lv_iload hx hb dX8_fewest_87 (lv_at hl 5 rfl) ?_
          refine lv_iconst (v := (-1)) hx hb dX8_fewest_89 (by decide) ?_
          refine lv_ixor hx hb dX8_fewest_90 ?_
          refine lv_iand hx hb dX8_fewest_91 ?_
          refine qj1 (G := fun (v14 : Int32) => W p l e (headSpec wsX8_fewest rm_X8_fewest).room s m [.ref (ad 0), .int x1, .int x2].toArray below meth c s.heap [] 0 0 (MQ below (vp_Si P) [.ref (ad 0), .int x1, .int x2].toArray s 0 0 (fun _ => False)) (F0 m 113 ls [.int v14])) h ?_ ?_
          rotate_left
          · intro h
            refine lv_if_ne (tgt := 112) hx hb dX8_fewest_92 (by decide) (fun hc => ?_) (fun hc => ?_)
            · have h := qOk.f hc h
              refine lv_iload_n hx hb dX8_fewest_112 rfl (lv_at hl 3 rfl) ?_
              have h := qOk.s h
              exact h
            · have h := qOk.t hc h
              refine lv_iload hx hb dX8_fewest_95 (lv_at hl 4 rfl) ?_
              refine y_cs (va_runS (As := [.int v4]) (rest := []) ⟨hx, hb, hml, hown, hts⟩ (c_X8_bits l v4 (qOk.b1 h)) (va_cwS 1 hts gX8_fewest_X8_bits rfl rfl rfl (by decide +kernel) ⟨Nat.le_of_ble_eq_true rfl, Nat.le_of_ble_eq_true rfl⟩) ⟨qPrT.blind, qPrT.at⟩ rfl rfl hl.1 rfl (lv_room (Nat.le_of_ble_eq_true rfl)) dX8_fewest_97 ⟨Nat.zero_le _, Nat.zero_le _⟩) (fun v15 h => ?_)
              refine lv_iload_n hx hb dX8_fewest_100 rfl (lv_at hl 3 rfl) ?_
              refine y_cs (va_runS (As := [.int v3]) (rest := [.int v15]) ⟨hx, hb, hml, hown, hts⟩ (c_X8_bits l v3 (qOk.b1 h)) (va_cwS 1 hts gX8_fewest_X8_bits rfl rfl rfl (by decide +kernel) ⟨Nat.le_of_ble_eq_true rfl, Nat.le_of_ble_eq_true rfl⟩) ⟨qPrT.blind, qPrT.at⟩ rfl rfl hl.1 rfl (lv_room (Nat.le_of_ble_eq_true rfl)) dX8_fewest_101 ⟨Nat.zero_le _, Nat.zero_le _⟩) (fun v16 h => ?_)
              refine lv_icmp_ge (tgt := 112) hx hb dX8_fewest_104 (by decide) (fun hc => ?_) (fun hc => ?_)
              · have h := qOk.t hc h
                refine lv_iload_n hx hb dX8_fewest_112 rfl (lv_at hl 3 rfl) ?_
                have h := qOk.s h
                exact h
              · have h := qOk.f hc h
                refine lv_iload hx hb dX8_fewest_107 (lv_at hl 4 rfl) ?_
                refine lv_goto (tgt := 113) hx hb dX8_fewest_109 (by decide) ?_
                have h := qOk.s h
                exact h
          intro v14 h
          refine lv_istore_n (lv' := [(3, .int v14), (0, .ref (ad 0)), (1, .int x1), (2, .int x2), (4, .int v4), (5, .int v8)]) hx hb dX8_fewest_113 rfl hl (by decide) rfl (fun ls hl => ?_)
          obtain ⟨v17, ev17⟩ : ∃ y : Int32, y = v4 + 1 := ⟨_, rfl⟩
          have h := qOk.v h ev17
          refine lv_iinc (v := v17) (lv' := [(4, .int v17), (3, .int v14), (0, .ref (ad 0)), (1, .int x1), (2, .int x2), (5, .int v8)]) hx hb dX8_fewest_114 hl (k := 4) rfl (by rw [ev17]; rfl) (by decide) rfl (fun ls hl => ?_)
          refine lv_goto (tgt := 30) hx hb dX8_fewest_117 (by decide) ?_
          exact qOk.li h _ (lv_sub hl [2, 3, 4, 1, 0] rfl)
      intro v5 h ls hl
      refine lv_iload_n hx hb dX8_fewest_120 rfl (lv_at hl 0 rfl) ?_
      refine lv_iconst (v := 1) hx hb dX8_fewest_121 (by decide) ?_
      refine qj1 (G := fun (v18 : Int32) => W p l e (headSpec wsX8_fewest rm_X8_fewest).room s m [.ref (ad 0), .int x1, .int x2].toArray below meth c s.heap [] 0 0 (MQ below (vp_Si P) [.ref (ad 0), .int x1, .int x2].toArray s 0 0 (fun _ => False)) (F0 m 133 ls [.int v18])) h ?_ ?_
      rotate_left
      · intro h
        refine lv_icmp_ne (tgt := 129) hx hb dX8_fewest_122 (by decide) (fun hc => ?_) (fun hc => ?_)
        · have h := qOk.f hc h
          refine lv_iload_n hx hb dX8_fewest_129 rfl (lv_at hl 1 rfl) ?_
          refine y_cs (va_runS (As := [.int v5]) (rest := []) ⟨hx, hb, hml, hown, hts⟩ (c_X8_bits l v5 (qOk.b1 h)) (va_cwS 1 hts gX8_fewest_X8_bits rfl rfl rfl (by decide +kernel) ⟨Nat.le_of_ble_eq_true rfl, Nat.le_of_ble_eq_true rfl⟩) ⟨qPrT.blind, qPrT.at⟩ rfl rfl hl.1 rfl (lv_room (Nat.le_of_ble_eq_true rfl)) dX8_fewest_130 ⟨Nat.zero_le _, Nat.zero_le _⟩) (fun v19 h => ?_)
          have h := qOk.s h
          exact h
        · have h := qOk.t hc h
          refine lv_iload_n hx hb dX8_fewest_125 rfl (lv_at hl 1 rfl) ?_
          refine lv_goto (tgt := 133) hx hb dX8_fewest_126 (by decide) ?_
          have h := qOk.s h
          exact h
      intro v18 h
      exact W.iret hx hb hr (fun t ht _ => ⟨_, rfl, qOk.s h, ht⟩) (fun _ hq => by cases hq) dX8_fewest_133
    · have h := qOk.t hc h
      refine lv_bipush (v := (-2)) hx hb dX8_fewest_20 (by decide) ?_
      exact W.iret hx hb hr (fun t ht _ => ⟨_, rfl, qOk.s h, ht⟩) (fun _ hq => by cases hq) dX8_fewest_22
abbrev rm_X8_keep : Room := { frames := 3, cells := 0, slots := 0, locals := 65 }
set_option maxHeartbeats 4000000 in
set_option maxRecDepth 100000 in
theorem c_X8_keep (l : Launch) (G : qG) (ad : Nat → Nat) (hI : qI W2N ad) (M : qM) (sz : Nat) (x1 : Int32) {P : Int32 → qM → Prop} (h : qOk2 (kX8_keep M x1) P) : Met l yX8_keep wsX8_keep rm_X8_keep (va_Pc [.ref (ad 0), .int x1] (qPre W2N e2 G ad M sz)) (va_Qi P (fun u t => qHp W2N e2 G ad u t.heap) (qA W2N ad sz)) 0 0 (qA W2N ad sz) := by
  refine Met.ofW (cc := cX8_keep) (maxL := 8) (ret := (some .int)) (by decide) rfl ?_
  intro p e s m args below meth c s₁ B hml hv
  obtain ⟨rfl, hsz, hK, hP⟩ := hv
  subst hsz
  have hx := B.exec
  have hb := B.bytes
  have hr := B.returns
  have hts := atoms_spec (ws := wsX8_keep) B.pre
  have hown : s.vm.findClass RX8 = some m.cls := findClass_of_methodNamed B.named
  have hlocks := B.notSynchronized
  have hH : qHS W2N e2 G ad M s.heap s.heap [] := ⟨hP, va_S.rf⟩
  have f13 : (Cond.fieldLink RX8 13 "SongLampsModel" "now" "[I").before [.ref (ad 0), .int x1].toArray s = true := hts _ (by decide +kernel)
  have i_X8 : ∀ w ∈ wsX80, w ∈ wsX8_keep := fun w hw => List.mem_cons_of_mem _ ((List.mem_append_right _ hw))
  have f79 : (Cond.fieldLink RX8 79 "SongLampsModel" "gas" "I").before [.ref (ad 0), .int x1].toArray s = true := hts _ (by decide +kernel)
  have hl := lv_entry ([.ref (ad 0), .int x1]) (n := 8) (Nat.le_of_ble_eq_true rfl)
  rw [lg_entry_eq]
  generalize (lg_sl ([.ref (ad 0), .int x1]) ++ List.replicate (8 - (lg_sl ([.ref (ad 0), .int x1])).length) Slot.unset).toArray = ls at hl ⊢
  have hl : lv_has ls 8 [(0, .ref (ad 0)), (1, .int x1)] := hl
  have h : qOk (kX8_keep M x1) _ := h
  unfold kX8_keep at h
  refine lv_iload_n hx hb dX8_keep_0 rfl (lv_at hl 1 rfl) ?_
  refine lv_iconst (v := 0) hx hb dX8_keep_1 (by decide) ?_
  refine lv_iconst (v := 1) hx hb dX8_keep_2 (by decide) ?_
  refine y_cs (va_runS (As := [.int x1, .int 0, .int 1]) (rest := []) ⟨hx, hb, hml, hown, hts⟩ (c_X8_in l x1 0 1 (qOk.b1 h)) (va_cwS 3 hts gX8_keep_X8_in rfl rfl rfl (by decide +kernel) ⟨Nat.le_of_ble_eq_true rfl, Nat.le_of_ble_eq_true rfl⟩) ⟨qPrT.blind, qPrT.at⟩ rfl rfl hl.1 rfl (lv_room (Nat.le_of_ble_eq_true rfl)) dX8_keep_3 ⟨Nat.zero_le _, Nat.zero_le _⟩) (fun v1 h => ?_)
  refine lv_if_ne (tgt := 12) hx hb dX8_keep_6 (by decide) (fun hc => ?_) (fun hc => ?_)
  · have h := qOk.f hc h
    refine lv_aload_n hx hb dX8_keep_12 rfl (lv_at hl 0 rfl) ?_
    refine y_cv hH (va_runV (As := []) (rest := []) ⟨hx, hb, hml, hown, hts⟩ (c_X8_asNow l G ad hI M _  (qOk.b1 h)) (cwV 0 hts gX8_keep_X8_asNow rfl rfl rfl (by decide +kernel) ⟨Nat.le_of_ble_eq_true rfl, Nat.le_of_ble_eq_true rfl⟩) ⟨qPre.blind, qrecv hK hH qOb_8 rfl, qPre.at hK hH⟩ rfl rfl hl.1 rfl (lv_room (Nat.le_of_ble_eq_true rfl)) dX8_keep_13 ⟨Nat.zero_le _, Nat.zero_le _⟩) (fun M2 H locs hH h => ?_)
    refine lv_iconst (v := 0) hx hb dX8_keep_16 (by decide) ?_
    refine lv_istore_n (lv' := [(2, .int 0), (0, .ref (ad 0)), (1, .int x1)]) hx hb dX8_keep_17 rfl hl (by decide) rfl (fun ls hl => ?_)
    refine lv_iconst (v := 0) hx hb dX8_keep_18 (by decide) ?_
    refine lv_istore_n (lv' := [(3, .int 0), (2, .int 0), (0, .ref (ad 0)), (1, .int x1)]) hx hb dX8_keep_19 rfl hl (by decide) rfl (fun ls hl => ?_)
    refine qj1 (G := fun (v5 : Int32) => ∀ ls : Array Slot, lv_has ls 8 [(1, .int x1), (2, .int v5)] → W p l e (headSpec wsX8_keep rm_X8_keep).room s m [.ref (ad 0), .int x1].toArray below meth c H locs 0 0 (MQ below (va_Qi P (fun u t => qHp W2N e2 G ad u t.heap) (qA W2N ad s.heap.size)) [.ref (ad 0), .int x1].toArray s 0 0 (qA W2N ad s.heap.size)) (F0 m 202 ls [])) h ?_ ?_
    rotate_left
    · intro h
      refine qloop2 (I := fun (v3 : Int32) (v4 : Int32) => ∀ ls : Array Slot, lv_has ls 8 [(0, .ref (ad 0)), (1, .int x1), (2, .int v3), (3, .int v4)] → W p l e (headSpec wsX8_keep rm_X8_keep).room s m [.ref (ad 0), .int x1].toArray below meth c H locs 0 0 (MQ below (va_Qi P (fun u t => qHp W2N e2 G ad u t.heap) (qA W2N ad s.heap.size)) [.ref (ad 0), .int x1].toArray s 0 0 (qA W2N ad s.heap.size)) (F0 m 20 ls [])) ?_ h _ (lv_sub hl [2, 3, 1, 0] rfl)
      intro v3 v4 h ls hl
      have h : qOk (kX8_keep_L20 M2 v3 v4) _ := h
      unfold kX8_keep_L20 at h
      refine lv_iload_n hx hb dX8_keep_20 rfl (lv_at hl 3 rfl) ?_
      refine lv_sipush (v := 256) hx hb dX8_keep_21 (by decide) ?_
      refine lv_icmp_ge (tgt := 202) hx hb dX8_keep_24 (by decide) (fun hc => ?_) (fun hc => ?_)
      · have h := qOk.t hc h
        exact qOk.le h _ (lv_sub hl [1, 2] rfl)
      · have h := qOk.f hc h
        refine lv_iload_n hx hb dX8_keep_27 rfl (lv_at hl 3 rfl) ?_
        refine y_cs (va_runS (As := [.int v4]) (rest := []) ⟨hx, hb, hml, hown, hts⟩ (c_X8_bits l v4 (qOk.b1 h)) (va_cwS 1 hts gX8_keep_X8_bits rfl rfl rfl (by decide +kernel) ⟨Nat.le_of_ble_eq_true rfl, Nat.le_of_ble_eq_true rfl⟩) ⟨qPrT.blind, qPrT.at⟩ rfl rfl hl.1 rfl (lv_room (Nat.le_of_ble_eq_true rfl)) dX8_keep_28 ⟨Nat.zero_le _, Nat.zero_le _⟩) (fun v6 h => ?_)
        refine lv_iload_n hx hb dX8_keep_31 rfl (lv_at hl 2 rfl) ?_
        refine y_cs (va_runS (As := [.int v3]) (rest := [.int v6]) ⟨hx, hb, hml, hown, hts⟩ (c_X8_bits l v3 (qOk.b1 h)) (va_cwS 1 hts gX8_keep_X8_bits rfl rfl rfl (by decide +kernel) ⟨Nat.le_of_ble_eq_true rfl, Nat.le_of_ble_eq_true rfl⟩) ⟨qPrT.blind, qPrT.at⟩ rfl rfl hl.1 rfl (lv_room (Nat.le_of_ble_eq_true rfl)) dX8_keep_32 ⟨Nat.zero_le _, Nat.zero_le _⟩) (fun v7 h => ?_)
        refine qj1 (G := fun (v8 : Int32) => W p l e (headSpec wsX8_keep rm_X8_keep).room s m [.ref (ad 0), .int x1].toArray below meth c H locs 0 0 (MQ below (va_Qi P (fun u t => qHp W2N e2 G ad u t.heap) (qA W2N ad s.heap.size)) [.ref (ad 0), .int x1].toArray s 0 0 (qA W2N ad s.heap.size)) (F0 m 43 ls [.int v8])) h ?_ ?_
        rotate_left
        · intro h
          refine lv_icmp_le (tgt := 42) hx hb dX8_keep_35 (by decide) (fun hc => ?_) (fun hc => ?_)
          · have h := qOk.t hc h
            refine lv_iconst (v := 0) hx hb dX8_keep_42 (by decide) ?_
            have h := qOk.s h
            exact h
          · have h := qOk.f hc h
            refine lv_iconst (v := 1) hx hb dX8_keep_38 (by decide) ?_
            refine lv_goto (tgt := 43) hx hb dX8_keep_39 (by decide) ?_
            have h := qOk.s h
            exact h
        intro v8 h
        refine lv_istore (lv' := [(4, .int v8), (0, .ref (ad 0)), (1, .int x1), (2, .int v3), (3, .int v4)]) hx hb dX8_keep_43 hl (by decide) rfl (fun ls hl => ?_)
        refine lv_iconst (v := 0) hx hb dX8_keep_45 (by decide) ?_
        refine lv_istore (lv' := [(5, .int 0), (4, .int v8), (0, .ref (ad 0)), (1, .int x1), (2, .int v3), (3, .int v4)]) hx hb dX8_keep_46 hl (by decide) rfl (fun ls hl => ?_)
        refine qj1 (G := fun (v11 : Int32) => ∀ ls : Array Slot, lv_has ls 8 [(0, .ref (ad 0)), (1, .int x1), (2, .int v3), (3, .int v4), (4, .int v11)] → W p l e (headSpec wsX8_keep rm_X8_keep).room s m [.ref (ad 0), .int x1].toArray below meth c H locs 0 0 (MQ below (va_Qi P (fun u t => qHp W2N e2 G ad u t.heap) (qA W2N ad s.heap.size)) [.ref (ad 0), .int x1].toArray s 0 0 (qA W2N ad s.heap.size)) (F0 m 185 ls [])) h ?_ ?_
        rotate_left
        · intro h
          refine qloop2 (I := fun (v9 : Int32) (v10 : Int32) => ∀ ls : Array Slot, lv_has ls 8 [(0, .ref (ad 0)), (1, .int x1), (2, .int v3), (3, .int v4), (4, .int v9), (5, .int v10)] → W p l e (headSpec wsX8_keep rm_X8_keep).room s m [.ref (ad 0), .int x1].toArray below meth c H locs 0 0 (MQ below (va_Qi P (fun u t => qHp W2N e2 G ad u t.heap) (qA W2N ad s.heap.size)) [.ref (ad 0), .int x1].toArray s 0 0 (qA W2N ad s.heap.size)) (F0 m 48 ls [])) ?_ h _ (lv_sub hl [2, 3, 4, 5, 1, 0] rfl)
          intro v9 v10 h ls hl
          have h : qOk (kX8_keep_L48 M2 v4 v9 v10) _ := h
          unfold kX8_keep_L48 at h
          refine lv_iload hx hb dX8_keep_48 (lv_at hl 5 rfl) ?_
          refine lv_bipush (v := 8) hx hb dX8_keep_50 (by decide) ?_
          refine lv_icmp_ge (tgt := 185) hx hb dX8_keep_52 (by decide) (fun hc => ?_) (fun hc => ?_)
          · have h := qOk.t hc h
            exact qOk.le h _ (lv_sub hl [0, 1, 2, 3, 4] rfl)
          · have h := qOk.f hc h
            refine lv_iload hx hb dX8_keep_55 (lv_at hl 4 rfl) ?_
            refine lv_if_eq (tgt := 185) hx hb dX8_keep_57 (by decide) (fun hc => ?_) (fun hc => ?_)
            · have h := qOk.t hc h
              exact qOk.le h _ (lv_sub hl [0, 1, 2, 3, 4] rfl)
            · have h := qOk.f hc h
              refine lv_aload_n hx hb dX8_keep_60 rfl (lv_at hl 0 rfl) ?_
              refine y_get hx hb hts i_X8 hown hK hH qOb_8 rfl 1 (by decide) f13 rfl dX8_keep_61 ?_
              refine lv_bipush (v := 16) hx hb dX8_keep_64 (by decide) ?_
              refine lv_iload hx hb dX8_keep_66 (lv_at hl 5 rfl) ?_
              refine lv_iadd hx hb dX8_keep_68 ?_
              refine y_iald hx hb hK hH qMr_2 h dX8_keep_69 (fun v12 h => ?_)
              refine lv_istore (lv' := [(6, .int v12), (0, .ref (ad 0)), (1, .int x1), (2, .int v3), (3, .int v4), (4, .int v9), (5, .int v10)]) hx hb dX8_keep_70 hl (by decide) rfl (fun ls hl => ?_)
              refine lv_iload_n hx hb dX8_keep_72 rfl (lv_at hl 4 rfl) ?_
              refine lv_iload hx hb dX8_keep_73 (lv_at hl 6 rfl) ?_
              refine y_cs (va_runS (As := [.int v4, .int v10]) (rest := []) ⟨hx, hb, hml, hown, hts⟩ (c_X8_has l v4 v10 (qOk.b1 h)) (va_cwS 2 hts gX8_keep_X8_has rfl rfl rfl (by decide +kernel) ⟨Nat.le_of_ble_eq_true rfl, Nat.le_of_ble_eq_true rfl⟩) ⟨qPrT.blind, qPrT.at⟩ rfl rfl hl.1 rfl (lv_room (Nat.le_of_ble_eq_true rfl)) dX8_keep_75 ⟨Nat.zero_le _, Nat.zero_le _⟩) (fun v13 h => ?_)
              refine qj1 (G := fun (v14 : Int32) => W p l e (headSpec wsX8_keep rm_X8_keep).room s m [.ref (ad 0), .int x1].toArray below meth c H locs 0 0 (MQ below (va_Qi P (fun u t => qHp W2N e2 G ad u t.heap) (qA W2N ad s.heap.size)) [.ref (ad 0), .int x1].toArray s 0 0 (qA W2N ad s.heap.size)) (F0 m 97 ls [.int v14])) h ?_ ?_
              rotate_left
              · intro h
                refine lv_if_eq (tgt := 92) hx hb dX8_keep_78 (by decide) (fun hc => ?_) (fun hc => ?_)
                · have h := qOk.t hc h
                  refine lv_iconst (v := 1) hx hb dX8_keep_92 (by decide) ?_
                  refine lv_goto (tgt := 97) hx hb dX8_keep_93 (by decide) ?_
                  have h := qOk.s h
                  exact h
                · have h := qOk.f hc h
                  refine lv_aload_n hx hb dX8_keep_81 rfl (lv_at hl 1 rfl) ?_
                  refine lv_iload hx hb dX8_keep_82 (lv_at hl 6 rfl) ?_
                  refine lv_iload hx hb dX8_keep_84 (lv_at hl 0 rfl) ?_
                  refine y_cs (va_runV (As := [.int v10, .int v12]) (rest := []) ⟨hx, hb, hml, hown, hts⟩ (c_X8_sings l G ad hI M2 _ v10 v12 (qOk.b1 h)) (cwV 2 hts gX8_keep_X8_sings rfl rfl rfl (by decide +kernel) ⟨Nat.le_of_ble_eq_true rfl, Nat.le_of_ble_eq_true rfl⟩) ⟨qPre.blind, qrecv hK hH qOb_8 rfl, qPre.at hK hH⟩ rfl rfl hl.1 rfl (lv_room (Nat.le_of_ble_eq_true rfl)) dX8_keep_86 ⟨Nat.zero_le _, Nat.zero_le _⟩) (fun v15 h => ?_)
                  refine lv_if_eq (tgt := 96) hx hb dX8_keep_89 (by decide) (fun hc => ?_) (fun hc => ?_)
                  · have h := qOk.t hc h
                    refine lv_iconst (v := 0) hx hb dX8_keep_96 (by decide) ?_
                    have h := qOk.s h
                    exact h
                  · have h := qOk.f hc h
                    refine lv_iconst (v := 1) hx hb dX8_keep_92 (by decide) ?_
                    refine lv_goto (tgt := 97) hx hb dX8_keep_93 (by decide) ?_
                    have h := qOk.s h
                    exact h
              intro v14 h
              refine lv_istore (lv' := [(4, .int v14), (6, .int v12), (0, .ref (ad 0)), (1, .int x1), (2, .int v3), (3, .int v4), (5, .int v10)]) hx hb dX8_keep_97 hl (by decide) rfl (fun ls hl => ?_)
              refine lv_iconst (v := 0) hx hb dX8_keep_99 (by decide) ?_
              refine lv_istore (lv' := [(7, .int 0), (4, .int v14), (6, .int v12), (0, .ref (ad 0)), (1, .int x1), (2, .int v3), (3, .int v4), (5, .int v10)]) hx hb dX8_keep_100 hl (by decide) rfl (fun ls hl => ?_)
              refine qj1 (G := fun (v18 : Int32) => ∀ ls : Array Slot, lv_has ls 8 [(0, .ref (ad 0)), (1, .int x1), (2, .int v3), (3, .int v4), (4, .int v18), (5, .int v10)] → W p l e (headSpec wsX8_keep rm_X8_keep).room s m [.ref (ad 0), .int x1].toArray below meth c H locs 0 0 (MQ below (va_Qi P (fun u t => qHp W2N e2 G ad u t.heap) (qA W2N ad s.heap.size)) [.ref (ad 0), .int x1].toArray s 0 0 (qA W2N ad s.heap.size)) (F0 m 179 ls [])) h ?_ ?_
              rotate_left
              · intro h
                refine qloop2 (I := fun (v16 : Int32) (v17 : Int32) => ∀ ls : Array Slot, lv_has ls 8 [(0, .ref (ad 0)), (1, .int x1), (2, .int v3), (3, .int v4), (4, .int v16), (5, .int v10), (6, .int v12), (7, .int v17)] → W p l e (headSpec wsX8_keep rm_X8_keep).room s m [.ref (ad 0), .int x1].toArray below meth c H locs 0 0 (MQ below (va_Qi P (fun u t => qHp W2N e2 G ad u t.heap) (qA W2N ad s.heap.size)) [.ref (ad 0), .int x1].toArray s 0 0 (qA W2N ad s.heap.size)) (F0 m 102 ls [])) ?_ h _ (lv_sub hl [3, 4, 5, 6, 1, 7, 2, 0] rfl)
                intro v16 v17 h ls hl
                have h : qOk (kX8_keep_L102 v10 v4 M2 v12 v16 v17) _ := h
                unfold kX8_keep_L102 at h
                refine lv_iload hx hb dX8_keep_102 (lv_at hl 7 rfl) ?_
                refine lv_iload hx hb dX8_keep_104 (lv_at hl 5 rfl) ?_
                refine lv_icmp_ge (tgt := 179) hx hb dX8_keep_106 (by decide) (fun hc => ?_) (fun hc => ?_)
                · have h := qOk.t hc h
                  exact qOk.le h _ (lv_sub hl [0, 1, 2, 3, 4, 5] rfl)
                · have h := qOk.f hc h
                  refine lv_iload hx hb dX8_keep_109 (lv_at hl 4 rfl) ?_
                  refine lv_if_eq (tgt := 179) hx hb dX8_keep_111 (by decide) (fun hc => ?_) (fun hc => ?_)
                  · have h := qOk.t hc h
                    exact qOk.le h _ (lv_sub hl [0, 1, 2, 3, 4, 5] rfl)
                  · have h := qOk.f hc h
                    refine lv_iload_n hx hb dX8_keep_114 rfl (lv_at hl 3 rfl) ?_
                    refine lv_iload hx hb dX8_keep_115 (lv_at hl 5 rfl) ?_
                    refine y_cs (va_runS (As := [.int v4, .int v10]) (rest := []) ⟨hx, hb, hml, hown, hts⟩ (c_X8_has l v4 v10 (qOk.b1 h)) (va_cwS 2 hts gX8_keep_X8_has rfl rfl rfl (by decide +kernel) ⟨Nat.le_of_ble_eq_true rfl, Nat.le_of_ble_eq_true rfl⟩) ⟨qPrT.blind, qPrT.at⟩ rfl rfl hl.1 rfl (lv_room (Nat.le_of_ble_eq_true rfl)) dX8_keep_117 ⟨Nat.zero_le _, Nat.zero_le _⟩) (fun v19 h => ?_)
                    refine lv_if_eq (tgt := 179) hx hb dX8_keep_120 (by decide) (fun hc => ?_) (fun hc => ?_)
                    · have h := qOk.t hc h
                      exact qOk.le h _ (lv_sub hl [0, 1, 2, 3, 4, 5] rfl)
                    · have h := qOk.f hc h
                      refine lv_iload_n hx hb dX8_keep_123 rfl (lv_at hl 3 rfl) ?_
                      refine lv_iload hx hb dX8_keep_124 (lv_at hl 7 rfl) ?_
                      refine y_cs (va_runS (As := [.int v4, .int v17]) (rest := []) ⟨hx, hb, hml, hown, hts⟩ (c_X8_has l v4 v17 (qOk.b1 h)) (va_cwS 2 hts gX8_keep_X8_has rfl rfl rfl (by decide +kernel) ⟨Nat.le_of_ble_eq_true rfl, Nat.le_of_ble_eq_true rfl⟩) ⟨qPrT.blind, qPrT.at⟩ rfl rfl hl.1 rfl (lv_room (Nat.le_of_ble_eq_true rfl)) dX8_keep_126 ⟨Nat.zero_le _, Nat.zero_le _⟩) (fun v20 h => ?_)
                      refine qj1 (G := fun (v21 : Int32) => W p l e (headSpec wsX8_keep rm_X8_keep).room s m [.ref (ad 0), .int x1].toArray below meth c H locs 0 0 (MQ below (va_Qi P (fun u t => qHp W2N e2 G ad u t.heap) (qA W2N ad s.heap.size)) [.ref (ad 0), .int x1].toArray s 0 0 (qA W2N ad s.heap.size)) (F0 m 171 ls [.int v21])) h ?_ ?_
                      rotate_left
                      · intro h
                        refine lv_if_eq (tgt := 166) hx hb dX8_keep_129 (by decide) (fun hc => ?_) (fun hc => ?_)
                        · have h := qOk.t hc h
                          refine lv_iconst (v := 1) hx hb dX8_keep_166 (by decide) ?_
                          refine lv_goto (tgt := 171) hx hb dX8_keep_167 (by decide) ?_
                          have h := qOk.s h
                          exact h
                        · have h := qOk.f hc h
                          refine lv_aload_n hx hb dX8_keep_132 rfl (lv_at hl 0 rfl) ?_
                          refine y_get hx hb hts i_X8 hown hK hH qOb_8 rfl 8 (by decide) f79 rfl dX8_keep_133 ?_
                          refine lv_iload hx hb dX8_keep_136 (lv_at hl 6 rfl) ?_
                          refine y_cs (va_runS (As := [.int (M2 0 8), .int v12]) (rest := []) ⟨hx, hb, hml, hown, hts⟩ (c_X8_has l (M2 0 8) v12 (qOk.b1 h)) (va_cwS 2 hts gX8_keep_X8_has rfl rfl rfl (by decide +kernel) ⟨Nat.le_of_ble_eq_true rfl, Nat.le_of_ble_eq_true rfl⟩) ⟨qPrT.blind, qPrT.at⟩ rfl rfl hl.1 rfl (lv_room (Nat.le_of_ble_eq_true rfl)) dX8_keep_138 ⟨Nat.zero_le _, Nat.zero_le _⟩) (fun v22 h => ?_)
                          refine lv_if_eq (tgt := 166) hx hb dX8_keep_141 (by decide) (fun hc => ?_) (fun hc => ?_)
                          · have h := qOk.t hc h
                            refine lv_iconst (v := 1) hx hb dX8_keep_166 (by decide) ?_
                            refine lv_goto (tgt := 171) hx hb dX8_keep_167 (by decide) ?_
                            have h := qOk.s h
                            exact h
                          · have h := qOk.f hc h
                            refine lv_aload_n hx hb dX8_keep_144 rfl (lv_at hl 0 rfl) ?_
                            refine lv_iload hx hb dX8_keep_145 (lv_at hl 7 rfl) ?_
                            refine lv_iload hx hb dX8_keep_147 (lv_at hl 6 rfl) ?_
                            refine y_cs (va_runV (As := [.int v17, .int v12]) (rest := []) ⟨hx, hb, hml, hown, hts⟩ (c_X8_sings l G ad hI M2 _ v17 v12 (qOk.b1 h)) (cwV 2 hts gX8_keep_X8_sings rfl rfl rfl (by decide +kernel) ⟨Nat.le_of_ble_eq_true rfl, Nat.le_of_ble_eq_true rfl⟩) ⟨qPre.blind, qrecv hK hH qOb_8 rfl, qPre.at hK hH⟩ rfl rfl hl.1 rfl (lv_room (Nat.le_of_ble_eq_true rfl)) dX8_keep_149 ⟨Nat.zero_le _, Nat.zero_le _⟩) (fun v23 h => ?_)
                            refine lv_if_eq (tgt := 166) hx hb dX8_keep_152 (by decide) (fun hc => ?_) (fun hc => ?_)
                            · have h := qOk.t hc h
                              refine lv_iconst (v := 1) hx hb dX8_keep_166 (by decide) ?_
                              refine lv_goto (tgt := 171) hx hb dX8_keep_167 (by decide) ?_
                              have h := qOk.s h
                              exact h
                            · have h := qOk.f hc h
                              refine lv_aload_n hx hb dX8_keep_155 rfl (lv_at hl 0 rfl) ?_
                              refine lv_iload hx hb dX8_keep_156 (lv_at hl 5 rfl) ?_
                              refine lv_iload hx hb dX8_keep_158 (lv_at hl 7 rfl) ?_
                              refine y_cs (va_runV (As := [.int v10, .int v17]) (rest := []) ⟨hx, hb, hml, hown, hts⟩ (c_X8_areHushed l G ad hI M2 _ v10 v17 (qOk.b1 h)) (cwV 2 hts gX8_keep_X8_areHushed rfl rfl rfl (by decide +kernel) ⟨Nat.le_of_ble_eq_true rfl, Nat.le_of_ble_eq_true rfl⟩) ⟨qPre.blind, qrecv hK hH qOb_8 rfl, qPre.at hK hH⟩ rfl rfl hl.1 rfl (lv_room (Nat.le_of_ble_eq_true rfl)) dX8_keep_160 ⟨Nat.zero_le _, Nat.zero_le _⟩) (fun v24 h => ?_)
                              refine lv_if_ne (tgt := 170) hx hb dX8_keep_163 (by decide) (fun hc => ?_) (fun hc => ?_)
                              · have h := qOk.f hc h
                                refine lv_iconst (v := 0) hx hb dX8_keep_170 (by decide) ?_
                                have h := qOk.s h
                                exact h
                              · have h := qOk.t hc h
                                refine lv_iconst (v := 1) hx hb dX8_keep_166 (by decide) ?_
                                refine lv_goto (tgt := 171) hx hb dX8_keep_167 (by decide) ?_
                                have h := qOk.s h
                                exact h
                      intro v21 h
                      refine lv_istore (lv' := [(4, .int v21), (0, .ref (ad 0)), (1, .int x1), (2, .int v3), (3, .int v4), (5, .int v10), (6, .int v12), (7, .int v17)]) hx hb dX8_keep_171 hl (by decide) rfl (fun ls hl => ?_)
                      obtain ⟨v25, ev25⟩ : ∃ y : Int32, y = v17 + 1 := ⟨_, rfl⟩
                      have h := qOk.v h ev25
                      refine lv_iinc (v := v25) (lv' := [(7, .int v25), (4, .int v21), (0, .ref (ad 0)), (1, .int x1), (2, .int v3), (3, .int v4), (5, .int v10), (6, .int v12)]) hx hb dX8_keep_173 hl (k := 7) rfl (by rw [ev25]; rfl) (by decide) rfl (fun ls hl => ?_)
                      refine lv_goto (tgt := 102) hx hb dX8_keep_176 (by decide) ?_
                      exact qOk.li h _ (lv_sub hl [2, 3, 4, 5, 1, 6, 7, 0] rfl)
              intro v18 h ls hl
              obtain ⟨v26, ev26⟩ : ∃ y : Int32, y = v10 + 1 := ⟨_, rfl⟩
              have h := qOk.v h ev26
              refine lv_iinc (v := v26) (lv' := [(5, .int v26), (0, .ref (ad 0)), (1, .int x1), (2, .int v3), (3, .int v4), (4, .int v18)]) hx hb dX8_keep_179 hl (k := 5) rfl (by rw [ev26]; rfl) (by decide) rfl (fun ls hl => ?_)
              refine lv_goto (tgt := 48) hx hb dX8_keep_182 (by decide) ?_
              exact qOk.li h _ (lv_sub hl [1, 2, 3, 4, 5, 0] rfl)
        intro v11 h ls hl
        refine lv_iload hx hb dX8_keep_185 (lv_at hl 4 rfl) ?_
        refine qj1 (G := fun (v27 : Int32) => W p l e (headSpec wsX8_keep rm_X8_keep).room s m [.ref (ad 0), .int x1].toArray below meth c H locs 0 0 (MQ below (va_Qi P (fun u t => qHp W2N e2 G ad u t.heap) (qA W2N ad s.heap.size)) [.ref (ad 0), .int x1].toArray s 0 0 (qA W2N ad s.heap.size)) (F0 m 195 ls [.int v27])) h ?_ ?_
        rotate_left
        · intro h
          refine lv_if_eq (tgt := 194) hx hb dX8_keep_187 (by decide) (fun hc => ?_) (fun hc => ?_)
          · have h := qOk.t hc h
            refine lv_iload_n hx hb dX8_keep_194 rfl (lv_at hl 2 rfl) ?_
            have h := qOk.s h
            exact h
          · have h := qOk.f hc h
            refine lv_iload_n hx hb dX8_keep_190 rfl (lv_at hl 3 rfl) ?_
            refine lv_goto (tgt := 195) hx hb dX8_keep_191 (by decide) ?_
            have h := qOk.s h
            exact h
        intro v27 h
        refine lv_istore_n (lv' := [(2, .int v27), (0, .ref (ad 0)), (1, .int x1), (3, .int v4), (4, .int v11)]) hx hb dX8_keep_195 rfl hl (by decide) rfl (fun ls hl => ?_)
        obtain ⟨v28, ev28⟩ : ∃ y : Int32, y = v4 + 1 := ⟨_, rfl⟩
        have h := qOk.v h ev28
        refine lv_iinc (v := v28) (lv' := [(3, .int v28), (2, .int v27), (0, .ref (ad 0)), (1, .int x1), (4, .int v11)]) hx hb dX8_keep_196 hl (k := 3) rfl (by rw [ev28]; rfl) (by decide) rfl (fun ls hl => ?_)
        refine lv_goto (tgt := 20) hx hb dX8_keep_199 (by decide) ?_
        exact qOk.li h _ (lv_sub hl [2, 3, 1, 0] rfl)
    intro v5 h ls hl
    refine lv_iload_n hx hb dX8_keep_202 rfl (lv_at hl 0 rfl) ?_
    refine lv_iconst (v := 1) hx hb dX8_keep_203 (by decide) ?_
    refine qj1 (G := fun (v29 : Int32) => W p l e (headSpec wsX8_keep rm_X8_keep).room s m [.ref (ad 0), .int x1].toArray below meth c H locs 0 0 (MQ below (va_Qi P (fun u t => qHp W2N e2 G ad u t.heap) (qA W2N ad s.heap.size)) [.ref (ad 0), .int x1].toArray s 0 0 (qA W2N ad s.heap.size)) (F0 m 215 ls [.int v29])) h ?_ ?_
    rotate_left
    · intro h
      refine lv_icmp_ne (tgt := 211) hx hb dX8_keep_204 (by decide) (fun hc => ?_) (fun hc => ?_)
      · have h := qOk.f hc h
        refine lv_iload_n hx hb dX8_keep_211 rfl (lv_at hl 1 rfl) ?_
        refine y_cs (va_runS (As := [.int v5]) (rest := []) ⟨hx, hb, hml, hown, hts⟩ (c_X8_bits l v5 (qOk.b1 h)) (va_cwS 1 hts gX8_keep_X8_bits rfl rfl rfl (by decide +kernel) ⟨Nat.le_of_ble_eq_true rfl, Nat.le_of_ble_eq_true rfl⟩) ⟨qPrT.blind, qPrT.at⟩ rfl rfl hl.1 rfl (lv_room (Nat.le_of_ble_eq_true rfl)) dX8_keep_212 ⟨Nat.zero_le _, Nat.zero_le _⟩) (fun v30 h => ?_)
        have h := qOk.s h
        exact h
      · have h := qOk.t hc h
        refine lv_iload_n hx hb dX8_keep_207 rfl (lv_at hl 1 rfl) ?_
        refine lv_goto (tgt := 215) hx hb dX8_keep_208 (by decide) ?_
        have h := qOk.s h
        exact h
    intro v29 h
    exact W.iret hx hb hr (fun t ht _ => ⟨⟨_, _, rfl, qOk2.s h, qHpt ht hH.1⟩, hH.2.F ht⟩) hH.2.2.2 dX8_keep_215
  · have h := qOk.t hc h
    refine lv_bipush (v := (-2)) hx hb dX8_keep_9 (by decide) ?_
    exact W.iret hx hb hr (fun t ht _ => ⟨⟨_, _, rfl, qOk2.s h, qHpt ht hH.1⟩, hH.2.F ht⟩) hH.2.2.2 dX8_keep_11
