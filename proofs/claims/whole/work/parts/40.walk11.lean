abbrev rm_X8_beat : Room := { frames := 5, cells := 0, slots := 0, locals := 114 }
set_option maxHeartbeats 4000000 in
set_option maxRecDepth 100000 in
theorem c_X8_beat (l : Launch) (G : qG) (ad : Nat → Nat) (hI : qI W2N ad) (M : qM) (sz : Nat) {P : Int32 → qM → Prop} (h : qOk2 (kX8_beat M) P) : Met l yX8_beat wsX8_beat rm_X8_beat (va_Pc [.ref (ad 0)] (qPre W2N e2 G ad M sz)) (va_Qi P (fun u t => qHp W2N e2 G ad u t.heap) (qA W2N ad sz)) 0 0 (qA W2N ad sz) := by
  refine Met.ofW (cc := cX8_beat) (maxL := 3) (ret := (some .int)) (by decide) rfl ?_
  intro p e s m args below meth c s₁ B hml hv
  obtain ⟨rfl, hsz, hK, hP⟩ := hv
  subst hsz
  have hx := B.exec
  have hb := B.bytes
  have hr := B.returns
  have hts := atoms_spec (ws := wsX8_beat) B.pre
  have hown : s.vm.findClass RX8 = some m.cls := findClass_of_methodNamed B.named
  have hlocks := B.notSynchronized
  have hH : qHS W2N e2 G ad M s.heap s.heap [] := ⟨hP, va_S.rf⟩
  have f13 : (Cond.fieldLink RX8 13 "SongLampsModel" "now" "[I").before [.ref (ad 0)].toArray s = true := hts _ (by decide +kernel)
  have i_X8 : ∀ w ∈ wsX80, w ∈ wsX8_beat := fun w hw => List.mem_cons_of_mem _ ((List.mem_append_right _ hw))
  have f37 : (Cond.fieldLink RX8 37 "SongLampsModel" "bright" "[I").before [.ref (ad 0)].toArray s = true := hts _ (by decide +kernel)
  have f22 : (Cond.fieldLink RX8 22 "SongLampsModel" "lungs" "[I").before [.ref (ad 0)].toArray s = true := hts _ (by decide +kernel)
  have hl := lv_entry ([.ref (ad 0)]) (n := 3) (Nat.le_of_ble_eq_true rfl)
  rw [lg_entry_eq]
  generalize (lg_sl ([.ref (ad 0)]) ++ List.replicate (3 - (lg_sl ([.ref (ad 0)])).length) Slot.unset).toArray = ls at hl ⊢
  have hl : lv_has ls 3 [(0, .ref (ad 0))] := hl
  have h : qOk (kX8_beat M) _ := h
  unfold kX8_beat at h
  refine lv_aload_n hx hb dX8_beat_0 rfl (lv_at hl 0 rfl) ?_
  refine y_get hx hb hts i_X8 hown hK hH qOb_8 rfl 1 (by decide) f13 rfl dX8_beat_1 ?_
  refine lv_bipush (v := 35) hx hb dX8_beat_4 (by decide) ?_
  refine y_iald hx hb hK hH qMr_2 h dX8_beat_6 (fun v1 h => ?_)
  refine lv_sipush (v := 999) hx hb dX8_beat_7 (by decide) ?_
  refine lv_icmp_ne (tgt := 16) hx hb dX8_beat_10 (by decide) (fun hc => ?_) (fun hc => ?_)
  · have h := qOk.f hc h
    refine lv_aload_n hx hb dX8_beat_16 rfl (lv_at hl 0 rfl) ?_
    refine y_get hx hb hts i_X8 hown hK hH qOb_8 rfl 1 (by decide) f13 rfl dX8_beat_17 ?_
    refine lv_bipush (v := 35) hx hb dX8_beat_20 (by decide) ?_
    refine lv_dup2_11 hx hb dX8_beat_22 rfl rfl ?_
    refine y_iald hx hb hK hH qMr_2 h dX8_beat_23 (fun v2 h => ?_)
    refine lv_iconst (v := 1) hx hb dX8_beat_24 (by decide) ?_
    refine lv_iadd hx hb dX8_beat_25 ?_
    refine y_iast hx hb hK hI hH qMr_2 h dX8_beat_26 (fun M3 H locs hH h => ?_)
    refine lv_iconst (v := 0) hx hb dX8_beat_27 (by decide) ?_
    refine lv_istore_n (lv' := [(1, .int 0), (0, .ref (ad 0))]) hx hb dX8_beat_28 rfl hl (by decide) rfl (fun ls hl => ?_)
    refine qj1 (G := fun (M6 : qM) => ∀ (H : Heap) (locs : List Loc), qHS W2N e2 G ad M6 s.heap H locs → ∀ ls : Array Slot, lv_has ls 3 [(0, .ref (ad 0))] → W p l e (headSpec wsX8_beat rm_X8_beat).room s m [.ref (ad 0)].toArray below meth c H locs 0 0 (MQ below (va_Qi P (fun u t => qHp W2N e2 G ad u t.heap) (qA W2N ad s.heap.size)) [.ref (ad 0)].toArray s 0 0 (qA W2N ad s.heap.size)) (F0 m 52 ls [])) h ?_ ?_
    rotate_left
    · intro h
      refine qloop2 (I := fun (v4 : Int32) (M5 : qM) => ∀ (H : Heap) (locs : List Loc), qHS W2N e2 G ad M5 s.heap H locs → ∀ ls : Array Slot, lv_has ls 3 [(0, .ref (ad 0)), (1, .int v4)] → W p l e (headSpec wsX8_beat rm_X8_beat).room s m [.ref (ad 0)].toArray below meth c H locs 0 0 (MQ below (va_Qi P (fun u t => qHp W2N e2 G ad u t.heap) (qA W2N ad s.heap.size)) [.ref (ad 0)].toArray s 0 0 (qA W2N ad s.heap.size)) (F0 m 29 ls [])) ?_ h _ _ hH _ (lv_sub hl [1, 0] rfl)
      intro v4 M5 h H locs hH ls hl
      have h : qOk (kX8_beat_L29 v4 M5) _ := h
      unfold kX8_beat_L29 at h
      refine lv_iload_n hx hb dX8_beat_29 rfl (lv_at hl 1 rfl) ?_
      refine lv_bipush (v := 10) hx hb dX8_beat_30 (by decide) ?_
      refine lv_icmp_ge (tgt := 52) hx hb dX8_beat_32 (by decide) (fun hc => ?_) (fun hc => ?_)
      · have h := qOk.t hc h
        exact qOk.le h _ _ hH _ (lv_sub hl [0] rfl)
      · have h := qOk.f hc h
        refine lv_aload_n hx hb dX8_beat_35 rfl (lv_at hl 0 rfl) ?_
        refine y_get hx hb hts i_X8 hown hK hH qOb_8 rfl 15 (by decide) f37 rfl dX8_beat_36 ?_
        refine lv_iload_n hx hb dX8_beat_39 rfl (lv_at hl 1 rfl) ?_
        refine lv_aload_n hx hb dX8_beat_40 rfl (lv_at hl 0 rfl) ?_
        refine lv_iload_n hx hb dX8_beat_41 rfl (lv_at hl 1 rfl) ?_
        refine y_cs (va_runV (As := [.int v4]) (rest := [.int v4, .ref (ad 10)]) ⟨hx, hb, hml, hown, hts⟩ (c_X8_lightOf l G ad hI M5 _ v4 (qOk.b1 h)) (cwV 1 hts gX8_beat_X8_lightOf rfl rfl rfl (by decide +kernel) ⟨Nat.le_of_ble_eq_true rfl, Nat.le_of_ble_eq_true rfl⟩) ⟨qPre.blind, qrecv hK hH qOb_8 rfl, qPre.at hK hH⟩ rfl rfl hl.1 rfl (lv_room (Nat.le_of_ble_eq_true rfl)) dX8_beat_42 ⟨Nat.zero_le _, Nat.zero_le _⟩) (fun v7 h => ?_)
        refine y_iast hx hb hK hI hH qMr_10 h dX8_beat_45 (fun M8 H locs hH h => ?_)
        obtain ⟨v9, ev9⟩ : ∃ y : Int32, y = v4 + 1 := ⟨_, rfl⟩
        have h := qOk.v h ev9
        refine lv_iinc (v := v9) (lv' := [(1, .int v9), (0, .ref (ad 0))]) hx hb dX8_beat_46 hl (k := 1) rfl (by rw [ev9]; rfl) (by decide) rfl (fun ls hl => ?_)
        refine lv_goto (tgt := 29) hx hb dX8_beat_49 (by decide) ?_
        exact qOk.li h _ _ hH _ (lv_sub hl [1, 0] rfl)
    intro M6 h H locs hH ls hl
    refine lv_iconst (v := 0) hx hb dX8_beat_52 (by decide) ?_
    refine lv_istore_n (lv' := [(1, .int 0), (0, .ref (ad 0))]) hx hb dX8_beat_53 rfl hl (by decide) rfl (fun ls hl => ?_)
    refine qj1 (G := fun (M12 : qM) => ∀ (H : Heap) (locs : List Loc), qHS W2N e2 G ad M12 s.heap H locs → ∀ ls : Array Slot, lv_has ls 3 [] → W p l e (headSpec wsX8_beat rm_X8_beat).room s m [.ref (ad 0)].toArray below meth c H locs 0 0 (MQ below (va_Qi P (fun u t => qHp W2N e2 G ad u t.heap) (qA W2N ad s.heap.size)) [.ref (ad 0)].toArray s 0 0 (qA W2N ad s.heap.size)) (F0 m 222 ls [])) h ?_ ?_
    rotate_left
    · intro h
      refine qloop2 (I := fun (v10 : Int32) (M11 : qM) => ∀ (H : Heap) (locs : List Loc), qHS W2N e2 G ad M11 s.heap H locs → ∀ ls : Array Slot, lv_has ls 3 [(0, .ref (ad 0)), (1, .int v10)] → W p l e (headSpec wsX8_beat rm_X8_beat).room s m [.ref (ad 0)].toArray below meth c H locs 0 0 (MQ below (va_Qi P (fun u t => qHp W2N e2 G ad u t.heap) (qA W2N ad s.heap.size)) [.ref (ad 0)].toArray s 0 0 (qA W2N ad s.heap.size)) (F0 m 54 ls [])) ?_ h _ _ hH _ (lv_sub hl [1, 0] rfl)
      intro v10 M11 h H locs hH ls hl
      have h : qOk (kX8_beat_L54 v10 M11) _ := h
      unfold kX8_beat_L54 at h
      refine lv_iload_n hx hb dX8_beat_54 rfl (lv_at hl 1 rfl) ?_
      refine lv_bipush (v := 8) hx hb dX8_beat_55 (by decide) ?_
      refine lv_icmp_ge (tgt := 222) hx hb dX8_beat_57 (by decide) (fun hc => ?_) (fun hc => ?_)
      · have h := qOk.t hc h
        exact qOk.le h _ _ hH _ (lv_sub hl [] rfl)
      · have h := qOk.f hc h
        refine lv_aload_n hx hb dX8_beat_60 rfl (lv_at hl 0 rfl) ?_
        refine y_get hx hb hts i_X8 hown hK hH qOb_8 rfl 1 (by decide) f13 rfl dX8_beat_61 ?_
        refine lv_bipush (v := 16) hx hb dX8_beat_64 (by decide) ?_
        refine lv_iload_n hx hb dX8_beat_66 rfl (lv_at hl 1 rfl) ?_
        refine lv_iadd hx hb dX8_beat_67 ?_
        refine y_iald hx hb hK hH qMr_2 h dX8_beat_68 (fun v13 h => ?_)
        refine lv_istore_n (lv' := [(2, .int v13), (0, .ref (ad 0)), (1, .int v10)]) hx hb dX8_beat_69 rfl hl (by decide) rfl (fun ls hl => ?_)
        refine lv_aload_n hx hb dX8_beat_70 rfl (lv_at hl 1 rfl) ?_
        refine lv_iload_n hx hb dX8_beat_71 rfl (lv_at hl 2 rfl) ?_
        refine y_cs (va_runV (As := [.int v10]) (rest := []) ⟨hx, hb, hml, hown, hts⟩ (c_X8_isThere l G ad hI M11 _ v10 (qOk.b1 h)) (cwV 1 hts gX8_beat_X8_isThere rfl rfl rfl (by decide +kernel) ⟨Nat.le_of_ble_eq_true rfl, Nat.le_of_ble_eq_true rfl⟩) ⟨qPre.blind, qrecv hK hH qOb_8 rfl, qPre.at hK hH⟩ rfl rfl hl.1 rfl (lv_room (Nat.le_of_ble_eq_true rfl)) dX8_beat_72 ⟨Nat.zero_le _, Nat.zero_le _⟩) (fun v14 h => ?_)
        refine qj1 (G := fun (M15 : qM) => ∀ (H : Heap) (locs : List Loc), qHS W2N e2 G ad M15 s.heap H locs → W p l e (headSpec wsX8_beat rm_X8_beat).room s m [.ref (ad 0)].toArray below meth c H locs 0 0 (MQ below (va_Qi P (fun u t => qHp W2N e2 G ad u t.heap) (qA W2N ad s.heap.size)) [.ref (ad 0)].toArray s 0 0 (qA W2N ad s.heap.size)) (F0 m 216 ls [])) h ?_ ?_
        rotate_left
        · intro h
          refine lv_if_eq (tgt := 166) hx hb dX8_beat_75 (by decide) (fun hc => ?_) (fun hc => ?_)
          · have h := qOk.t hc h
            refine lv_aload_n hx hb dX8_beat_166 rfl (lv_at hl 1 rfl) ?_
            refine lv_iload_n hx hb dX8_beat_167 rfl (lv_at hl 2 rfl) ?_
            refine y_cs (va_runV (As := [.int v10]) (rest := []) ⟨hx, hb, hml, hown, hts⟩ (c_X8_isThere l G ad hI M11 _ v10 (qOk.b1 h)) (cwV 1 hts gX8_beat_X8_isThere rfl rfl rfl (by decide +kernel) ⟨Nat.le_of_ble_eq_true rfl, Nat.le_of_ble_eq_true rfl⟩) ⟨qPre.blind, qrecv hK hH qOb_8 rfl, qPre.at hK hH⟩ rfl rfl hl.1 rfl (lv_room (Nat.le_of_ble_eq_true rfl)) dX8_beat_168 ⟨Nat.zero_le _, Nat.zero_le _⟩) (fun v16 h => ?_)
            refine lv_if_eq (tgt := 216) hx hb dX8_beat_171 (by decide) (fun hc => ?_) (fun hc => ?_)
            · have h := qOk.t hc h
              have h := qOk.s h
              exact h _ _ hH
            · have h := qOk.f hc h
              refine lv_aload_n hx hb dX8_beat_174 rfl (lv_at hl 1 rfl) ?_
              refine y_get hx hb hts i_X8 hown hK hH qOb_8 rfl 1 (by decide) f13 rfl dX8_beat_175 ?_
              refine lv_bipush (v := 8) hx hb dX8_beat_178 (by decide) ?_
              refine lv_iload_n hx hb dX8_beat_180 rfl (lv_at hl 2 rfl) ?_
              refine lv_iadd hx hb dX8_beat_181 ?_
              refine lv_topi (fun v17 ev17 => ?_)
              have h := qOk.v h ev17
              refine lv_dup2_11 hx hb dX8_beat_182 rfl rfl ?_
              refine y_iald hx hb hK hH qMr_2 h dX8_beat_183 (fun v18 h => ?_)
              refine lv_iconst (v := 1) hx hb dX8_beat_184 (by decide) ?_
              refine lv_isub hx hb dX8_beat_185 ?_
              refine y_iast hx hb hK hI hH qMr_2 h dX8_beat_186 (fun M19 H locs hH h => ?_)
              refine lv_aload_n hx hb dX8_beat_187 rfl (lv_at hl 1 rfl) ?_
              refine y_get hx hb hts i_X8 hown hK hH qOb_8 rfl 1 (by decide) f13 rfl dX8_beat_188 ?_
              refine lv_iload_n hx hb dX8_beat_191 rfl (lv_at hl 2 rfl) ?_
              refine lv_aload_n hx hb dX8_beat_192 rfl (lv_at hl 1 rfl) ?_
              refine y_get hx hb hts i_X8 hown hK hH qOb_8 rfl 1 (by decide) f13 rfl dX8_beat_193 ?_
              refine lv_bipush (v := 8) hx hb dX8_beat_196 (by decide) ?_
              refine lv_iload_n hx hb dX8_beat_198 rfl (lv_at hl 2 rfl) ?_
              refine lv_iadd hx hb dX8_beat_199 ?_
              refine y_iald hx hb hK hH qMr_2 h dX8_beat_200 (fun v20 h => ?_)
              refine qj1 (G := fun (v21 : Int32) => W p l e (headSpec wsX8_beat rm_X8_beat).room s m [.ref (ad 0)].toArray below meth c H locs 0 0 (MQ below (va_Qi P (fun u t => qHp W2N e2 G ad u t.heap) (qA W2N ad s.heap.size)) [.ref (ad 0)].toArray s 0 0 (qA W2N ad s.heap.size)) (F0 m 215 ls [.int v21, .int v10, .ref (ad 2)])) h ?_ ?_
              rotate_left
              · intro h
                refine lv_if_ne (tgt := 209) hx hb dX8_beat_201 (by decide) (fun hc => ?_) (fun hc => ?_)
                · have h := qOk.f hc h
                  refine lv_aload_n hx hb dX8_beat_209 rfl (lv_at hl 1 rfl) ?_
                  refine y_get hx hb hts i_X8 hown hK hH qOb_8 rfl 1 (by decide) f13 rfl dX8_beat_210 ?_
                  refine lv_iload_n hx hb dX8_beat_213 rfl (lv_at hl 2 rfl) ?_
                  refine y_iald hx hb hK hH qMr_2 h dX8_beat_214 (fun v22 h => ?_)
                  have h := qOk.s h
                  exact h
                · have h := qOk.t hc h
                  refine lv_bipush (v := (-6)) hx hb dX8_beat_204 (by decide) ?_
                  refine lv_goto (tgt := 215) hx hb dX8_beat_206 (by decide) ?_
                  have h := qOk.s h
                  exact h
              intro v21 h
              refine y_iast hx hb hK hI hH qMr_2 h dX8_beat_215 (fun M23 H locs hH h => ?_)
              have h := qOk.s h
              exact h _ _ hH
          · have h := qOk.f hc h
            refine lv_aload_n hx hb dX8_beat_78 rfl (lv_at hl 1 rfl) ?_
            refine y_get hx hb hts i_X8 hown hK hH qOb_8 rfl 1 (by decide) f13 rfl dX8_beat_79 ?_
            refine lv_iload_n hx hb dX8_beat_82 rfl (lv_at hl 2 rfl) ?_
            refine y_iald hx hb hK hH qMr_2 h dX8_beat_83 (fun v24 h => ?_)
            refine lv_if_ge (tgt := 166) hx hb dX8_beat_84 (by decide) (fun hc => ?_) (fun hc => ?_)
            · have h := qOk.t hc h
              refine lv_aload_n hx hb dX8_beat_166 rfl (lv_at hl 1 rfl) ?_
              refine lv_iload_n hx hb dX8_beat_167 rfl (lv_at hl 2 rfl) ?_
              refine y_cs (va_runV (As := [.int v10]) (rest := []) ⟨hx, hb, hml, hown, hts⟩ (c_X8_isThere l G ad hI M11 _ v10 (qOk.b1 h)) (cwV 1 hts gX8_beat_X8_isThere rfl rfl rfl (by decide +kernel) ⟨Nat.le_of_ble_eq_true rfl, Nat.le_of_ble_eq_true rfl⟩) ⟨qPre.blind, qrecv hK hH qOb_8 rfl, qPre.at hK hH⟩ rfl rfl hl.1 rfl (lv_room (Nat.le_of_ble_eq_true rfl)) dX8_beat_168 ⟨Nat.zero_le _, Nat.zero_le _⟩) (fun v25 h => ?_)
              refine lv_if_eq (tgt := 216) hx hb dX8_beat_171 (by decide) (fun hc => ?_) (fun hc => ?_)
              · have h := qOk.t hc h
                have h := qOk.s h
                exact h _ _ hH
              · have h := qOk.f hc h
                refine lv_aload_n hx hb dX8_beat_174 rfl (lv_at hl 1 rfl) ?_
                refine y_get hx hb hts i_X8 hown hK hH qOb_8 rfl 1 (by decide) f13 rfl dX8_beat_175 ?_
                refine lv_bipush (v := 8) hx hb dX8_beat_178 (by decide) ?_
                refine lv_iload_n hx hb dX8_beat_180 rfl (lv_at hl 2 rfl) ?_
                refine lv_iadd hx hb dX8_beat_181 ?_
                refine lv_topi (fun v26 ev26 => ?_)
                have h := qOk.v h ev26
                refine lv_dup2_11 hx hb dX8_beat_182 rfl rfl ?_
                refine y_iald hx hb hK hH qMr_2 h dX8_beat_183 (fun v27 h => ?_)
                refine lv_iconst (v := 1) hx hb dX8_beat_184 (by decide) ?_
                refine lv_isub hx hb dX8_beat_185 ?_
                refine y_iast hx hb hK hI hH qMr_2 h dX8_beat_186 (fun M28 H locs hH h => ?_)
                refine lv_aload_n hx hb dX8_beat_187 rfl (lv_at hl 1 rfl) ?_
                refine y_get hx hb hts i_X8 hown hK hH qOb_8 rfl 1 (by decide) f13 rfl dX8_beat_188 ?_
                refine lv_iload_n hx hb dX8_beat_191 rfl (lv_at hl 2 rfl) ?_
                refine lv_aload_n hx hb dX8_beat_192 rfl (lv_at hl 1 rfl) ?_
                refine y_get hx hb hts i_X8 hown hK hH qOb_8 rfl 1 (by decide) f13 rfl dX8_beat_193 ?_
                refine lv_bipush (v := 8) hx hb dX8_beat_196 (by decide) ?_
                refine lv_iload_n hx hb dX8_beat_198 rfl (lv_at hl 2 rfl) ?_
                refine lv_iadd hx hb dX8_beat_199 ?_
                refine y_iald hx hb hK hH qMr_2 h dX8_beat_200 (fun v29 h => ?_)
                refine qj1 (G := fun (v30 : Int32) => W p l e (headSpec wsX8_beat rm_X8_beat).room s m [.ref (ad 0)].toArray below meth c H locs 0 0 (MQ below (va_Qi P (fun u t => qHp W2N e2 G ad u t.heap) (qA W2N ad s.heap.size)) [.ref (ad 0)].toArray s 0 0 (qA W2N ad s.heap.size)) (F0 m 215 ls [.int v30, .int v10, .ref (ad 2)])) h ?_ ?_
                rotate_left
                · intro h
                  refine lv_if_ne (tgt := 209) hx hb dX8_beat_201 (by decide) (fun hc => ?_) (fun hc => ?_)
                  · have h := qOk.f hc h
                    refine lv_aload_n hx hb dX8_beat_209 rfl (lv_at hl 1 rfl) ?_
                    refine y_get hx hb hts i_X8 hown hK hH qOb_8 rfl 1 (by decide) f13 rfl dX8_beat_210 ?_
                    refine lv_iload_n hx hb dX8_beat_213 rfl (lv_at hl 2 rfl) ?_
                    refine y_iald hx hb hK hH qMr_2 h dX8_beat_214 (fun v31 h => ?_)
                    have h := qOk.s h
                    exact h
                  · have h := qOk.t hc h
                    refine lv_bipush (v := (-6)) hx hb dX8_beat_204 (by decide) ?_
                    refine lv_goto (tgt := 215) hx hb dX8_beat_206 (by decide) ?_
                    have h := qOk.s h
                    exact h
                intro v30 h
                refine y_iast hx hb hK hI hH qMr_2 h dX8_beat_215 (fun M32 H locs hH h => ?_)
                have h := qOk.s h
                exact h _ _ hH
            · have h := qOk.f hc h
              refine lv_aload_n hx hb dX8_beat_87 rfl (lv_at hl 1 rfl) ?_
              refine y_get hx hb hts i_X8 hown hK hH qOb_8 rfl 1 (by decide) f13 rfl dX8_beat_88 ?_
              refine lv_bipush (v := 24) hx hb dX8_beat_91 (by decide) ?_
              refine lv_iload_n hx hb dX8_beat_93 rfl (lv_at hl 0 rfl) ?_
              refine lv_iadd hx hb dX8_beat_94 ?_
              refine lv_topi (fun v33 ev33 => ?_)
              have h := qOk.v h ev33
              refine lv_dup2_11 hx hb dX8_beat_95 rfl rfl ?_
              refine y_iald hx hb hK hH qMr_2 h dX8_beat_96 (fun v34 h => ?_)
              refine lv_aload_n hx hb dX8_beat_97 rfl (lv_at hl 1 rfl) ?_
              refine y_get hx hb hts i_X8 hown hK hH qOb_8 rfl 15 (by decide) f37 rfl dX8_beat_98 ?_
              refine lv_iload_n hx hb dX8_beat_101 rfl (lv_at hl 0 rfl) ?_
              refine y_iald hx hb hK hH qMr_10 h dX8_beat_102 (fun v35 h => ?_)
              refine lv_bipush (v := 8) hx hb dX8_beat_103 (by decide) ?_
              refine qj1 (G := fun (v36 : Int32) => W p l e (headSpec wsX8_beat rm_X8_beat).room s m [.ref (ad 0)].toArray below meth c H locs 0 0 (MQ below (va_Qi P (fun u t => qHp W2N e2 G ad u t.heap) (qA W2N ad s.heap.size)) [.ref (ad 0)].toArray s 0 0 (qA W2N ad s.heap.size)) (F0 m 126 ls [.int v36, .int v34, .int v33, .ref (ad 2)])) h ?_ ?_
              rotate_left
              · intro h
                refine lv_icmp_le (tgt := 112) hx hb dX8_beat_105 (by decide) (fun hc => ?_) (fun hc => ?_)
                · have h := qOk.t hc h
                  refine lv_aload_n hx hb dX8_beat_112 rfl (lv_at hl 1 rfl) ?_
                  refine y_get hx hb hts i_X8 hown hK hH qOb_8 rfl 15 (by decide) f37 rfl dX8_beat_113 ?_
                  refine lv_iload_n hx hb dX8_beat_116 rfl (lv_at hl 0 rfl) ?_
                  refine y_iald hx hb hK hH qMr_10 h dX8_beat_117 (fun v37 h => ?_)
                  refine lv_if_le (tgt := 125) hx hb dX8_beat_118 (by decide) (fun hc => ?_) (fun hc => ?_)
                  · have h := qOk.t hc h
                    refine lv_iconst (v := 0) hx hb dX8_beat_125 (by decide) ?_
                    have h := qOk.s h
                    exact h
                  · have h := qOk.f hc h
                    refine lv_iconst (v := 1) hx hb dX8_beat_121 (by decide) ?_
                    refine lv_goto (tgt := 126) hx hb dX8_beat_122 (by decide) ?_
                    have h := qOk.s h
                    exact h
                · have h := qOk.f hc h
                  refine lv_iconst (v := 2) hx hb dX8_beat_108 (by decide) ?_
                  refine lv_goto (tgt := 126) hx hb dX8_beat_109 (by decide) ?_
                  have h := qOk.s h
                  exact h
              intro v36 h
              refine lv_iadd hx hb dX8_beat_126 ?_
              refine y_iast hx hb hK hI hH qMr_2 h dX8_beat_127 (fun M38 H locs hH h => ?_)
              refine lv_aload_n hx hb dX8_beat_128 rfl (lv_at hl 1 rfl) ?_
              refine y_get hx hb hts i_X8 hown hK hH qOb_8 rfl 1 (by decide) f13 rfl dX8_beat_129 ?_
              refine lv_bipush (v := 8) hx hb dX8_beat_132 (by decide) ?_
              refine lv_iload_n hx hb dX8_beat_134 rfl (lv_at hl 2 rfl) ?_
              refine lv_iadd hx hb dX8_beat_135 ?_
              refine lv_topi (fun v39 ev39 => ?_)
              have h := qOk.v h ev39
              refine lv_dup2_11 hx hb dX8_beat_136 rfl rfl ?_
              refine y_iald hx hb hK hH qMr_2 h dX8_beat_137 (fun v40 h => ?_)
              refine lv_aload_n hx hb dX8_beat_138 rfl (lv_at hl 1 rfl) ?_
              refine y_get hx hb hts i_X8 hown hK hH qOb_8 rfl 1 (by decide) f13 rfl dX8_beat_139 ?_
              refine lv_bipush (v := 8) hx hb dX8_beat_142 (by decide) ?_
              refine lv_iload_n hx hb dX8_beat_144 rfl (lv_at hl 2 rfl) ?_
              refine lv_iadd hx hb dX8_beat_145 ?_
              refine y_iald hx hb hK hH qMr_2 h dX8_beat_146 (fun v41 h => ?_)
              refine lv_aload_n hx hb dX8_beat_147 rfl (lv_at hl 1 rfl) ?_
              refine y_get hx hb hts i_X8 hown hK hH qOb_8 rfl 5 (by decide) f22 rfl dX8_beat_148 ?_
              refine lv_iload_n hx hb dX8_beat_151 rfl (lv_at hl 2 rfl) ?_
              refine y_iald hx hb hK hH qMr_5 h dX8_beat_152 (fun v42 h => ?_)
              refine qj1 (G := fun (v43 : Int32) => W p l e (headSpec wsX8_beat rm_X8_beat).room s m [.ref (ad 0)].toArray below meth c H locs 0 0 (MQ below (va_Qi P (fun u t => qHp W2N e2 G ad u t.heap) (qA W2N ad s.heap.size)) [.ref (ad 0)].toArray s 0 0 (qA W2N ad s.heap.size)) (F0 m 161 ls [.int v43, .int v40, .int v39, .ref (ad 2)])) h ?_ ?_
              rotate_left
              · intro h
                refine lv_icmp_ge (tgt := 160) hx hb dX8_beat_153 (by decide) (fun hc => ?_) (fun hc => ?_)
                · have h := qOk.t hc h
                  refine lv_iconst (v := 0) hx hb dX8_beat_160 (by decide) ?_
                  have h := qOk.s h
                  exact h
                · have h := qOk.f hc h
                  refine lv_iconst (v := 1) hx hb dX8_beat_156 (by decide) ?_
                  refine lv_goto (tgt := 161) hx hb dX8_beat_157 (by decide) ?_
                  have h := qOk.s h
                  exact h
              intro v43 h
              refine lv_iadd hx hb dX8_beat_161 ?_
              refine y_iast hx hb hK hI hH qMr_2 h dX8_beat_162 (fun M44 H locs hH h => ?_)
              refine lv_goto (tgt := 216) hx hb dX8_beat_163 (by decide) ?_
              have h := qOk.s h
              exact h _ _ hH
        intro M15 h H locs hH
        obtain ⟨v45, ev45⟩ : ∃ y : Int32, y = v10 + 1 := ⟨_, rfl⟩
        have h := qOk.v h ev45
        refine lv_iinc (v := v45) (lv' := [(1, .int v45), (2, .int v13), (0, .ref (ad 0))]) hx hb dX8_beat_216 hl (k := 2) rfl (by rw [ev45]; rfl) (by decide) rfl (fun ls hl => ?_)
        refine lv_goto (tgt := 54) hx hb dX8_beat_219 (by decide) ?_
        exact qOk.li h _ _ hH _ (lv_sub hl [2, 0] rfl)
    intro M12 h H locs hH ls hl
    refine lv_iconst (v := 0) hx hb dX8_beat_222 (by decide) ?_
    exact W.iret hx hb hr (fun t ht _ => ⟨⟨_, _, rfl, qOk2.s h, qHpt ht hH.1⟩, hH.2.F ht⟩) hH.2.2.2 dX8_beat_223
  · have h := qOk.t hc h
    refine lv_bipush (v := 7) hx hb dX8_beat_13 (by decide) ?_
    exact W.iret hx hb hr (fun t ht _ => ⟨⟨_, _, rfl, qOk2.s h, qHpt ht hH.1⟩, hH.2.F ht⟩) hH.2.2.2 dX8_beat_15
abbrev rm_X8_goShifts : Room := { frames := 6, cells := 0, slots := 0, locals := 136 }
set_option maxHeartbeats 4000000 in
set_option maxRecDepth 100000 in
theorem c_X8_goShifts (l : Launch) (G : qG) (ad : Nat → Nat) (hI : qI W2N ad) (M : qM) (sz : Nat) {P : Int32 → qM → Prop} (h : qOk2 (kX8_goShifts M) P) : Met l yX8_goShifts wsX8_goShifts rm_X8_goShifts (va_Pc [.ref (ad 0)] (qPre W2N e2 G ad M sz)) (va_Qi P (fun u t => qHp W2N e2 G ad u t.heap) (qA W2N ad sz)) 0 0 (qA W2N ad sz) := by
  refine Met.ofW (cc := cX8_goShifts) (maxL := 6) (ret := (some .int)) (by decide) rfl ?_
  intro p e s m args below meth c s₁ B hml hv
  obtain ⟨rfl, hsz, hK, hP⟩ := hv
  subst hsz
  have hx := B.exec
  have hb := B.bytes
  have hr := B.returns
  have hts := atoms_spec (ws := wsX8_goShifts) B.pre
  have hown : s.vm.findClass RX8 = some m.cls := findClass_of_methodNamed B.named
  have hlocks := B.notSynchronized
  have hH : qHS W2N e2 G ad M s.heap s.heap [] := ⟨hP, va_S.rf⟩
  have f113 : (Cond.fieldLink RX8 113 "SongLampsModel" "acts" "I").before [.ref (ad 0)].toArray s = true := hts _ (by decide +kernel)
  have i_X8 : ∀ w ∈ wsX80, w ∈ wsX8_goShifts := fun w hw => List.mem_cons_of_mem _ ((List.mem_append_right _ hw))
  have f85 : (Cond.fieldLink RX8 85 "SongLampsModel" "signs" "I").before [.ref (ad 0)].toArray s = true := hts _ (by decide +kernel)
  have f34 : (Cond.fieldLink RX8 34 "SongLampsModel" "pad" "[I").before [.ref (ad 0)].toArray s = true := hts _ (by decide +kernel)
  have f119 : (Cond.fieldLink RX8 119 "SongLampsModel" "reason" "I").before [.ref (ad 0)].toArray s = true := hts _ (by decide +kernel)
  have f13 : (Cond.fieldLink RX8 13 "SongLampsModel" "now" "[I").before [.ref (ad 0)].toArray s = true := hts _ (by decide +kernel)
  have f104 : (Cond.fieldLink RX8 104 "SongLampsModel" "darkAt" "I").before [.ref (ad 0)].toArray s = true := hts _ (by decide +kernel)
  have f107 : (Cond.fieldLink RX8 107 "SongLampsModel" "darkWho" "I").before [.ref (ad 0)].toArray s = true := hts _ (by decide +kernel)
  have hl := lv_entry ([.ref (ad 0)]) (n := 6) (Nat.le_of_ble_eq_true rfl)
  rw [lg_entry_eq]
  generalize (lg_sl ([.ref (ad 0)]) ++ List.replicate (6 - (lg_sl ([.ref (ad 0)])).length) Slot.unset).toArray = ls at hl ⊢
  have hl : lv_has ls 6 [(0, .ref (ad 0))] := hl
  have h : qOk (kX8_goShifts M) _ := h
  unfold kX8_goShifts at h
  refine lv_aload_n hx hb dX8_goShifts_0 rfl (lv_at hl 0 rfl) ?_
  refine y_cv hH (va_runV (As := []) (rest := []) ⟨hx, hb, hml, hown, hts⟩ (c_X8_asNow l G ad hI M _  (qOk.b1 h)) (cwV 0 hts gX8_goShifts_X8_asNow rfl rfl rfl (by decide +kernel) ⟨Nat.le_of_ble_eq_true rfl, Nat.le_of_ble_eq_true rfl⟩) ⟨qPre.blind, qrecv hK hH qOb_8 rfl, qPre.at hK hH⟩ rfl rfl hl.1 rfl (lv_room (Nat.le_of_ble_eq_true rfl)) dX8_goShifts_1 ⟨Nat.zero_le _, Nat.zero_le _⟩) (fun M1 H locs hH h => ?_)
  refine lv_aload_n hx hb dX8_goShifts_4 rfl (lv_at hl 0 rfl) ?_
  refine lv_iconst (v := 0) hx hb dX8_goShifts_5 (by decide) ?_
  refine y_put hx hb hts i_X8 tyX8 tyX8_ok nmX8 hown hK hI hH qOb_8 rfl 17 (by decide) f113 rfl (by decide +kernel) (Nat.le_of_ble_eq_true rfl) (fun _ => rfl) h dX8_goShifts_6 (fun M2 H locs hH h => ?_)
  refine lv_iconst (v := 0) hx hb dX8_goShifts_9 (by decide) ?_
  refine lv_istore_n (lv' := [(1, .int 0), (0, .ref (ad 0))]) hx hb dX8_goShifts_10 rfl hl (by decide) rfl (fun ls hl => ?_)
  refine lv_aload_n hx hb dX8_goShifts_11 rfl (lv_at hl 1 rfl) ?_
  refine y_cs (va_runV (As := []) (rest := []) ⟨hx, hb, hml, hown, hts⟩ (c_X8_lamps l G ad hI M2 _  (qOk.b1 h)) (cwV 0 hts gX8_goShifts_X8_lamps rfl rfl rfl (by decide +kernel) ⟨Nat.le_of_ble_eq_true rfl, Nat.le_of_ble_eq_true rfl⟩) ⟨qPre.blind, qrecv hK hH qOb_8 rfl, qPre.at hK hH⟩ rfl rfl hl.1 rfl (lv_room (Nat.le_of_ble_eq_true rfl)) dX8_goShifts_12 ⟨Nat.zero_le _, Nat.zero_le _⟩) (fun v3 h => ?_)
  refine lv_istore_n (lv' := [(2, .int v3), (1, .int 0), (0, .ref (ad 0))]) hx hb dX8_goShifts_15 rfl hl (by decide) rfl (fun ls hl => ?_)
  refine qjx1 (G := fun (M7 : qM) => ∀ (H : Heap) (locs : List Loc), qHS W2N e2 G ad M7 s.heap H locs → ∀ ls : Array Slot, lv_has ls 6 [] → W p l e (headSpec wsX8_goShifts rm_X8_goShifts).room s m [.ref (ad 0)].toArray below meth c H locs 0 0 (MQ below (va_Qi P (fun u t => qHp W2N e2 G ad u t.heap) (qA W2N ad s.heap.size)) [.ref (ad 0)].toArray s 0 0 (qA W2N ad s.heap.size)) (F0 m 265 ls [])) h ?_ ?_
  rotate_left
  · intro h
    refine qloop3 (I := fun (v4 : Int32) (v5 : Int32) (M6 : qM) => ∀ (H : Heap) (locs : List Loc), qHS W2N e2 G ad M6 s.heap H locs → ∀ ls : Array Slot, lv_has ls 6 [(0, .ref (ad 0)), (1, .int v4), (2, .int v5)] → W p l e (headSpec wsX8_goShifts rm_X8_goShifts).room s m [.ref (ad 0)].toArray below meth c H locs 0 0 (MQ below (va_Qi P (fun u t => qHp W2N e2 G ad u t.heap) (qA W2N ad s.heap.size)) [.ref (ad 0)].toArray s 0 0 (qA W2N ad s.heap.size)) (F0 m 16 ls [])) ?_ h _ _ hH _ (lv_sub hl [2, 1, 0] rfl)
    intro v4 v5 M6 h H locs hH ls hl
    have h : qOk (kX8_goShifts_L16 v4 v5 M6) _ := h
    unfold kX8_goShifts_L16 at h
    refine lv_iload_n hx hb dX8_goShifts_16 rfl (lv_at hl 1 rfl) ?_
    refine lv_aload_n hx hb dX8_goShifts_17 rfl (lv_at hl 0 rfl) ?_
    refine y_get hx hb hts i_X8 hown hK hH qOb_8 rfl 11 (by decide) f85 rfl dX8_goShifts_18 ?_
    refine lv_icmp_ge (tgt := 265) hx hb dX8_goShifts_21 (by decide) (fun hc => ?_) (fun hc => ?_)
    · have h := qOk.t hc h
      exact qOk.lx h _ _ hH _ (lv_sub hl [] rfl)
    · have h := qOk.f hc h
      refine lv_aload_n hx hb dX8_goShifts_24 rfl (lv_at hl 0 rfl) ?_
      refine y_get hx hb hts i_X8 hown hK hH qOb_8 rfl 12 (by decide) f34 rfl dX8_goShifts_25 ?_
      refine lv_iload_n hx hb dX8_goShifts_28 rfl (lv_at hl 1 rfl) ?_
      refine y_iald hx hb hK hH qMr_9 h dX8_goShifts_29 (fun v8 h => ?_)
      refine lv_istore_n (lv' := [(3, .int v8), (0, .ref (ad 0)), (1, .int v4), (2, .int v5)]) hx hb dX8_goShifts_30 rfl hl (by decide) rfl (fun ls hl => ?_)
      refine lv_aload_n hx hb dX8_goShifts_31 rfl (lv_at hl 1 rfl) ?_
      refine lv_iconst (v := 0) hx hb dX8_goShifts_32 (by decide) ?_
      refine y_put hx hb hts i_X8 tyX8 tyX8_ok nmX8 hown hK hI hH qOb_8 rfl 16 (by decide) f119 rfl (by decide +kernel) (Nat.le_of_ble_eq_true rfl) (fun _ => rfl) h dX8_goShifts_33 (fun M9 H locs hH h => ?_)
      refine lv_iload_n hx hb dX8_goShifts_36 rfl (lv_at hl 0 rfl) ?_
      refine lv_bipush (v := 46) hx hb dX8_goShifts_37 (by decide) ?_
      refine qj2 (G := fun (v10 : Int32) (M11 : qM) => ∀ (H : Heap) (locs : List Loc), qHS W2N e2 G ad M11 s.heap H locs → ∀ ls : Array Slot, lv_has ls 6 [(0, .ref (ad 0)), (1, .int v10), (2, .int v5)] → W p l e (headSpec wsX8_goShifts rm_X8_goShifts).room s m [.ref (ad 0)].toArray below meth c H locs 0 0 (MQ below (va_Qi P (fun u t => qHp W2N e2 G ad u t.heap) (qA W2N ad s.heap.size)) [.ref (ad 0)].toArray s 0 0 (qA W2N ad s.heap.size)) (F0 m 180 ls [])) h ?_ ?_
      rotate_left
      · intro h
        refine lv_icmp_ne (tgt := 56) hx hb dX8_goShifts_39 (by decide) (fun hc => ?_) (fun hc => ?_)
        · have h := qOk.f hc h
          refine lv_iload_n hx hb dX8_goShifts_56 rfl (lv_at hl 0 rfl) ?_
          refine lv_bipush (v := 42) hx hb dX8_goShifts_57 (by decide) ?_
          refine lv_icmp_ne (tgt := 91) hx hb dX8_goShifts_59 (by decide) (fun hc => ?_) (fun hc => ?_)
          · have h := qOk.f hc h
            refine lv_aload_n hx hb dX8_goShifts_91 rfl (lv_at hl 1 rfl) ?_
            refine y_get hx hb hts i_X8 hown hK hH qOb_8 rfl 12 (by decide) f34 rfl dX8_goShifts_92 ?_
            refine lv_iload_n hx hb dX8_goShifts_95 rfl (lv_at hl 2 rfl) ?_
            refine lv_iconst (v := 1) hx hb dX8_goShifts_96 (by decide) ?_
            refine lv_iadd hx hb dX8_goShifts_97 ?_
            refine y_iald hx hb hK hH qMr_9 h dX8_goShifts_98 (fun v12 h => ?_)
            refine lv_istore (lv' := [(4, .int v12), (3, .int v8), (0, .ref (ad 0)), (1, .int v4), (2, .int v5)]) hx hb dX8_goShifts_99 hl (by decide) rfl (fun ls hl => ?_)
            refine lv_aload_n hx hb dX8_goShifts_101 rfl (lv_at hl 2 rfl) ?_
            refine lv_iload hx hb dX8_goShifts_102 (lv_at hl 0 rfl) ?_
            refine lv_bipush (v := 45) hx hb dX8_goShifts_104 (by decide) ?_
            refine qj2 (G := fun (v13 : Int32) (M14 : qM) => ∀ (H : Heap) (locs : List Loc), qHS W2N e2 G ad M14 s.heap H locs → W p l e (headSpec wsX8_goShifts rm_X8_goShifts).room s m [.ref (ad 0)].toArray below meth c H locs 0 0 (MQ below (va_Qi P (fun u t => qHp W2N e2 G ad u t.heap) (qA W2N ad s.heap.size)) [.ref (ad 0)].toArray s 0 0 (qA W2N ad s.heap.size)) (F0 m 162 ls [.int v13, .ref (ad 0)])) h ?_ ?_
            rotate_left
            · intro h
              refine lv_icmp_ne (tgt := 120) hx hb dX8_goShifts_106 (by decide) (fun hc => ?_) (fun hc => ?_)
              · have h := qOk.f hc h
                refine lv_iload hx hb dX8_goShifts_120 (lv_at hl 0 rfl) ?_
                refine lv_bipush (v := 62) hx hb dX8_goShifts_122 (by decide) ?_
                refine lv_icmp_ne (tgt := 149) hx hb dX8_goShifts_124 (by decide) (fun hc => ?_) (fun hc => ?_)
                · have h := qOk.f hc h
                  refine lv_aload_n hx hb dX8_goShifts_149 rfl (lv_at hl 2 rfl) ?_
                  refine lv_iload_n hx hb dX8_goShifts_150 rfl (lv_at hl 1 rfl) ?_
                  refine lv_bipush (v := 65) hx hb dX8_goShifts_151 (by decide) ?_
                  refine lv_isub hx hb dX8_goShifts_153 ?_
                  refine lv_iload hx hb dX8_goShifts_154 (lv_at hl 0 rfl) ?_
                  refine lv_bipush (v := 97) hx hb dX8_goShifts_156 (by decide) ?_
                  refine lv_isub hx hb dX8_goShifts_158 ?_
                  refine y_ci hH (va_runV (As := [.int (v8 - 65), .int (v12 - 97)]) (rest := [.ref (ad 0)]) ⟨hx, hb, hml, hown, hts⟩ (c_X8_sing l G ad hI M9 _ (v8 - 65) (v12 - 97) (qOk.b2 h)) (cwV 2 hts gX8_goShifts_X8_sing rfl rfl rfl (by decide +kernel) ⟨Nat.le_of_ble_eq_true rfl, Nat.le_of_ble_eq_true rfl⟩) ⟨qPre.blind, qrecv hK hH qOb_8 rfl, qPre.at hK hH⟩ rfl rfl hl.1 rfl (lv_room (Nat.le_of_ble_eq_true rfl)) dX8_goShifts_159 ⟨Nat.zero_le _, Nat.zero_le _⟩) (fun v16 M15 H locs hH h => ?_)
                  have h := qOk.s h
                  exact h _ _ hH
                · have h := qOk.t hc h
                  refine lv_aload_n hx hb dX8_goShifts_127 rfl (lv_at hl 2 rfl) ?_
                  refine lv_iload_n hx hb dX8_goShifts_128 rfl (lv_at hl 1 rfl) ?_
                  refine lv_bipush (v := 65) hx hb dX8_goShifts_129 (by decide) ?_
                  refine lv_isub hx hb dX8_goShifts_131 ?_
                  refine lv_aload_n hx hb dX8_goShifts_132 rfl (lv_at hl 2 rfl) ?_
                  refine y_get hx hb hts i_X8 hown hK hH qOb_8 rfl 12 (by decide) f34 rfl dX8_goShifts_133 ?_
                  refine lv_iload_n hx hb dX8_goShifts_136 rfl (lv_at hl 3 rfl) ?_
                  refine lv_iconst (v := 2) hx hb dX8_goShifts_137 (by decide) ?_
                  refine lv_iadd hx hb dX8_goShifts_138 ?_
                  refine y_iald hx hb hK hH qMr_9 h dX8_goShifts_139 (fun v17 h => ?_)
                  refine lv_bipush (v := 48) hx hb dX8_goShifts_140 (by decide) ?_
                  refine lv_isub hx hb dX8_goShifts_142 ?_
                  refine y_ci hH (va_runV (As := [.int (v8 - 65), .int (v17 - 48)]) (rest := [.ref (ad 0)]) ⟨hx, hb, hml, hown, hts⟩ (c_X8_go l G ad hI M9 _ (v8 - 65) (v17 - 48) (qOk.b2 h)) (cwV 2 hts gX8_goShifts_X8_go rfl rfl rfl (by decide +kernel) ⟨Nat.le_of_ble_eq_true rfl, Nat.le_of_ble_eq_true rfl⟩) ⟨qPre.blind, qrecv hK hH qOb_8 rfl, qPre.at hK hH⟩ rfl rfl hl.1 rfl (lv_room (Nat.le_of_ble_eq_true rfl)) dX8_goShifts_143 ⟨Nat.zero_le _, Nat.zero_le _⟩) (fun v19 M18 H locs hH h => ?_)
                  refine lv_goto (tgt := 162) hx hb dX8_goShifts_146 (by decide) ?_
                  have h := qOk.s h
                  exact h _ _ hH
              · have h := qOk.t hc h
                refine lv_aload_n hx hb dX8_goShifts_109 rfl (lv_at hl 2 rfl) ?_
                refine lv_iload_n hx hb dX8_goShifts_110 rfl (lv_at hl 1 rfl) ?_
                refine lv_bipush (v := 65) hx hb dX8_goShifts_111 (by decide) ?_
                refine lv_isub hx hb dX8_goShifts_113 ?_
                refine y_ci hH (va_runV (As := [.int (v8 - 65)]) (rest := [.ref (ad 0)]) ⟨hx, hb, hml, hown, hts⟩ (c_X8_hush l G ad hI M9 _ (v8 - 65) (qOk.b2 h)) (cwV 1 hts gX8_goShifts_X8_hush rfl rfl rfl (by decide +kernel) ⟨Nat.le_of_ble_eq_true rfl, Nat.le_of_ble_eq_true rfl⟩) ⟨qPre.blind, qrecv hK hH qOb_8 rfl, qPre.at hK hH⟩ rfl rfl hl.1 rfl (lv_room (Nat.le_of_ble_eq_true rfl)) dX8_goShifts_114 ⟨Nat.zero_le _, Nat.zero_le _⟩) (fun v21 M20 H locs hH h => ?_)
                refine lv_goto (tgt := 162) hx hb dX8_goShifts_117 (by decide) ?_
                have h := qOk.s h
                exact h _ _ hH
            intro v13 M14 h H locs hH
            refine y_put hx hb hts i_X8 tyX8 tyX8_ok nmX8 hown hK hI hH qOb_8 rfl 16 (by decide) f119 rfl (by decide +kernel) (Nat.le_of_ble_eq_true rfl) (fun _ => rfl) h dX8_goShifts_162 (fun M22 H locs hH h => ?_)
            refine lv_iload_n hx hb dX8_goShifts_165 rfl (lv_at hl 3 rfl) ?_
            refine lv_iload hx hb dX8_goShifts_166 (lv_at hl 0 rfl) ?_
            refine lv_bipush (v := 62) hx hb dX8_goShifts_168 (by decide) ?_
            refine qj1 (G := fun (v23 : Int32) => W p l e (headSpec wsX8_goShifts rm_X8_goShifts).room s m [.ref (ad 0)].toArray below meth c H locs 0 0 (MQ below (va_Qi P (fun u t => qHp W2N e2 G ad u t.heap) (qA W2N ad s.heap.size)) [.ref (ad 0)].toArray s 0 0 (qA W2N ad s.heap.size)) (F0 m 178 ls [.int v23, .int v4])) h ?_ ?_
            rotate_left
            · intro h
              refine lv_icmp_ne (tgt := 177) hx hb dX8_goShifts_170 (by decide) (fun hc => ?_) (fun hc => ?_)
              · have h := qOk.f hc h
                refine lv_iconst (v := 2) hx hb dX8_goShifts_177 (by decide) ?_
                have h := qOk.s h
                exact h
              · have h := qOk.t hc h
                refine lv_iconst (v := 3) hx hb dX8_goShifts_173 (by decide) ?_
                refine lv_goto (tgt := 178) hx hb dX8_goShifts_174 (by decide) ?_
                have h := qOk.s h
                exact h
            intro v23 h
            refine lv_iadd hx hb dX8_goShifts_178 ?_
            refine lv_topi (fun v24 ev24 => ?_)
            have h := qOk.v h ev24
            refine lv_istore_n (lv' := [(1, .int v24), (4, .int v12), (3, .int v8), (0, .ref (ad 0)), (2, .int v5)]) hx hb dX8_goShifts_179 rfl hl (by decide) rfl (fun ls hl => ?_)
            have h := qOk.s h
            exact h _ _ hH _ (lv_sub hl [3, 0, 4] rfl)
          · have h := qOk.t hc h
            refine lv_aload_n hx hb dX8_goShifts_62 rfl (lv_at hl 1 rfl) ?_
            refine y_get hx hb hts i_X8 hown hK hH qOb_8 rfl 1 (by decide) f13 rfl dX8_goShifts_63 ?_
            refine lv_bipush (v := 34) hx hb dX8_goShifts_66 (by decide) ?_
            refine lv_dup2_11 hx hb dX8_goShifts_68 rfl rfl ?_
            refine y_iald hx hb hK hH qMr_2 h dX8_goShifts_69 (fun v25 h => ?_)
            refine lv_iconst (v := 1) hx hb dX8_goShifts_70 (by decide) ?_
            refine lv_aload_n hx hb dX8_goShifts_71 rfl (lv_at hl 1 rfl) ?_
            refine y_get hx hb hts i_X8 hown hK hH qOb_8 rfl 12 (by decide) f34 rfl dX8_goShifts_72 ?_
            refine lv_iload_n hx hb dX8_goShifts_75 rfl (lv_at hl 2 rfl) ?_
            refine lv_iconst (v := 1) hx hb dX8_goShifts_76 (by decide) ?_
            refine lv_iadd hx hb dX8_goShifts_77 ?_
            refine y_iald hx hb hK hH qMr_9 h dX8_goShifts_78 (fun v26 h => ?_)
            refine lv_bipush (v := 48) hx hb dX8_goShifts_79 (by decide) ?_
            refine lv_isub hx hb dX8_goShifts_81 ?_
            refine lv_ishl hx hb dX8_goShifts_82 ?_
            refine lv_ixor hx hb dX8_goShifts_83 ?_
            refine y_iast hx hb hK hI hH qMr_2 h dX8_goShifts_84 (fun M27 H locs hH h => ?_)
            obtain ⟨v28, ev28⟩ : ∃ y : Int32, y = v4 + 2 := ⟨_, rfl⟩
            have h := qOk.v h ev28
            refine lv_iinc (v := v28) (lv' := [(1, .int v28), (3, .int v8), (0, .ref (ad 0)), (2, .int v5)]) hx hb dX8_goShifts_85 hl (k := 2) rfl (by rw [ev28]; rfl) (by decide) rfl (fun ls hl => ?_)
            refine lv_goto (tgt := 180) hx hb dX8_goShifts_88 (by decide) ?_
            have h := qOk.s h
            exact h _ _ hH _ (lv_sub hl [2, 0, 3] rfl)
        · have h := qOk.t hc h
          refine lv_aload_n hx hb dX8_goShifts_42 rfl (lv_at hl 1 rfl) ?_
          refine lv_aload_n hx hb dX8_goShifts_43 rfl (lv_at hl 1 rfl) ?_
          refine y_ci hH (va_runV (As := []) (rest := [.ref (ad 0)]) ⟨hx, hb, hml, hown, hts⟩ (c_X8_beat l G ad hI M9 _  (qOk.b2 h)) (cwV 0 hts gX8_goShifts_X8_beat rfl rfl rfl (by decide +kernel) ⟨Nat.le_of_ble_eq_true rfl, Nat.le_of_ble_eq_true rfl⟩) ⟨qPre.blind, qrecv hK hH qOb_8 rfl, qPre.at hK hH⟩ rfl rfl hl.1 rfl (lv_room (Nat.le_of_ble_eq_true rfl)) dX8_goShifts_44 ⟨Nat.zero_le _, Nat.zero_le _⟩) (fun v30 M29 H locs hH h => ?_)
          refine y_put hx hb hts i_X8 tyX8 tyX8_ok nmX8 hown hK hI hH qOb_8 rfl 16 (by decide) f119 rfl (by decide +kernel) (Nat.le_of_ble_eq_true rfl) (fun _ => rfl) h dX8_goShifts_47 (fun M31 H locs hH h => ?_)
          obtain ⟨v32, ev32⟩ : ∃ y : Int32, y = v4 + 1 := ⟨_, rfl⟩
          have h := qOk.v h ev32
          refine lv_iinc (v := v32) (lv' := [(1, .int v32), (3, .int v8), (0, .ref (ad 0)), (2, .int v5)]) hx hb dX8_goShifts_50 hl (k := 2) rfl (by rw [ev32]; rfl) (by decide) rfl (fun ls hl => ?_)
          refine lv_goto (tgt := 180) hx hb dX8_goShifts_53 (by decide) ?_
          have h := qOk.s h
          exact h _ _ hH _ (lv_sub hl [2, 0, 3] rfl)
      intro v10 M11 h H locs hH ls hl
      refine lv_aload_n hx hb dX8_goShifts_180 rfl (lv_at hl 0 rfl) ?_
      refine y_get hx hb hts i_X8 hown hK hH qOb_8 rfl 16 (by decide) f119 rfl dX8_goShifts_181 ?_
      refine lv_if_le (tgt := 192) hx hb dX8_goShifts_184 (by decide) (fun hc => ?_) (fun hc => ?_)
      · have h := qOk.t hc h
        refine lv_aload_n hx hb dX8_goShifts_192 rfl (lv_at hl 0 rfl) ?_
        refine y_cs (va_runV (As := []) (rest := []) ⟨hx, hb, hml, hown, hts⟩ (c_X8_lamps l G ad hI M11 _  (qOk.b1 h)) (cwV 0 hts gX8_goShifts_X8_lamps rfl rfl rfl (by decide +kernel) ⟨Nat.le_of_ble_eq_true rfl, Nat.le_of_ble_eq_true rfl⟩) ⟨qPre.blind, qrecv hK hH qOb_8 rfl, qPre.at hK hH⟩ rfl rfl hl.1 rfl (lv_room (Nat.le_of_ble_eq_true rfl)) dX8_goShifts_193 ⟨Nat.zero_le _, Nat.zero_le _⟩) (fun v33 h => ?_)
        refine lv_istore (lv' := [(4, .int v33), (0, .ref (ad 0)), (1, .int v10), (2, .int v5)]) hx hb dX8_goShifts_196 hl (by decide) rfl (fun ls hl => ?_)
        refine lv_iconst (v := 0) hx hb dX8_goShifts_198 (by decide) ?_
        refine lv_istore (lv' := [(5, .int 0), (4, .int v33), (0, .ref (ad 0)), (1, .int v10), (2, .int v5)]) hx hb dX8_goShifts_199 hl (by decide) rfl (fun ls hl => ?_)
        refine qj1 (G := fun (M36 : qM) => ∀ (H : Heap) (locs : List Loc), qHS W2N e2 G ad M36 s.heap H locs → ∀ ls : Array Slot, lv_has ls 6 [(0, .ref (ad 0)), (1, .int v10), (4, .int v33)] → W p l e (headSpec wsX8_goShifts rm_X8_goShifts).room s m [.ref (ad 0)].toArray below meth c H locs 0 0 (MQ below (va_Qi P (fun u t => qHp W2N e2 G ad u t.heap) (qA W2N ad s.heap.size)) [.ref (ad 0)].toArray s 0 0 (qA W2N ad s.heap.size)) (F0 m 249 ls [])) h ?_ ?_
        rotate_left
        · intro h
          refine qloop2 (I := fun (v34 : Int32) (M35 : qM) => ∀ (H : Heap) (locs : List Loc), qHS W2N e2 G ad M35 s.heap H locs → ∀ ls : Array Slot, lv_has ls 6 [(0, .ref (ad 0)), (1, .int v10), (2, .int v5), (4, .int v33), (5, .int v34)] → W p l e (headSpec wsX8_goShifts rm_X8_goShifts).room s m [.ref (ad 0)].toArray below meth c H locs 0 0 (MQ below (va_Qi P (fun u t => qHp W2N e2 G ad u t.heap) (qA W2N ad s.heap.size)) [.ref (ad 0)].toArray s 0 0 (qA W2N ad s.heap.size)) (F0 m 201 ls [])) ?_ h _ _ hH _ (lv_sub hl [2, 3, 4, 1, 0] rfl)
          intro v34 M35 h H locs hH ls hl
          have h : qOk (kX8_goShifts_L201 v5 v33 v34 M35) _ := h
          unfold kX8_goShifts_L201 at h
          refine lv_iload hx hb dX8_goShifts_201 (lv_at hl 4 rfl) ?_
          refine lv_bipush (v := 10) hx hb dX8_goShifts_203 (by decide) ?_
          refine lv_icmp_ge (tgt := 249) hx hb dX8_goShifts_205 (by decide) (fun hc => ?_) (fun hc => ?_)
          · have h := qOk.t hc h
            exact qOk.le h _ _ hH _ (lv_sub hl [0, 1, 3] rfl)
          · have h := qOk.f hc h
            refine lv_aload_n hx hb dX8_goShifts_208 rfl (lv_at hl 0 rfl) ?_
            refine y_get hx hb hts i_X8 hown hK hH qOb_8 rfl 13 (by decide) f104 rfl dX8_goShifts_209 ?_
            refine lv_if_ge (tgt := 249) hx hb dX8_goShifts_212 (by decide) (fun hc => ?_) (fun hc => ?_)
            · have h := qOk.t hc h
              exact qOk.le h _ _ hH _ (lv_sub hl [0, 1, 3] rfl)
            · have h := qOk.f hc h
              refine lv_iload_n hx hb dX8_goShifts_215 rfl (lv_at hl 2 rfl) ?_
              refine lv_iload hx hb dX8_goShifts_216 (lv_at hl 3 rfl) ?_
              refine lv_iconst (v := (-1)) hx hb dX8_goShifts_218 (by decide) ?_
              refine lv_ixor hx hb dX8_goShifts_219 ?_
              refine lv_iand hx hb dX8_goShifts_220 ?_
              refine lv_iload hx hb dX8_goShifts_221 (lv_at hl 4 rfl) ?_
              refine y_cs (va_runS (As := [.int (v5 &&& (v33 ^^^ (-1))), .int v34]) (rest := []) ⟨hx, hb, hml, hown, hts⟩ (c_X8_has l (v5 &&& (v33 ^^^ (-1))) v34 (qOk.b1 h)) (va_cwS 2 hts gX8_goShifts_X8_has rfl rfl rfl (by decide +kernel) ⟨Nat.le_of_ble_eq_true rfl, Nat.le_of_ble_eq_true rfl⟩) ⟨qPrT.blind, qPrT.at⟩ rfl rfl hl.1 rfl (lv_room (Nat.le_of_ble_eq_true rfl)) dX8_goShifts_223 ⟨Nat.zero_le _, Nat.zero_le _⟩) (fun v37 h => ?_)
              refine qj1 (G := fun (M38 : qM) => ∀ (H : Heap) (locs : List Loc), qHS W2N e2 G ad M38 s.heap H locs → W p l e (headSpec wsX8_goShifts rm_X8_goShifts).room s m [.ref (ad 0)].toArray below meth c H locs 0 0 (MQ below (va_Qi P (fun u t => qHp W2N e2 G ad u t.heap) (qA W2N ad s.heap.size)) [.ref (ad 0)].toArray s 0 0 (qA W2N ad s.heap.size)) (F0 m 243 ls [])) h ?_ ?_
              rotate_left
              · intro h
                refine lv_if_eq (tgt := 243) hx hb dX8_goShifts_226 (by decide) (fun hc => ?_) (fun hc => ?_)
                · have h := qOk.t hc h
                  have h := qOk.s h
                  exact h _ _ hH
                · have h := qOk.f hc h
                  refine lv_aload_n hx hb dX8_goShifts_229 rfl (lv_at hl 0 rfl) ?_
                  refine lv_aload_n hx hb dX8_goShifts_230 rfl (lv_at hl 0 rfl) ?_
                  refine y_get hx hb hts i_X8 hown hK hH qOb_8 rfl 17 (by decide) f113 rfl dX8_goShifts_231 ?_
                  refine y_put hx hb hts i_X8 tyX8 tyX8_ok nmX8 hown hK hI hH qOb_8 rfl 13 (by decide) f104 rfl (by decide +kernel) (Nat.le_of_ble_eq_true rfl) (fun _ => rfl) h dX8_goShifts_234 (fun M39 H locs hH h => ?_)
                  refine lv_aload_n hx hb dX8_goShifts_237 rfl (lv_at hl 0 rfl) ?_
                  refine lv_iload hx hb dX8_goShifts_238 (lv_at hl 4 rfl) ?_
                  refine y_put hx hb hts i_X8 tyX8 tyX8_ok nmX8 hown hK hI hH qOb_8 rfl 14 (by decide) f107 rfl (by decide +kernel) (Nat.le_of_ble_eq_true rfl) (fun _ => rfl) h dX8_goShifts_240 (fun M40 H locs hH h => ?_)
                  have h := qOk.s h
                  exact h _ _ hH
              intro M38 h H locs hH
              obtain ⟨v41, ev41⟩ : ∃ y : Int32, y = v34 + 1 := ⟨_, rfl⟩
              have h := qOk.v h ev41
              refine lv_iinc (v := v41) (lv' := [(5, .int v41), (0, .ref (ad 0)), (1, .int v10), (2, .int v5), (4, .int v33)]) hx hb dX8_goShifts_243 hl (k := 4) rfl (by rw [ev41]; rfl) (by decide) rfl (fun ls hl => ?_)
              refine lv_goto (tgt := 201) hx hb dX8_goShifts_246 (by decide) ?_
              exact qOk.li h _ _ hH _ (lv_sub hl [1, 2, 3, 4, 0] rfl)
        intro M36 h H locs hH ls hl
        refine lv_iload hx hb dX8_goShifts_249 (lv_at hl 2 rfl) ?_
        refine lv_istore_n (lv' := [(2, .int v33), (0, .ref (ad 0)), (1, .int v10), (4, .int v33)]) hx hb dX8_goShifts_251 rfl hl (by decide) rfl (fun ls hl => ?_)
        refine lv_aload_n hx hb dX8_goShifts_252 rfl (lv_at hl 1 rfl) ?_
        refine lv_dup hx hb dX8_goShifts_253 rfl ?_
        refine y_get hx hb hts i_X8 hown hK hH qOb_8 rfl 17 (by decide) f113 rfl dX8_goShifts_254 ?_
        refine lv_iconst (v := 1) hx hb dX8_goShifts_257 (by decide) ?_
        refine lv_iadd hx hb dX8_goShifts_258 ?_
        refine y_put hx hb hts i_X8 tyX8 tyX8_ok nmX8 hown hK hI hH qOb_8 rfl 17 (by decide) f113 rfl (by decide +kernel) (Nat.le_of_ble_eq_true rfl) (fun _ => rfl) h dX8_goShifts_259 (fun M42 H locs hH h => ?_)
        refine lv_goto (tgt := 16) hx hb dX8_goShifts_262 (by decide) ?_
        exact qOk.li h _ _ hH _ (lv_sub hl [1, 2, 0] rfl)
      · have h := qOk.f hc h
        refine lv_aload_n hx hb dX8_goShifts_187 rfl (lv_at hl 0 rfl) ?_
        refine y_get hx hb hts i_X8 hown hK hH qOb_8 rfl 17 (by decide) f113 rfl dX8_goShifts_188 ?_
        have h := qOk.lr h
        exact W.iret hx hb hr (fun t ht _ => ⟨⟨_, _, rfl, qOk2.s h, qHpt ht hH.1⟩, hH.2.F ht⟩) hH.2.2.2 dX8_goShifts_191
  intro M7 h H locs hH ls hl
  refine lv_bipush (v := (-6)) hx hb dX8_goShifts_265 (by decide) ?_
  exact W.iret hx hb hr (fun t ht _ => ⟨⟨_, _, rfl, qOk2.s h, qHpt ht hH.1⟩, hH.2.F ht⟩) hH.2.2.2 dX8_goShifts_267
abbrev rm_X8_judge : Room := { frames := 7, cells := 0, slots := 0, locals := 161 }
set_option maxHeartbeats 4000000 in
set_option maxRecDepth 100000 in
theorem c_X8_judge (l : Launch) (G : qG) (ad : Nat → Nat) (hI : qI W2N ad) (M : qM) (sz : Nat) (x1 : Int32) {P : Int32 → qM → Prop} (h : qOk2 (kX8_judge M x1) P) : Met l yX8_judge wsX8_judge rm_X8_judge (va_Pc [.ref (ad 0), .int x1] (qPre W2N e2 G ad M sz)) (va_Qi P (fun u t => qHp W2N e2 G ad u t.heap) (qA W2N ad sz)) 0 0 (qA W2N ad sz) := by
  refine Met.ofW (cc := cX8_judge) (maxL := 3) (ret := (some .int)) (by decide) rfl ?_
  intro p e s m args below meth c s₁ B hml hv
  obtain ⟨rfl, hsz, hK, hP⟩ := hv
  subst hsz
  have hx := B.exec
  have hb := B.bytes
  have hr := B.returns
  have hts := atoms_spec (ws := wsX8_judge) B.pre
  have hown : s.vm.findClass RX8 = some m.cls := findClass_of_methodNamed B.named
  have hlocks := B.notSynchronized
  have hH : qHS W2N e2 G ad M s.heap s.heap [] := ⟨hP, va_S.rf⟩
  have f119 : (Cond.fieldLink RX8 119 "SongLampsModel" "reason" "I").before [.ref (ad 0), .int x1].toArray s = true := hts _ (by decide +kernel)
  have i_X8 : ∀ w ∈ wsX80, w ∈ wsX8_judge := fun w hw => List.mem_cons_of_mem _ ((List.mem_append_right _ hw))
  have hl := lv_entry ([.ref (ad 0), .int x1]) (n := 3) (Nat.le_of_ble_eq_true rfl)
  rw [lg_entry_eq]
  generalize (lg_sl ([.ref (ad 0), .int x1]) ++ List.replicate (3 - (lg_sl ([.ref (ad 0), .int x1])).length) Slot.unset).toArray = ls at hl ⊢
  have hl : lv_has ls 3 [(0, .ref (ad 0)), (1, .int x1)] := hl
  have h : qOk (kX8_judge M x1) _ := h
  unfold kX8_judge at h
  refine lv_iload_n hx hb dX8_judge_0 rfl (lv_at hl 1 rfl) ?_
  refine lv_iconst (v := 0) hx hb dX8_judge_1 (by decide) ?_
  refine lv_iconst (v := 1) hx hb dX8_judge_2 (by decide) ?_
  refine y_cs (va_runS (As := [.int x1, .int 0, .int 1]) (rest := []) ⟨hx, hb, hml, hown, hts⟩ (c_X8_in l x1 0 1 (qOk.b1 h)) (va_cwS 3 hts gX8_judge_X8_in rfl rfl rfl (by decide +kernel) ⟨Nat.le_of_ble_eq_true rfl, Nat.le_of_ble_eq_true rfl⟩) ⟨qPrT.blind, qPrT.at⟩ rfl rfl hl.1 rfl (lv_room (Nat.le_of_ble_eq_true rfl)) dX8_judge_3 ⟨Nat.zero_le _, Nat.zero_le _⟩) (fun v1 h => ?_)
  refine lv_if_ne (tgt := 12) hx hb dX8_judge_6 (by decide) (fun hc => ?_) (fun hc => ?_)
  · have h := qOk.f hc h
    refine lv_aload_n hx hb dX8_judge_12 rfl (lv_at hl 0 rfl) ?_
    refine y_cs (va_runV (As := []) (rest := []) ⟨hx, hb, hml, hown, hts⟩ (c_X8_faultOf l G ad hI M _  (qOk.b1 h)) (cwV 0 hts gX8_judge_X8_faultOf rfl rfl rfl (by decide +kernel) ⟨Nat.le_of_ble_eq_true rfl, Nat.le_of_ble_eq_true rfl⟩) ⟨qPre.blind, qrecv hK hH qOb_8 rfl, qPre.at hK hH⟩ rfl rfl hl.1 rfl (lv_room (Nat.le_of_ble_eq_true rfl)) dX8_judge_13 ⟨Nat.zero_le _, Nat.zero_le _⟩) (fun v2 h => ?_)
    refine lv_if_lt (tgt := 22) hx hb dX8_judge_16 (by decide) (fun hc => ?_) (fun hc => ?_)
    · have h := qOk.t hc h
      refine lv_aload_n hx hb dX8_judge_22 rfl (lv_at hl 0 rfl) ?_
      refine y_ci hH (va_runV (As := []) (rest := []) ⟨hx, hb, hml, hown, hts⟩ (c_X8_goShifts l G ad hI M _  (qOk.b2 h)) (cwV 0 hts gX8_judge_X8_goShifts rfl rfl rfl (by decide +kernel) ⟨Nat.le_of_ble_eq_true rfl, Nat.le_of_ble_eq_true rfl⟩) ⟨qPre.blind, qrecv hK hH qOb_8 rfl, qPre.at hK hH⟩ rfl rfl hl.1 rfl (lv_room (Nat.le_of_ble_eq_true rfl)) dX8_judge_23 ⟨Nat.zero_le _, Nat.zero_le _⟩) (fun v4 M3 H locs hH h => ?_)
      refine lv_istore_n (lv' := [(2, .int v4), (0, .ref (ad 0)), (1, .int x1)]) hx hb dX8_judge_26 rfl hl (by decide) rfl (fun ls hl => ?_)
      refine lv_iload_n hx hb dX8_judge_27 rfl (lv_at hl 0 rfl) ?_
      refine qj1 (G := fun (v5 : Int32) => W p l e (headSpec wsX8_judge rm_X8_judge).room s m [.ref (ad 0), .int x1].toArray below meth c H locs 0 0 (MQ below (va_Qi P (fun u t => qHp W2N e2 G ad u t.heap) (qA W2N ad s.heap.size)) [.ref (ad 0), .int x1].toArray s 0 0 (qA W2N ad s.heap.size)) (F0 m 43 ls [.int v5])) h ?_ ?_
      rotate_left
      · intro h
        refine lv_if_lt (tgt := 35) hx hb dX8_judge_28 (by decide) (fun hc => ?_) (fun hc => ?_)
        · have h := qOk.t hc h
          refine lv_iload_n hx hb dX8_judge_35 rfl (lv_at hl 0 rfl) ?_
          refine lv_goto (tgt := 43) hx hb dX8_judge_36 (by decide) ?_
          have h := qOk.s h
          exact h
        · have h := qOk.f hc h
          refine lv_iload_n hx hb dX8_judge_31 rfl (lv_at hl 2 rfl) ?_
          refine lv_if_ne (tgt := 39) hx hb dX8_judge_32 (by decide) (fun hc => ?_) (fun hc => ?_)
          · have h := qOk.f hc h
            refine lv_aload_n hx hb dX8_judge_39 rfl (lv_at hl 1 rfl) ?_
            refine y_get hx hb hts i_X8 hown hK hH qOb_8 rfl 16 (by decide) f119 rfl dX8_judge_40 ?_
            have h := qOk.s h
            exact h
          · have h := qOk.t hc h
            refine lv_iload_n hx hb dX8_judge_35 rfl (lv_at hl 0 rfl) ?_
            refine lv_goto (tgt := 43) hx hb dX8_judge_36 (by decide) ?_
            have h := qOk.s h
            exact h
      intro v5 h
      exact W.iret hx hb hr (fun t ht _ => ⟨⟨_, _, rfl, qOk2.s h, qHpt ht hH.1⟩, hH.2.F ht⟩) hH.2.2.2 dX8_judge_43
    · have h := qOk.f hc h
      refine lv_bipush (v := (-5)) hx hb dX8_judge_19 (by decide) ?_
      exact W.iret hx hb hr (fun t ht _ => ⟨⟨_, _, rfl, qOk2.s h, qHpt ht hH.1⟩, hH.2.F ht⟩) hH.2.2.2 dX8_judge_21
  · have h := qOk.t hc h
    refine lv_bipush (v := (-2)) hx hb dX8_judge_9 (by decide) ?_
    exact W.iret hx hb hr (fun t ht _ => ⟨⟨_, _, rfl, qOk2.s h, qHpt ht hH.1⟩, hH.2.F ht⟩) hH.2.2.2 dX8_judge_11
abbrev rm_X8_barOfShifts : Room := { frames := 7, cells := 0, slots := 0, locals := 161 }
set_option maxHeartbeats 4000000 in
set_option maxRecDepth 100000 in
theorem c_X8_barOfShifts (l : Launch) (G : qG) (ad : Nat → Nat) (hI : qI W2N ad) (M : qM) (sz : Nat) {P : Int32 → qM → Prop} (h : qOk2 (kX8_barOfShifts M) P) : Met l yX8_barOfShifts wsX8_barOfShifts rm_X8_barOfShifts (va_Pc [.ref (ad 0)] (qPre W2N e2 G ad M sz)) (va_Qi P (fun u t => qHp W2N e2 G ad u t.heap) (qA W2N ad sz)) 0 0 (qA W2N ad sz) := by
  refine Met.ofW (cc := cX8_barOfShifts) (maxL := 1) (ret := (some .int)) (by decide) rfl ?_
  intro p e s m args below meth c s₁ B hml hv
  obtain ⟨rfl, hsz, hK, hP⟩ := hv
  subst hsz
  have hx := B.exec
  have hb := B.bytes
  have hr := B.returns
  have hts := atoms_spec (ws := wsX8_barOfShifts) B.pre
  have hown : s.vm.findClass RX8 = some m.cls := findClass_of_methodNamed B.named
  have hlocks := B.notSynchronized
  have hH : qHS W2N e2 G ad M s.heap s.heap [] := ⟨hP, va_S.rf⟩
  have hl := lv_entry ([.ref (ad 0)]) (n := 1) (Nat.le_of_ble_eq_true rfl)
  rw [lg_entry_eq]
  generalize (lg_sl ([.ref (ad 0)]) ++ List.replicate (1 - (lg_sl ([.ref (ad 0)])).length) Slot.unset).toArray = ls at hl ⊢
  have hl : lv_has ls 1 [(0, .ref (ad 0))] := hl
  have h : qOk (kX8_barOfShifts M) _ := h
  unfold kX8_barOfShifts at h
  refine lv_aload_n hx hb dX8_barOfShifts_0 rfl (lv_at hl 0 rfl) ?_
  refine y_cs (va_runV (As := []) (rest := []) ⟨hx, hb, hml, hown, hts⟩ (c_X8_faultOf l G ad hI M _  (qOk.b1 h)) (cwV 0 hts gX8_barOfShifts_X8_faultOf rfl rfl rfl (by decide +kernel) ⟨Nat.le_of_ble_eq_true rfl, Nat.le_of_ble_eq_true rfl⟩) ⟨qPre.blind, qrecv hK hH qOb_8 rfl, qPre.at hK hH⟩ rfl rfl hl.1 rfl (lv_room (Nat.le_of_ble_eq_true rfl)) dX8_barOfShifts_1 ⟨Nat.zero_le _, Nat.zero_le _⟩) (fun v1 h => ?_)
  refine qj2 (G := fun (v2 : Int32) (M3 : qM) => ∀ (H : Heap) (locs : List Loc), qHS W2N e2 G ad M3 s.heap H locs → W p l e (headSpec wsX8_barOfShifts rm_X8_barOfShifts).room s m [.ref (ad 0)].toArray below meth c H locs 0 0 (MQ below (va_Qi P (fun u t => qHp W2N e2 G ad u t.heap) (qA W2N ad s.heap.size)) [.ref (ad 0)].toArray s 0 0 (qA W2N ad s.heap.size)) (F0 m 20 ls [.int v2])) h ?_ ?_
  rotate_left
  · intro h
    refine lv_if_ge (tgt := 14) hx hb dX8_barOfShifts_4 (by decide) (fun hc => ?_) (fun hc => ?_)
    · have h := qOk.t hc h
      refine lv_bipush (v := (-5)) hx hb dX8_barOfShifts_14 (by decide) ?_
      refine lv_goto (tgt := 20) hx hb dX8_barOfShifts_16 (by decide) ?_
      have h := qOk.s h
      exact h _ _ hH
    · have h := qOk.f hc h
      refine lv_aload_n hx hb dX8_barOfShifts_7 rfl (lv_at hl 0 rfl) ?_
      refine y_ci hH (va_runV (As := []) (rest := []) ⟨hx, hb, hml, hown, hts⟩ (c_X8_goShifts l G ad hI M _  (qOk.b2 h)) (cwV 0 hts gX8_barOfShifts_X8_goShifts rfl rfl rfl (by decide +kernel) ⟨Nat.le_of_ble_eq_true rfl, Nat.le_of_ble_eq_true rfl⟩) ⟨qPre.blind, qrecv hK hH qOb_8 rfl, qPre.at hK hH⟩ rfl rfl hl.1 rfl (lv_room (Nat.le_of_ble_eq_true rfl)) dX8_barOfShifts_8 ⟨Nat.zero_le _, Nat.zero_le _⟩) (fun v5 M4 H locs hH h => ?_)
      refine lv_if_lt (tgt := 19) hx hb dX8_barOfShifts_11 (by decide) (fun hc => ?_) (fun hc => ?_)
      · have h := qOk.t hc h
        refine lv_iconst (v := 0) hx hb dX8_barOfShifts_19 (by decide) ?_
        have h := qOk.s h
        exact h _ _ hH
      · have h := qOk.f hc h
        refine lv_bipush (v := (-5)) hx hb dX8_barOfShifts_14 (by decide) ?_
        refine lv_goto (tgt := 20) hx hb dX8_barOfShifts_16 (by decide) ?_
        have h := qOk.s h
        exact h _ _ hH
  intro v2 M3 h H locs hH
  exact W.iret hx hb hr (fun t ht _ => ⟨⟨_, _, rfl, qOk2.s h, qHpt ht hH.1⟩, hH.2.F ht⟩) hH.2.2.2 dX8_barOfShifts_20
abbrev rm_X8_done : Room := { frames := 8, cells := 0, slots := 0, locals := 181 }
set_option maxHeartbeats 4000000 in
set_option maxRecDepth 100000 in
theorem c_X8_done (l : Launch) (G : qG) (ad : Nat → Nat) (hI : qI W2N ad) (M : qM) (sz : Nat) {P : Int32 → qM → Prop} (h : qOk2 (kX8_done M) P) : Met l yX8_done wsX8_done rm_X8_done (va_Pc [.ref (ad 0)] (qPre W2N e2 G ad M sz)) (va_Qi P (fun u t => qHp W2N e2 G ad u t.heap) (qA W2N ad sz)) 0 0 (qA W2N ad sz) := by
  refine Met.ofW (cc := cX8_done) (maxL := 2) (ret := (some .int)) (by decide) rfl ?_
  intro p e s m args below meth c s₁ B hml hv
  obtain ⟨rfl, hsz, hK, hP⟩ := hv
  subst hsz
  have hx := B.exec
  have hb := B.bytes
  have hr := B.returns
  have hts := atoms_spec (ws := wsX8_done) B.pre
  have hown : s.vm.findClass RX8 = some m.cls := findClass_of_methodNamed B.named
  have hlocks := B.notSynchronized
  have hH : qHS W2N e2 G ad M s.heap s.heap [] := ⟨hP, va_S.rf⟩
  have f7 : (Cond.fieldLink RX8 7 "SongLampsModel" "book" "[I").before [.ref (ad 0)].toArray s = true := hts _ (by decide +kernel)
  have i_X8 : ∀ w ∈ wsX80, w ∈ wsX8_done := fun w hw => List.mem_cons_of_mem _ ((List.mem_append_right _ hw))
  have f13 : (Cond.fieldLink RX8 13 "SongLampsModel" "now" "[I").before [.ref (ad 0)].toArray s = true := hts _ (by decide +kernel)
  have f85 : (Cond.fieldLink RX8 85 "SongLampsModel" "signs" "I").before [.ref (ad 0)].toArray s = true := hts _ (by decide +kernel)
  have f113 : (Cond.fieldLink RX8 113 "SongLampsModel" "acts" "I").before [.ref (ad 0)].toArray s = true := hts _ (by decide +kernel)
  have hl := lv_entry ([.ref (ad 0)]) (n := 2) (Nat.le_of_ble_eq_true rfl)
  rw [lg_entry_eq]
  generalize (lg_sl ([.ref (ad 0)]) ++ List.replicate (2 - (lg_sl ([.ref (ad 0)])).length) Slot.unset).toArray = ls at hl ⊢
  have hl : lv_has ls 2 [(0, .ref (ad 0))] := hl
  have h : qOk (kX8_done M) _ := h
  unfold kX8_done at h
  refine lv_aload_n hx hb dX8_done_0 rfl (lv_at hl 0 rfl) ?_
  refine y_ci hH (va_runV (As := []) (rest := []) ⟨hx, hb, hml, hown, hts⟩ (c_X8_barOfShifts l G ad hI M _  (qOk.b2 h)) (cwV 0 hts gX8_done_X8_barOfShifts rfl rfl rfl (by decide +kernel) ⟨Nat.le_of_ble_eq_true rfl, Nat.le_of_ble_eq_true rfl⟩) ⟨qPre.blind, qrecv hK hH qOb_8 rfl, qPre.at hK hH⟩ rfl rfl hl.1 rfl (lv_room (Nat.le_of_ble_eq_true rfl)) dX8_done_1 ⟨Nat.zero_le _, Nat.zero_le _⟩) (fun v2 M1 H locs hH h => ?_)
  refine lv_if_ge (tgt := 10) hx hb dX8_done_4 (by decide) (fun hc => ?_) (fun hc => ?_)
  · have h := qOk.t hc h
    refine lv_iconst (v := 0) hx hb dX8_done_10 (by decide) ?_
    refine lv_istore_n (lv' := [(1, .int 0), (0, .ref (ad 0))]) hx hb dX8_done_11 rfl hl (by decide) rfl (fun ls hl => ?_)
    refine qj1 (G := fun (M5 : qM) => ∀ (H : Heap) (locs : List Loc), qHS W2N e2 G ad M5 s.heap H locs → ∀ ls : Array Slot, lv_has ls 2 [(0, .ref (ad 0))] → W p l e (headSpec wsX8_done rm_X8_done).room s m [.ref (ad 0)].toArray below meth c H locs 0 0 (MQ below (va_Qi P (fun u t => qHp W2N e2 G ad u t.heap) (qA W2N ad s.heap.size)) [.ref (ad 0)].toArray s 0 0 (qA W2N ad s.heap.size)) (F0 m 36 ls [])) h ?_ ?_
    rotate_left
    · intro h
      refine qloop2 (I := fun (v3 : Int32) (M4 : qM) => ∀ (H : Heap) (locs : List Loc), qHS W2N e2 G ad M4 s.heap H locs → ∀ ls : Array Slot, lv_has ls 2 [(0, .ref (ad 0)), (1, .int v3)] → W p l e (headSpec wsX8_done rm_X8_done).room s m [.ref (ad 0)].toArray below meth c H locs 0 0 (MQ below (va_Qi P (fun u t => qHp W2N e2 G ad u t.heap) (qA W2N ad s.heap.size)) [.ref (ad 0)].toArray s 0 0 (qA W2N ad s.heap.size)) (F0 m 12 ls [])) ?_ h _ _ hH _ (lv_sub hl [1, 0] rfl)
      intro v3 M4 h H locs hH ls hl
      have h : qOk (kX8_done_L12 v3 M4) _ := h
      unfold kX8_done_L12 at h
      refine lv_iload_n hx hb dX8_done_12 rfl (lv_at hl 1 rfl) ?_
      refine lv_bipush (v := 36) hx hb dX8_done_13 (by decide) ?_
      refine lv_icmp_ge (tgt := 36) hx hb dX8_done_15 (by decide) (fun hc => ?_) (fun hc => ?_)
      · have h := qOk.t hc h
        exact qOk.le h _ _ hH _ (lv_sub hl [0] rfl)
      · have h := qOk.f hc h
        refine lv_aload_n hx hb dX8_done_18 rfl (lv_at hl 0 rfl) ?_
        refine y_get hx hb hts i_X8 hown hK hH qOb_8 rfl 0 (by decide) f7 rfl dX8_done_19 ?_
        refine lv_iload_n hx hb dX8_done_22 rfl (lv_at hl 1 rfl) ?_
        refine lv_aload_n hx hb dX8_done_23 rfl (lv_at hl 0 rfl) ?_
        refine y_get hx hb hts i_X8 hown hK hH qOb_8 rfl 1 (by decide) f13 rfl dX8_done_24 ?_
        refine lv_iload_n hx hb dX8_done_27 rfl (lv_at hl 1 rfl) ?_
        refine y_iald hx hb hK hH qMr_2 h dX8_done_28 (fun v6 h => ?_)
        refine y_iast hx hb hK hI hH qMr_1 h dX8_done_29 (fun M7 H locs hH h => ?_)
        obtain ⟨v8, ev8⟩ : ∃ y : Int32, y = v3 + 1 := ⟨_, rfl⟩
        have h := qOk.v h ev8
        refine lv_iinc (v := v8) (lv' := [(1, .int v8), (0, .ref (ad 0))]) hx hb dX8_done_30 hl (k := 1) rfl (by rw [ev8]; rfl) (by decide) rfl (fun ls hl => ?_)
        refine lv_goto (tgt := 12) hx hb dX8_done_33 (by decide) ?_
        exact qOk.li h _ _ hH _ (lv_sub hl [1, 0] rfl)
    intro M5 h H locs hH ls hl
    refine lv_aload_n hx hb dX8_done_36 rfl (lv_at hl 0 rfl) ?_
    refine lv_iconst (v := 0) hx hb dX8_done_37 (by decide) ?_
    refine y_put hx hb hts i_X8 tyX8 tyX8_ok nmX8 hown hK hI hH qOb_8 rfl 11 (by decide) f85 rfl (by decide +kernel) (Nat.le_of_ble_eq_true rfl) (fun _ => rfl) h dX8_done_38 (fun M9 H locs hH h => ?_)
    refine lv_aload_n hx hb dX8_done_41 rfl (lv_at hl 0 rfl) ?_
    refine y_get hx hb hts i_X8 hown hK hH qOb_8 rfl 17 (by decide) f113 rfl dX8_done_42 ?_
    exact W.iret hx hb hr (fun t ht _ => ⟨⟨_, _, rfl, qOk2.s h, qHpt ht hH.1⟩, hH.2.F ht⟩) hH.2.2.2 dX8_done_45
  · have h := qOk.f hc h
    refine lv_bipush (v := (-5)) hx hb dX8_done_7 (by decide) ?_
    exact W.iret hx hb hr (fun t ht _ => ⟨⟨_, _, rfl, qOk2.s h, qHpt ht hH.1⟩, hH.2.F ht⟩) hH.2.2.2 dX8_done_9
abbrev rm_X8_behind : Room := { frames := 8, cells := 0, slots := 0, locals := 181 }
set_option maxHeartbeats 4000000 in
set_option maxRecDepth 100000 in
theorem c_X8_behind (l : Launch) (G : qG) (ad : Nat → Nat) (hI : qI W2N ad) (M : qM) (sz : Nat) (x1 : Int32) (x2 : Int32) {P : Int32 → qM → Prop} (h : qOk2 (kX8_behind M x1 x2) P) : Met l yX8_behind wsX8_behind rm_X8_behind (va_Pc [.ref (ad 0), .int x1, .int x2] (qPre W2N e2 G ad M sz)) (va_Qi P (fun u t => qHp W2N e2 G ad u t.heap) (qA W2N ad sz)) 0 0 (qA W2N ad sz) := by
  refine Met.ofW (cc := cX8_behind) (maxL := 3) (ret := (some .int)) (by decide) rfl ?_
  intro p e s m args below meth c s₁ B hml hv
  obtain ⟨rfl, hsz, hK, hP⟩ := hv
  subst hsz
  have hx := B.exec
  have hb := B.bytes
  have hr := B.returns
  have hts := atoms_spec (ws := wsX8_behind) B.pre
  have hown : s.vm.findClass RX8 = some m.cls := findClass_of_methodNamed B.named
  have hlocks := B.notSynchronized
  have hH : qHS W2N e2 G ad M s.heap s.heap [] := ⟨hP, va_S.rf⟩
  have f13 : (Cond.fieldLink RX8 13 "SongLampsModel" "now" "[I").before [.ref (ad 0), .int x1, .int x2].toArray s = true := hts _ (by decide +kernel)
  have i_X8 : ∀ w ∈ wsX80, w ∈ wsX8_behind := fun w hw => List.mem_cons_of_mem _ ((List.mem_append_right _ hw))
  have hl := lv_entry ([.ref (ad 0), .int x1, .int x2]) (n := 3) (Nat.le_of_ble_eq_true rfl)
  rw [lg_entry_eq]
  generalize (lg_sl ([.ref (ad 0), .int x1, .int x2]) ++ List.replicate (3 - (lg_sl ([.ref (ad 0), .int x1, .int x2])).length) Slot.unset).toArray = ls at hl ⊢
  have hl : lv_has ls 3 [(0, .ref (ad 0)), (1, .int x1), (2, .int x2)] := hl
  have h : qOk (kX8_behind M x1 x2) _ := h
  unfold kX8_behind at h
  refine lv_aload_n hx hb dX8_behind_0 rfl (lv_at hl 0 rfl) ?_
  refine lv_iload_n hx hb dX8_behind_1 rfl (lv_at hl 1 rfl) ?_
  refine y_cs (va_runV (As := [.int x1]) (rest := []) ⟨hx, hb, hml, hown, hts⟩ (c_X8_isThere l G ad hI M _ x1 (qOk.b1 h)) (cwV 1 hts gX8_behind_X8_isThere rfl rfl rfl (by decide +kernel) ⟨Nat.le_of_ble_eq_true rfl, Nat.le_of_ble_eq_true rfl⟩) ⟨qPre.blind, qrecv hK hH qOb_8 rfl, qPre.at hK hH⟩ rfl rfl hl.1 rfl (lv_room (Nat.le_of_ble_eq_true rfl)) dX8_behind_2 ⟨Nat.zero_le _, Nat.zero_le _⟩) (fun v1 h => ?_)
  refine lv_if_ne (tgt := 10) hx hb dX8_behind_5 (by decide) (fun hc => ?_) (fun hc => ?_)
  · have h := qOk.f hc h
    refine lv_iload_n hx hb dX8_behind_10 rfl (lv_at hl 2 rfl) ?_
    refine lv_iconst (v := 0) hx hb dX8_behind_11 (by decide) ?_
    refine lv_iconst (v := 2) hx hb dX8_behind_12 (by decide) ?_
    refine y_cs (va_runS (As := [.int x2, .int 0, .int 2]) (rest := []) ⟨hx, hb, hml, hown, hts⟩ (c_X8_in l x2 0 2 (qOk.b1 h)) (va_cwS 3 hts gX8_behind_X8_in rfl rfl rfl (by decide +kernel) ⟨Nat.le_of_ble_eq_true rfl, Nat.le_of_ble_eq_true rfl⟩) ⟨qPrT.blind, qPrT.at⟩ rfl rfl hl.1 rfl (lv_room (Nat.le_of_ble_eq_true rfl)) dX8_behind_13 ⟨Nat.zero_le _, Nat.zero_le _⟩) (fun v2 h => ?_)
    refine lv_if_ne (tgt := 22) hx hb dX8_behind_16 (by decide) (fun hc => ?_) (fun hc => ?_)
    · have h := qOk.f hc h
      refine lv_aload_n hx hb dX8_behind_22 rfl (lv_at hl 0 rfl) ?_
      refine y_ci hH (va_runV (As := []) (rest := []) ⟨hx, hb, hml, hown, hts⟩ (c_X8_barOfShifts l G ad hI M _  (qOk.b2 h)) (cwV 0 hts gX8_behind_X8_barOfShifts rfl rfl rfl (by decide +kernel) ⟨Nat.le_of_ble_eq_true rfl, Nat.le_of_ble_eq_true rfl⟩) ⟨qPre.blind, qrecv hK hH qOb_8 rfl, qPre.at hK hH⟩ rfl rfl hl.1 rfl (lv_room (Nat.le_of_ble_eq_true rfl)) dX8_behind_23 ⟨Nat.zero_le _, Nat.zero_le _⟩) (fun v4 M3 H locs hH h => ?_)
      refine qj1 (G := fun (v5 : Int32) => W p l e (headSpec wsX8_behind rm_X8_behind).room s m [.ref (ad 0), .int x1, .int x2].toArray below meth c H locs 0 0 (MQ below (va_Qi P (fun u t => qHp W2N e2 G ad u t.heap) (qA W2N ad s.heap.size)) [.ref (ad 0), .int x1, .int x2].toArray s 0 0 (qA W2N ad s.heap.size)) (F0 m 45 ls [.int v5])) h ?_ ?_
      rotate_left
      · intro h
        refine lv_if_ge (tgt := 34) hx hb dX8_behind_26 (by decide) (fun hc => ?_) (fun hc => ?_)
        · have h := qOk.t hc h
          refine lv_aload_n hx hb dX8_behind_34 rfl (lv_at hl 0 rfl) ?_
          refine y_get hx hb hts i_X8 hown hK hH qOb_8 rfl 1 (by decide) f13 rfl dX8_behind_35 ?_
          refine lv_bipush (v := 8) hx hb dX8_behind_38 (by decide) ?_
          refine lv_iload_n hx hb dX8_behind_40 rfl (lv_at hl 2 rfl) ?_
          refine lv_imul hx hb dX8_behind_41 ?_
          refine lv_iload_n hx hb dX8_behind_42 rfl (lv_at hl 1 rfl) ?_
          refine lv_iadd hx hb dX8_behind_43 ?_
          refine y_iald hx hb hK hH qMr_2 h dX8_behind_44 (fun v6 h => ?_)
          have h := qOk.s h
          exact h
        · have h := qOk.f hc h
          refine lv_bipush (v := (-5)) hx hb dX8_behind_29 (by decide) ?_
          refine lv_goto (tgt := 45) hx hb dX8_behind_31 (by decide) ?_
          have h := qOk.s h
          exact h
      intro v5 h
      exact W.iret hx hb hr (fun t ht _ => ⟨⟨_, _, rfl, qOk2.s h, qHpt ht hH.1⟩, hH.2.F ht⟩) hH.2.2.2 dX8_behind_45
    · have h := qOk.t hc h
      refine lv_bipush (v := (-2)) hx hb dX8_behind_19 (by decide) ?_
      exact W.iret hx hb hr (fun t ht _ => ⟨⟨_, _, rfl, qOk2.s h, qHpt ht hH.1⟩, hH.2.F ht⟩) hH.2.2.2 dX8_behind_21
  · have h := qOk.t hc h
    refine lv_iconst (v := (-1)) hx hb dX8_behind_8 (by decide) ?_
    exact W.iret hx hb hr (fun t ht _ => ⟨⟨_, _, rfl, qOk2.s h, qHpt ht hH.1⟩, hH.2.F ht⟩) hH.2.2.2 dX8_behind_9
abbrev rm_X8_seam : Room := { frames := 8, cells := 0, slots := 0, locals := 181 }
set_option maxHeartbeats 4000000 in
set_option maxRecDepth 100000 in
theorem c_X8_seam (l : Launch) (G : qG) (ad : Nat → Nat) (hI : qI W2N ad) (M : qM) (sz : Nat) (x1 : Int32) (x2 : Int32) {P : Int32 → qM → Prop} (h : qOk2 (kX8_seam M x1 x2) P) : Met l yX8_seam wsX8_seam rm_X8_seam (va_Pc [.ref (ad 0), .int x1, .int x2] (qPre W2N e2 G ad M sz)) (va_Qi P (fun u t => qHp W2N e2 G ad u t.heap) (qA W2N ad sz)) 0 0 (qA W2N ad sz) := by
  refine Met.ofW (cc := cX8_seam) (maxL := 3) (ret := (some .int)) (by decide) rfl ?_
  intro p e s m args below meth c s₁ B hml hv
  obtain ⟨rfl, hsz, hK, hP⟩ := hv
  subst hsz
  have hx := B.exec
  have hb := B.bytes
  have hr := B.returns
  have hts := atoms_spec (ws := wsX8_seam) B.pre
  have hown : s.vm.findClass RX8 = some m.cls := findClass_of_methodNamed B.named
  have hlocks := B.notSynchronized
  have hH : qHS W2N e2 G ad M s.heap s.heap [] := ⟨hP, va_S.rf⟩
  have f13 : (Cond.fieldLink RX8 13 "SongLampsModel" "now" "[I").before [.ref (ad 0), .int x1, .int x2].toArray s = true := hts _ (by decide +kernel)
  have i_X8 : ∀ w ∈ wsX80, w ∈ wsX8_seam := fun w hw => List.mem_cons_of_mem _ ((List.mem_append_right _ hw))
  have hl := lv_entry ([.ref (ad 0), .int x1, .int x2]) (n := 3) (Nat.le_of_ble_eq_true rfl)
  rw [lg_entry_eq]
  generalize (lg_sl ([.ref (ad 0), .int x1, .int x2]) ++ List.replicate (3 - (lg_sl ([.ref (ad 0), .int x1, .int x2])).length) Slot.unset).toArray = ls at hl ⊢
  have hl : lv_has ls 3 [(0, .ref (ad 0)), (1, .int x1), (2, .int x2)] := hl
  have h : qOk (kX8_seam M x1 x2) _ := h
  unfold kX8_seam at h
  refine lv_iload_n hx hb dX8_seam_0 rfl (lv_at hl 1 rfl) ?_
  refine y_cs (va_runS (As := [.int x1]) (rest := []) ⟨hx, hb, hml, hown, hts⟩ (c_X8_isGallery l x1 (qOk.b1 h)) (va_cwS 1 hts gX8_seam_X8_isGallery rfl rfl rfl (by decide +kernel) ⟨Nat.le_of_ble_eq_true rfl, Nat.le_of_ble_eq_true rfl⟩) ⟨qPrT.blind, qPrT.at⟩ rfl rfl hl.1 rfl (lv_room (Nat.le_of_ble_eq_true rfl)) dX8_seam_1 ⟨Nat.zero_le _, Nat.zero_le _⟩) (fun v1 h => ?_)
  refine lv_if_ne (tgt := 9) hx hb dX8_seam_4 (by decide) (fun hc => ?_) (fun hc => ?_)
  · have h := qOk.f hc h
    refine lv_iload_n hx hb dX8_seam_9 rfl (lv_at hl 2 rfl) ?_
    refine lv_iconst (v := 0) hx hb dX8_seam_10 (by decide) ?_
    refine lv_iconst (v := 1) hx hb dX8_seam_11 (by decide) ?_
    refine y_cs (va_runS (As := [.int x2, .int 0, .int 1]) (rest := []) ⟨hx, hb, hml, hown, hts⟩ (c_X8_in l x2 0 1 (qOk.b1 h)) (va_cwS 3 hts gX8_seam_X8_in rfl rfl rfl (by decide +kernel) ⟨Nat.le_of_ble_eq_true rfl, Nat.le_of_ble_eq_true rfl⟩) ⟨qPrT.blind, qPrT.at⟩ rfl rfl hl.1 rfl (lv_room (Nat.le_of_ble_eq_true rfl)) dX8_seam_12 ⟨Nat.zero_le _, Nat.zero_le _⟩) (fun v2 h => ?_)
    refine lv_if_ne (tgt := 21) hx hb dX8_seam_15 (by decide) (fun hc => ?_) (fun hc => ?_)
    · have h := qOk.f hc h
      refine lv_aload_n hx hb dX8_seam_21 rfl (lv_at hl 0 rfl) ?_
      refine y_ci hH (va_runV (As := []) (rest := []) ⟨hx, hb, hml, hown, hts⟩ (c_X8_barOfShifts l G ad hI M _  (qOk.b2 h)) (cwV 0 hts gX8_seam_X8_barOfShifts rfl rfl rfl (by decide +kernel) ⟨Nat.le_of_ble_eq_true rfl, Nat.le_of_ble_eq_true rfl⟩) ⟨qPre.blind, qrecv hK hH qOb_8 rfl, qPre.at hK hH⟩ rfl rfl hl.1 rfl (lv_room (Nat.le_of_ble_eq_true rfl)) dX8_seam_22 ⟨Nat.zero_le _, Nat.zero_le _⟩) (fun v4 M3 H locs hH h => ?_)
      refine lv_if_ge (tgt := 31) hx hb dX8_seam_25 (by decide) (fun hc => ?_) (fun hc => ?_)
      · have h := qOk.t hc h
        refine lv_iload_n hx hb dX8_seam_31 rfl (lv_at hl 2 rfl) ?_
        refine qj1 (G := fun (v5 : Int32) => W p l e (headSpec wsX8_seam rm_X8_seam).room s m [.ref (ad 0), .int x1, .int x2].toArray below meth c H locs 0 0 (MQ below (va_Qi P (fun u t => qHp W2N e2 G ad u t.heap) (qA W2N ad s.heap.size)) [.ref (ad 0), .int x1, .int x2].toArray s 0 0 (qA W2N ad s.heap.size)) (F0 m 52 ls [.int v5])) h ?_ ?_
        rotate_left
        · intro h
          refine lv_if_ne (tgt := 43) hx hb dX8_seam_32 (by decide) (fun hc => ?_) (fun hc => ?_)
          · have h := qOk.f hc h
            refine lv_aload_n hx hb dX8_seam_43 rfl (lv_at hl 0 rfl) ?_
            refine y_get hx hb hts i_X8 hown hK hH qOb_8 rfl 1 (by decide) f13 rfl dX8_seam_44 ?_
            refine lv_bipush (v := 24) hx hb dX8_seam_47 (by decide) ?_
            refine lv_iload_n hx hb dX8_seam_49 rfl (lv_at hl 1 rfl) ?_
            refine lv_iadd hx hb dX8_seam_50 ?_
            refine y_iald hx hb hK hH qMr_2 h dX8_seam_51 (fun v6 h => ?_)
            have h := qOk.s h
            exact h
          · have h := qOk.t hc h
            refine lv_aload_n hx hb dX8_seam_35 rfl (lv_at hl 0 rfl) ?_
            refine lv_iload_n hx hb dX8_seam_36 rfl (lv_at hl 1 rfl) ?_
            refine y_cs (va_runV (As := [.int x1]) (rest := []) ⟨hx, hb, hml, hown, hts⟩ (c_X8_lightOf l G ad hI M3 _ x1 (qOk.b1 h)) (cwV 1 hts gX8_seam_X8_lightOf rfl rfl rfl (by decide +kernel) ⟨Nat.le_of_ble_eq_true rfl, Nat.le_of_ble_eq_true rfl⟩) ⟨qPre.blind, qrecv hK hH qOb_8 rfl, qPre.at hK hH⟩ rfl rfl hl.1 rfl (lv_room (Nat.le_of_ble_eq_true rfl)) dX8_seam_37 ⟨Nat.zero_le _, Nat.zero_le _⟩) (fun v7 h => ?_)
            refine lv_goto (tgt := 52) hx hb dX8_seam_40 (by decide) ?_
            have h := qOk.s h
            exact h
        intro v5 h
        exact W.iret hx hb hr (fun t ht _ => ⟨⟨_, _, rfl, qOk2.s h, qHpt ht hH.1⟩, hH.2.F ht⟩) hH.2.2.2 dX8_seam_52
      · have h := qOk.f hc h
        refine lv_bipush (v := (-5)) hx hb dX8_seam_28 (by decide) ?_
        exact W.iret hx hb hr (fun t ht _ => ⟨⟨_, _, rfl, qOk2.s h, qHpt ht hH.1⟩, hH.2.F ht⟩) hH.2.2.2 dX8_seam_30
    · have h := qOk.t hc h
      refine lv_bipush (v := (-2)) hx hb dX8_seam_18 (by decide) ?_
      exact W.iret hx hb hr (fun t ht _ => ⟨⟨_, _, rfl, qOk2.s h, qHpt ht hH.1⟩, hH.2.F ht⟩) hH.2.2.2 dX8_seam_20
  · have h := qOk.t hc h
    refine lv_iconst (v := (-1)) hx hb dX8_seam_7 (by decide) ?_
    exact W.iret hx hb hr (fun t ht _ => ⟨⟨_, _, rfl, qOk2.s h, qHpt ht hH.1⟩, hH.2.F ht⟩) hH.2.2.2 dX8_seam_8
abbrev rm_X8_coal : Room := { frames := 0, cells := 0, slots := 0, locals := 0 }
set_option maxHeartbeats 4000000 in
set_option maxRecDepth 100000 in
theorem c_X8_coal (l : Launch) (G : qG) (ad : Nat → Nat) (hI : qI W2N ad) (M : qM) (sz : Nat) {P : Int32 → Prop} (h : qOk (kX8_coal M) P) : Met l yX8_coal wsX8_coal rm_X8_coal (va_Pc [.ref (ad 0)] (qPre W2N e2 G ad M sz)) (vp_Si P) 0 0 (fun _ => False) := by
  refine Met.ofW (cc := cX8_coal) (maxL := 3) (ret := (some .int)) (by decide) rfl ?_
  intro p e s m args below meth c s₁ B hml hv
  obtain ⟨rfl, hsz, hK, hP⟩ := hv
  subst hsz
  have hx := B.exec
  have hb := B.bytes
  have hr := B.returns
  have hts := atoms_spec (ws := wsX8_coal) B.pre
  have hown : s.vm.findClass RX8 = some m.cls := findClass_of_methodNamed B.named
  have hlocks := B.notSynchronized
  have hH : qHS W2N e2 G ad M s.heap s.heap [] := ⟨hP, va_S.rf⟩
  have f13 : (Cond.fieldLink RX8 13 "SongLampsModel" "now" "[I").before [.ref (ad 0)].toArray s = true := hts _ (by decide +kernel)
  have i_X8 : ∀ w ∈ wsX80, w ∈ wsX8_coal := fun w hw => List.mem_cons_of_mem _ ((List.mem_append_right _ hw))
  have hl := lv_entry ([.ref (ad 0)]) (n := 3) (Nat.le_of_ble_eq_true rfl)
  rw [lg_entry_eq]
  generalize (lg_sl ([.ref (ad 0)]) ++ List.replicate (3 - (lg_sl ([.ref (ad 0)])).length) Slot.unset).toArray = ls at hl ⊢
  have hl : lv_has ls 3 [(0, .ref (ad 0))] := hl
  have h : qOk (kX8_coal M) _ := h
  unfold kX8_coal at h
  refine lv_iconst (v := 0) hx hb dX8_coal_0 (by decide) ?_
  refine lv_istore_n (lv' := [(1, .int 0), (0, .ref (ad 0))]) hx hb dX8_coal_1 rfl hl (by decide) rfl (fun ls hl => ?_)
  refine lv_iconst (v := 0) hx hb dX8_coal_2 (by decide) ?_
  refine lv_istore_n (lv' := [(2, .int 0), (1, .int 0), (0, .ref (ad 0))]) hx hb dX8_coal_3 rfl hl (by decide) rfl (fun ls hl => ?_)
  refine qj1 (G := fun (v3 : Int32) => ∀ ls : Array Slot, lv_has ls 3 [(1, .int v3)] → W p l e (headSpec wsX8_coal rm_X8_coal).room s m [.ref (ad 0)].toArray below meth c s.heap [] 0 0 (MQ below (vp_Si P) [.ref (ad 0)].toArray s 0 0 (fun _ => False)) (F0 m 28 ls [])) h ?_ ?_
  rotate_left
  · intro h
    refine qloop2 (I := fun (v1 : Int32) (v2 : Int32) => ∀ ls : Array Slot, lv_has ls 3 [(0, .ref (ad 0)), (1, .int v1), (2, .int v2)] → W p l e (headSpec wsX8_coal rm_X8_coal).room s m [.ref (ad 0)].toArray below meth c s.heap [] 0 0 (MQ below (vp_Si P) [.ref (ad 0)].toArray s 0 0 (fun _ => False)) (F0 m 4 ls [])) ?_ h _ (lv_sub hl [2, 1, 0] rfl)
    intro v1 v2 h ls hl
    have h : qOk (kX8_coal_L4 M v1 v2) _ := h
    unfold kX8_coal_L4 at h
    refine lv_iload_n hx hb dX8_coal_4 rfl (lv_at hl 2 rfl) ?_
    refine lv_bipush (v := 10) hx hb dX8_coal_5 (by decide) ?_
    refine lv_icmp_ge (tgt := 28) hx hb dX8_coal_7 (by decide) (fun hc => ?_) (fun hc => ?_)
    · have h := qOk.t hc h
      exact qOk.le h _ (lv_sub hl [1] rfl)
    · have h := qOk.f hc h
      refine lv_iload_n hx hb dX8_coal_10 rfl (lv_at hl 1 rfl) ?_
      refine lv_aload_n hx hb dX8_coal_11 rfl (lv_at hl 0 rfl) ?_
      refine y_get hx hb hts i_X8 hown hK hH qOb_8 rfl 1 (by decide) f13 rfl dX8_coal_12 ?_
      refine lv_bipush (v := 24) hx hb dX8_coal_15 (by decide) ?_
      refine lv_iload_n hx hb dX8_coal_17 rfl (lv_at hl 2 rfl) ?_
      refine lv_iadd hx hb dX8_coal_18 ?_
      refine y_iald hx hb hK hH qMr_2 h dX8_coal_19 (fun v4 h => ?_)
      refine lv_iadd hx hb dX8_coal_20 ?_
      refine lv_topi (fun v5 ev5 => ?_)
      have h := qOk.v h ev5
      refine lv_istore_n (lv' := [(1, .int v5), (0, .ref (ad 0)), (2, .int v2)]) hx hb dX8_coal_21 rfl hl (by decide) rfl (fun ls hl => ?_)
      obtain ⟨v6, ev6⟩ : ∃ y : Int32, y = v2 + 1 := ⟨_, rfl⟩
      have h := qOk.v h ev6
      refine lv_iinc (v := v6) (lv' := [(2, .int v6), (1, .int v5), (0, .ref (ad 0))]) hx hb dX8_coal_22 hl (k := 2) rfl (by rw [ev6]; rfl) (by decide) rfl (fun ls hl => ?_)
      refine lv_goto (tgt := 4) hx hb dX8_coal_25 (by decide) ?_
      exact qOk.li h _ (lv_sub hl [2, 1, 0] rfl)
  intro v3 h ls hl
  refine lv_iload_n hx hb dX8_coal_28 rfl (lv_at hl 0 rfl) ?_
  exact W.iret hx hb hr (fun t ht _ => ⟨_, rfl, qOk.s h, ht⟩) (fun _ hq => by cases hq) dX8_coal_29
abbrev rm_X8_then : Room := { frames := 8, cells := 0, slots := 0, locals := 181 }
set_option maxHeartbeats 4000000 in
set_option maxRecDepth 100000 in
theorem c_X8_then (l : Launch) (G : qG) (ad : Nat → Nat) (hI : qI W2N ad) (M : qM) (sz : Nat) (x1 : Int32) {P : Int32 → qM → Prop} (h : qOk2 (kX8_then M x1) P) : Met l yX8_then wsX8_then rm_X8_then (va_Pc [.ref (ad 0), .int x1] (qPre W2N e2 G ad M sz)) (va_Qi P (fun u t => qHp W2N e2 G ad u t.heap) (qA W2N ad sz)) 0 0 (qA W2N ad sz) := by
  refine Met.ofW (cc := cX8_then) (maxL := 2) (ret := (some .int)) (by decide) rfl ?_
  intro p e s m args below meth c s₁ B hml hv
  obtain ⟨rfl, hsz, hK, hP⟩ := hv
  subst hsz
  have hx := B.exec
  have hb := B.bytes
  have hr := B.returns
  have hts := atoms_spec (ws := wsX8_then) B.pre
  have hown : s.vm.findClass RX8 = some m.cls := findClass_of_methodNamed B.named
  have hlocks := B.notSynchronized
  have hH : qHS W2N e2 G ad M s.heap s.heap [] := ⟨hP, va_S.rf⟩
  have f13 : (Cond.fieldLink RX8 13 "SongLampsModel" "now" "[I").before [.ref (ad 0), .int x1].toArray s = true := hts _ (by decide +kernel)
  have i_X8 : ∀ w ∈ wsX80, w ∈ wsX8_then := fun w hw => List.mem_cons_of_mem _ ((List.mem_append_right _ hw))
  have f107 : (Cond.fieldLink RX8 107 "SongLampsModel" "darkWho" "I").before [.ref (ad 0), .int x1].toArray s = true := hts _ (by decide +kernel)
  have f104 : (Cond.fieldLink RX8 104 "SongLampsModel" "darkAt" "I").before [.ref (ad 0), .int x1].toArray s = true := hts _ (by decide +kernel)
  have hl := lv_entry ([.ref (ad 0), .int x1]) (n := 2) (Nat.le_of_ble_eq_true rfl)
  rw [lg_entry_eq]
  generalize (lg_sl ([.ref (ad 0), .int x1]) ++ List.replicate (2 - (lg_sl ([.ref (ad 0), .int x1])).length) Slot.unset).toArray = ls at hl ⊢
  have hl : lv_has ls 2 [(0, .ref (ad 0)), (1, .int x1)] := hl
  have h : qOk (kX8_then M x1) _ := h
  unfold kX8_then at h
  refine lv_iload_n hx hb dX8_then_0 rfl (lv_at hl 1 rfl) ?_
  refine lv_iconst (v := 0) hx hb dX8_then_1 (by decide) ?_
  refine lv_iconst (v := 4) hx hb dX8_then_2 (by decide) ?_
  refine y_cs (va_runS (As := [.int x1, .int 0, .int 4]) (rest := []) ⟨hx, hb, hml, hown, hts⟩ (c_X8_in l x1 0 4 (qOk.b1 h)) (va_cwS 3 hts gX8_then_X8_in rfl rfl rfl (by decide +kernel) ⟨Nat.le_of_ble_eq_true rfl, Nat.le_of_ble_eq_true rfl⟩) ⟨qPrT.blind, qPrT.at⟩ rfl rfl hl.1 rfl (lv_room (Nat.le_of_ble_eq_true rfl)) dX8_then_3 ⟨Nat.zero_le _, Nat.zero_le _⟩) (fun v1 h => ?_)
  refine lv_if_ne (tgt := 12) hx hb dX8_then_6 (by decide) (fun hc => ?_) (fun hc => ?_)
  · have h := qOk.f hc h
    refine lv_aload_n hx hb dX8_then_12 rfl (lv_at hl 0 rfl) ?_
    refine y_ci hH (va_runV (As := []) (rest := []) ⟨hx, hb, hml, hown, hts⟩ (c_X8_barOfShifts l G ad hI M _  (qOk.b2 h)) (cwV 0 hts gX8_then_X8_barOfShifts rfl rfl rfl (by decide +kernel) ⟨Nat.le_of_ble_eq_true rfl, Nat.le_of_ble_eq_true rfl⟩) ⟨qPre.blind, qrecv hK hH qOb_8 rfl, qPre.at hK hH⟩ rfl rfl hl.1 rfl (lv_room (Nat.le_of_ble_eq_true rfl)) dX8_then_13 ⟨Nat.zero_le _, Nat.zero_le _⟩) (fun v3 M2 H locs hH h => ?_)
    refine lv_if_ge (tgt := 22) hx hb dX8_then_16 (by decide) (fun hc => ?_) (fun hc => ?_)
    · have h := qOk.t hc h
      refine lv_iload_n hx hb dX8_then_22 rfl (lv_at hl 1 rfl) ?_
      by_cases c0 : x1 = 0
      · have h := qOk.t c0 h
        refine lv_tableIn (tgt := 48) hx hb dX8_then_23 (by rw [c0]; decide) (by rw [c0]; decide) (by rw [c0]; rfl) (by decide) ?_
        refine lv_aload_n hx hb dX8_then_48 rfl (lv_at hl 0 rfl) ?_
        refine y_cs (va_runV (As := []) (rest := []) ⟨hx, hb, hml, hown, hts⟩ (c_X8_lamps l G ad hI M2 _  (qOk.b1 h)) (cwV 0 hts gX8_then_X8_lamps rfl rfl rfl (by decide +kernel) ⟨Nat.le_of_ble_eq_true rfl, Nat.le_of_ble_eq_true rfl⟩) ⟨qPre.blind, qrecv hK hH qOb_8 rfl, qPre.at hK hH⟩ rfl rfl hl.1 rfl (lv_room (Nat.le_of_ble_eq_true rfl)) dX8_then_49 ⟨Nat.zero_le _, Nat.zero_le _⟩) (fun v4 h => ?_)
        exact W.iret hx hb hr (fun t ht _ => ⟨⟨_, _, rfl, qOk2.s h, qHpt ht hH.1⟩, hH.2.F ht⟩) hH.2.2.2 dX8_then_52
      have h := qOk.f c0 h
      by_cases c1 : x1 = 1
      · have h := qOk.t c1 h
        refine lv_tableIn (tgt := 53) hx hb dX8_then_23 (by rw [c1]; decide) (by rw [c1]; decide) (by rw [c1]; rfl) (by decide) ?_
        refine lv_aload_n hx hb dX8_then_53 rfl (lv_at hl 0 rfl) ?_
        refine y_get hx hb hts i_X8 hown hK hH qOb_8 rfl 1 (by decide) f13 rfl dX8_then_54 ?_
        refine lv_bipush (v := 35) hx hb dX8_then_57 (by decide) ?_
        refine y_iald hx hb hK hH qMr_2 h dX8_then_59 (fun v5 h => ?_)
        exact W.iret hx hb hr (fun t ht _ => ⟨⟨_, _, rfl, qOk2.s h, qHpt ht hH.1⟩, hH.2.F ht⟩) hH.2.2.2 dX8_then_60
      have h := qOk.f c1 h
      by_cases c2 : x1 = 2
      · have h := qOk.t c2 h
        refine lv_tableIn (tgt := 61) hx hb dX8_then_23 (by rw [c2]; decide) (by rw [c2]; decide) (by rw [c2]; rfl) (by decide) ?_
        refine lv_aload_n hx hb dX8_then_61 rfl (lv_at hl 0 rfl) ?_
        refine y_cs (va_runV (As := []) (rest := []) ⟨hx, hb, hml, hown, hts⟩ (c_X8_coal l G ad hI M2 _  (qOk.b1 h)) (cwV 0 hts gX8_then_X8_coal rfl rfl rfl (by decide +kernel) ⟨Nat.le_of_ble_eq_true rfl, Nat.le_of_ble_eq_true rfl⟩) ⟨qPre.blind, qrecv hK hH qOb_8 rfl, qPre.at hK hH⟩ rfl rfl hl.1 rfl (lv_room (Nat.le_of_ble_eq_true rfl)) dX8_then_62 ⟨Nat.zero_le _, Nat.zero_le _⟩) (fun v6 h => ?_)
        exact W.iret hx hb hr (fun t ht _ => ⟨⟨_, _, rfl, qOk2.s h, qHpt ht hH.1⟩, hH.2.F ht⟩) hH.2.2.2 dX8_then_65
      have h := qOk.f c2 h
      have n0 := lv_neT c0 (a := 0) rfl
      have n1 := lv_neT c1 (a := 1) rfl
      have n2 := lv_neT c2 (a := 2) rfl
      refine lv_tableOut (tgt := 66) hx hb dX8_then_23 (by omega) (by decide) ?_
      refine lv_iload_n hx hb dX8_then_66 rfl (lv_at hl 1 rfl) ?_
      refine lv_iconst (v := 3) hx hb dX8_then_67 (by decide) ?_
      refine qj1 (G := fun (v7 : Int32) => W p l e (headSpec wsX8_then rm_X8_then).room s m [.ref (ad 0), .int x1].toArray below meth c H locs 0 0 (MQ below (va_Qi P (fun u t => qHp W2N e2 G ad u t.heap) (qA W2N ad s.heap.size)) [.ref (ad 0), .int x1].toArray s 0 0 (qA W2N ad s.heap.size)) (F0 m 82 ls [.int v7])) h ?_ ?_
      rotate_left
      · intro h
        refine lv_icmp_ne (tgt := 78) hx hb dX8_then_68 (by decide) (fun hc => ?_) (fun hc => ?_)
        · have h := qOk.f hc h
          refine lv_aload_n hx hb dX8_then_78 rfl (lv_at hl 0 rfl) ?_
          refine y_get hx hb hts i_X8 hown hK hH qOb_8 rfl 14 (by decide) f107 rfl dX8_then_79 ?_
          have h := qOk.s h
          exact h
        · have h := qOk.t hc h
          refine lv_aload_n hx hb dX8_then_71 rfl (lv_at hl 0 rfl) ?_
          refine y_get hx hb hts i_X8 hown hK hH qOb_8 rfl 13 (by decide) f104 rfl dX8_then_72 ?_
          refine lv_goto (tgt := 82) hx hb dX8_then_75 (by decide) ?_
          have h := qOk.s h
          exact h
      intro v7 h
      exact W.iret hx hb hr (fun t ht _ => ⟨⟨_, _, rfl, qOk2.s h, qHpt ht hH.1⟩, hH.2.F ht⟩) hH.2.2.2 dX8_then_82
    · have h := qOk.f hc h
      refine lv_bipush (v := (-5)) hx hb dX8_then_19 (by decide) ?_
      exact W.iret hx hb hr (fun t ht _ => ⟨⟨_, _, rfl, qOk2.s h, qHpt ht hH.1⟩, hH.2.F ht⟩) hH.2.2.2 dX8_then_21
  · have h := qOk.t hc h
    refine lv_bipush (v := (-2)) hx hb dX8_then_9 (by decide) ?_
    exact W.iret hx hb hr (fun t ht _ => ⟨⟨_, _, rfl, qOk2.s h, qHpt ht hH.1⟩, hH.2.F ht⟩) hH.2.2.2 dX8_then_11
abbrev rm_X8_light : Room := { frames := 5, cells := 0, slots := 0, locals := 114 }
set_option maxHeartbeats 4000000 in
set_option maxRecDepth 100000 in
theorem c_X8_light (l : Launch) (G : qG) (ad : Nat → Nat) (hI : qI W2N ad) (M : qM) (sz : Nat) (x1 : Int32) {P : Int32 → qM → Prop} (h : qOk2 (kX8_light M x1) P) : Met l yX8_light wsX8_light rm_X8_light (va_Pc [.ref (ad 0), .int x1] (qPre W2N e2 G ad M sz)) (va_Qi P (fun u t => qHp W2N e2 G ad u t.heap) (qA W2N ad sz)) 0 0 (qA W2N ad sz) := by
  refine Met.ofW (cc := cX8_light) (maxL := 2) (ret := (some .int)) (by decide) rfl ?_
  intro p e s m args below meth c s₁ B hml hv
  obtain ⟨rfl, hsz, hK, hP⟩ := hv
  subst hsz
  have hx := B.exec
  have hb := B.bytes
  have hr := B.returns
  have hts := atoms_spec (ws := wsX8_light) B.pre
  have hown : s.vm.findClass RX8 = some m.cls := findClass_of_methodNamed B.named
  have hlocks := B.notSynchronized
  have hH : qHS W2N e2 G ad M s.heap s.heap [] := ⟨hP, va_S.rf⟩
  have hl := lv_entry ([.ref (ad 0), .int x1]) (n := 2) (Nat.le_of_ble_eq_true rfl)
  rw [lg_entry_eq]
  generalize (lg_sl ([.ref (ad 0), .int x1]) ++ List.replicate (2 - (lg_sl ([.ref (ad 0), .int x1])).length) Slot.unset).toArray = ls at hl ⊢
  have hl : lv_has ls 2 [(0, .ref (ad 0)), (1, .int x1)] := hl
  have h : qOk (kX8_light M x1) _ := h
  unfold kX8_light at h
  refine lv_iload_n hx hb dX8_light_0 rfl (lv_at hl 1 rfl) ?_
  refine y_cs (va_runS (As := [.int x1]) (rest := []) ⟨hx, hb, hml, hown, hts⟩ (c_X8_isGallery l x1 (qOk.b1 h)) (va_cwS 1 hts gX8_light_X8_isGallery rfl rfl rfl (by decide +kernel) ⟨Nat.le_of_ble_eq_true rfl, Nat.le_of_ble_eq_true rfl⟩) ⟨qPrT.blind, qPrT.at⟩ rfl rfl hl.1 rfl (lv_room (Nat.le_of_ble_eq_true rfl)) dX8_light_1 ⟨Nat.zero_le _, Nat.zero_le _⟩) (fun v1 h => ?_)
  refine lv_if_ne (tgt := 9) hx hb dX8_light_4 (by decide) (fun hc => ?_) (fun hc => ?_)
  · have h := qOk.f hc h
    refine lv_aload_n hx hb dX8_light_9 rfl (lv_at hl 0 rfl) ?_
    refine y_cv hH (va_runV (As := []) (rest := []) ⟨hx, hb, hml, hown, hts⟩ (c_X8_asNow l G ad hI M _  (qOk.b1 h)) (cwV 0 hts gX8_light_X8_asNow rfl rfl rfl (by decide +kernel) ⟨Nat.le_of_ble_eq_true rfl, Nat.le_of_ble_eq_true rfl⟩) ⟨qPre.blind, qrecv hK hH qOb_8 rfl, qPre.at hK hH⟩ rfl rfl hl.1 rfl (lv_room (Nat.le_of_ble_eq_true rfl)) dX8_light_10 ⟨Nat.zero_le _, Nat.zero_le _⟩) (fun M2 H locs hH h => ?_)
    refine lv_aload_n hx hb dX8_light_13 rfl (lv_at hl 0 rfl) ?_
    refine lv_iload_n hx hb dX8_light_14 rfl (lv_at hl 1 rfl) ?_
    refine y_cs (va_runV (As := [.int x1]) (rest := []) ⟨hx, hb, hml, hown, hts⟩ (c_X8_lightOf l G ad hI M2 _ x1 (qOk.b1 h)) (cwV 1 hts gX8_light_X8_lightOf rfl rfl rfl (by decide +kernel) ⟨Nat.le_of_ble_eq_true rfl, Nat.le_of_ble_eq_true rfl⟩) ⟨qPre.blind, qrecv hK hH qOb_8 rfl, qPre.at hK hH⟩ rfl rfl hl.1 rfl (lv_room (Nat.le_of_ble_eq_true rfl)) dX8_light_15 ⟨Nat.zero_le _, Nat.zero_le _⟩) (fun v3 h => ?_)
    exact W.iret hx hb hr (fun t ht _ => ⟨⟨_, _, rfl, qOk2.s h, qHpt ht hH.1⟩, hH.2.F ht⟩) hH.2.2.2 dX8_light_18
  · have h := qOk.t hc h
    refine lv_iconst (v := (-1)) hx hb dX8_light_7 (by decide) ?_
    exact W.iret hx hb hr (fun t ht _ => ⟨⟨_, _, rfl, qOk2.s h, qHpt ht hH.1⟩, hH.2.F ht⟩) hH.2.2.2 dX8_light_8
