abbrev rm_X1_setPassage : Room := { frames := 0, cells := 0, slots := 0, locals := 0 }
set_option maxHeartbeats 4000000 in
set_option maxRecDepth 100000 in
theorem c_X1_setPassage (l : Launch) (G : qG) (ad : Nat → Nat) (hI : qI W1N ad) (M : qM) (sz : Nat) {b0 : Nat} (w0 : qMi b0) (x1 : Int32) (x2 : Int32) (x3 : Int32) {P : qM → Prop} (h : qOk (kX1_setPassage b0 M x1 x2 x3) P) : Met l yX1_setPassage wsX1_setPassage rm_X1_setPassage (va_Pc [.ref (ad b0), .int x1, .int x2, .int x3] (qPre W1N e1 G ad M sz)) (va_Qv P (fun u t => qHp W1N e1 G ad u t.heap) (qA W1N ad sz)) 0 0 (qA W1N ad sz) := by
  refine Met.ofW (cc := cX1_setPassage) (maxL := 4) (ret := none) (by decide) rfl ?_
  intro p e s m args below meth c s₁ B hml hv
  obtain ⟨rfl, hsz, hK, hP⟩ := hv
  subst hsz
  have hx := B.exec
  have hb := B.bytes
  have hr := B.returns
  have hts := atoms_spec (ws := wsX1_setPassage) B.pre
  have hown : s.vm.findClass RX1 = some m.cls := findClass_of_methodNamed B.named
  have hlocks := B.notSynchronized
  have hH : qHS W1N e1 G ad M s.heap s.heap [] := ⟨hP, va_S.rf⟩
  have f9 : (Cond.fieldLink RX1 9 "SongLamps$Mine" "passages" "[I").before [.ref (ad b0), .int x1, .int x2, .int x3].toArray s = true := hts _ (by decide +kernel)
  have i_X1 : ∀ w ∈ wsX10, w ∈ wsX1_setPassage := fun w hw => List.mem_cons_of_mem _ ((List.mem_append_right _ hw))
  have hl := lv_entry ([.ref (ad b0), .int x1, .int x2, .int x3]) (n := 4) (Nat.le_of_ble_eq_true rfl)
  rw [lg_entry_eq]
  generalize (lg_sl ([.ref (ad b0), .int x1, .int x2, .int x3]) ++ List.replicate (4 - (lg_sl ([.ref (ad b0), .int x1, .int x2, .int x3])).length) Slot.unset).toArray = ls at hl ⊢
  have hl : lv_has ls 4 [(0, .ref (ad b0)), (1, .int x1), (2, .int x2), (3, .int x3)] := hl
  have h : qOk (kX1_setPassage b0 M x1 x2 x3) _ := h
  unfold kX1_setPassage at h
  refine lv_aload_n hx hb dX1_setPassage_0 rfl (lv_at hl 0 rfl) ?_
  refine y_get hx hb hts i_X1 hown hK hH (qMi_ob w0) rfl 0 (by decide) f9 rfl dX1_setPassage_1 ?_
  refine lv_iload_n hx hb dX1_setPassage_4 rfl (lv_at hl 1 rfl) ?_
  refine lv_iload_n hx hb dX1_setPassage_5 rfl (lv_at hl 3 rfl) ?_
  refine qj1 (G := fun (v1 : Int32) => W p l e (headSpec wsX1_setPassage rm_X1_setPassage).room s m [.ref (ad b0), .int x1, .int x2, .int x3].toArray below meth c s.heap [] 0 0 (MQ below (va_Qv P (fun u t => qHp W1N e1 G ad u t.heap) (qA W1N ad s.heap.size)) [.ref (ad b0), .int x1, .int x2, .int x3].toArray s 0 0 (qA W1N ad s.heap.size)) (F0 m 34 ls [.int v1, .int x1, .ref (ad (b0 + 1))])) h ?_ ?_
  rotate_left
  · intro h
    refine lv_if_eq (tgt := 22) hx hb dX1_setPassage_6 (by decide) (fun hc => ?_) (fun hc => ?_)
    · have h := qOk.t hc h
      refine lv_aload_n hx hb dX1_setPassage_22 rfl (lv_at hl 0 rfl) ?_
      refine y_get hx hb hts i_X1 hown hK hH (qMi_ob w0) rfl 0 (by decide) f9 rfl dX1_setPassage_23 ?_
      refine lv_iload_n hx hb dX1_setPassage_26 rfl (lv_at hl 1 rfl) ?_
      refine y_iald hx hb hK hH (qMi_a1 w0) h dX1_setPassage_27 (fun v2 h => ?_)
      refine lv_iconst (v := 1) hx hb dX1_setPassage_28 (by decide) ?_
      refine lv_iload_n hx hb dX1_setPassage_29 rfl (lv_at hl 2 rfl) ?_
      refine lv_ishl hx hb dX1_setPassage_30 ?_
      refine lv_iconst (v := (-1)) hx hb dX1_setPassage_31 (by decide) ?_
      refine lv_ixor hx hb dX1_setPassage_32 ?_
      refine lv_iand hx hb dX1_setPassage_33 ?_
      have h := qOk.s h
      exact h
    · have h := qOk.f hc h
      refine lv_aload_n hx hb dX1_setPassage_9 rfl (lv_at hl 0 rfl) ?_
      refine y_get hx hb hts i_X1 hown hK hH (qMi_ob w0) rfl 0 (by decide) f9 rfl dX1_setPassage_10 ?_
      refine lv_iload_n hx hb dX1_setPassage_13 rfl (lv_at hl 1 rfl) ?_
      refine y_iald hx hb hK hH (qMi_a1 w0) h dX1_setPassage_14 (fun v3 h => ?_)
      refine lv_iconst (v := 1) hx hb dX1_setPassage_15 (by decide) ?_
      refine lv_iload_n hx hb dX1_setPassage_16 rfl (lv_at hl 2 rfl) ?_
      refine lv_ishl hx hb dX1_setPassage_17 ?_
      refine lv_ior hx hb dX1_setPassage_18 ?_
      refine lv_goto (tgt := 34) hx hb dX1_setPassage_19 (by decide) ?_
      have h := qOk.s h
      exact h
  intro v1 h
  refine y_iast hx hb hK hI hH (qMi_a1 w0) h dX1_setPassage_34 (fun M4 H locs hH h => ?_)
  refine lv_aload_n hx hb dX1_setPassage_35 rfl (lv_at hl 0 rfl) ?_
  refine y_get hx hb hts i_X1 hown hK hH (qMi_ob w0) rfl 0 (by decide) f9 rfl dX1_setPassage_36 ?_
  refine lv_iload_n hx hb dX1_setPassage_39 rfl (lv_at hl 2 rfl) ?_
  refine lv_iload_n hx hb dX1_setPassage_40 rfl (lv_at hl 3 rfl) ?_
  refine qj1 (G := fun (v5 : Int32) => W p l e (headSpec wsX1_setPassage rm_X1_setPassage).room s m [.ref (ad b0), .int x1, .int x2, .int x3].toArray below meth c H locs 0 0 (MQ below (va_Qv P (fun u t => qHp W1N e1 G ad u t.heap) (qA W1N ad s.heap.size)) [.ref (ad b0), .int x1, .int x2, .int x3].toArray s 0 0 (qA W1N ad s.heap.size)) (F0 m 69 ls [.int v5, .int x2, .ref (ad (b0 + 1))])) h ?_ ?_
  rotate_left
  · intro h
    refine lv_if_eq (tgt := 57) hx hb dX1_setPassage_41 (by decide) (fun hc => ?_) (fun hc => ?_)
    · have h := qOk.t hc h
      refine lv_aload_n hx hb dX1_setPassage_57 rfl (lv_at hl 0 rfl) ?_
      refine y_get hx hb hts i_X1 hown hK hH (qMi_ob w0) rfl 0 (by decide) f9 rfl dX1_setPassage_58 ?_
      refine lv_iload_n hx hb dX1_setPassage_61 rfl (lv_at hl 2 rfl) ?_
      refine y_iald hx hb hK hH (qMi_a1 w0) h dX1_setPassage_62 (fun v6 h => ?_)
      refine lv_iconst (v := 1) hx hb dX1_setPassage_63 (by decide) ?_
      refine lv_iload_n hx hb dX1_setPassage_64 rfl (lv_at hl 1 rfl) ?_
      refine lv_ishl hx hb dX1_setPassage_65 ?_
      refine lv_iconst (v := (-1)) hx hb dX1_setPassage_66 (by decide) ?_
      refine lv_ixor hx hb dX1_setPassage_67 ?_
      refine lv_iand hx hb dX1_setPassage_68 ?_
      have h := qOk.s h
      exact h
    · have h := qOk.f hc h
      refine lv_aload_n hx hb dX1_setPassage_44 rfl (lv_at hl 0 rfl) ?_
      refine y_get hx hb hts i_X1 hown hK hH (qMi_ob w0) rfl 0 (by decide) f9 rfl dX1_setPassage_45 ?_
      refine lv_iload_n hx hb dX1_setPassage_48 rfl (lv_at hl 2 rfl) ?_
      refine y_iald hx hb hK hH (qMi_a1 w0) h dX1_setPassage_49 (fun v7 h => ?_)
      refine lv_iconst (v := 1) hx hb dX1_setPassage_50 (by decide) ?_
      refine lv_iload_n hx hb dX1_setPassage_51 rfl (lv_at hl 1 rfl) ?_
      refine lv_ishl hx hb dX1_setPassage_52 ?_
      refine lv_ior hx hb dX1_setPassage_53 ?_
      refine lv_goto (tgt := 69) hx hb dX1_setPassage_54 (by decide) ?_
      have h := qOk.s h
      exact h
  intro v5 h
  refine y_iast hx hb hK hI hH (qMi_a1 w0) h dX1_setPassage_69 (fun M8 H locs hH h => ?_)
  exact W.vret hx hb hr (fun t ht _ => ⟨⟨_, rfl, qOk.s h, qHpt ht hH.1⟩, hH.2.F ht⟩) hH.2.2.2 dX1_setPassage_70
abbrev rm_J6_bitCount_0f7a4 : Room := { frames := 0, cells := 0, slots := 0, locals := 0 }
set_option maxHeartbeats 4000000 in
set_option maxRecDepth 100000 in
theorem c_J6_bitCount_0f7a4 (l : Launch) (x0 : Int32) {P : Int32 → Prop} (h : qOk (kJ6_bitCount_0f7a4 x0) P) : Met l yJ6_bitCount_0f7a4 wsJ6_bitCount_0f7a4 rm_J6_bitCount_0f7a4 (va_Pc [.int x0] (fun _ => True)) (vp_Si P) 0 0 (fun _ => False) := by
  refine Met.ofW (cc := cJ6_bitCount_0f7a4) (maxL := 1) (ret := (some .int)) (by decide) rfl ?_
  intro p e s m args below meth c s₁ B hml hv
  obtain ⟨rfl, -⟩ := hv
  have hx := B.exec
  have hb := B.bytes
  have hr := B.returns
  have hts := atoms_spec (ws := wsJ6_bitCount_0f7a4) B.pre
  have hown : s.vm.findClass RJ6 = some m.cls := findClass_of_methodNamed B.named
  have hlocks := B.notSynchronized
  have q265 : (Cond.constant RJ6 265 (1431655765)).before [.int x0].toArray s = true := hts _ (by decide +kernel)
  have q266 : (Cond.constant RJ6 266 (858993459)).before [.int x0].toArray s = true := hts _ (by decide +kernel)
  have q267 : (Cond.constant RJ6 267 (252645135)).before [.int x0].toArray s = true := hts _ (by decide +kernel)
  have hl := lv_entry ([.int x0]) (n := 1) (Nat.le_of_ble_eq_true rfl)
  rw [lg_entry_eq]
  generalize (lg_sl ([.int x0]) ++ List.replicate (1 - (lg_sl ([.int x0])).length) Slot.unset).toArray = ls at hl ⊢
  have hl : lv_has ls 1 [(0, .int x0)] := hl
  have h : qOk (kJ6_bitCount_0f7a4 x0) _ := h
  unfold kJ6_bitCount_0f7a4 at h
  refine lv_iload_n hx hb dJ6_bitCount_0f7a4_0 rfl (lv_at hl 0 rfl) ?_
  refine lv_iload_n hx hb dJ6_bitCount_0f7a4_1 rfl (lv_at hl 0 rfl) ?_
  refine lv_iconst (v := 1) hx hb dJ6_bitCount_0f7a4_2 (by decide) ?_
  refine lv_iushr (v := ((x0 : Int32).toUInt32 >>> ((1 : Int32).toUInt32 &&& Int32.toUInt32 31)).toInt32) hx hb dJ6_bitCount_0f7a4_3 rfl ?_
  refine lv_ldcw (v := 1431655765) hx hb hown q265 dJ6_bitCount_0f7a4_4 ?_
  refine lv_iand hx hb dJ6_bitCount_0f7a4_7 ?_
  refine lv_isub hx hb dJ6_bitCount_0f7a4_8 ?_
  refine lv_topi (fun v1 ev1 => ?_)
  have h := qOk.v h ev1
  refine lv_istore_n (lv' := [(0, .int v1)]) hx hb dJ6_bitCount_0f7a4_9 rfl hl (by decide) rfl (fun ls hl => ?_)
  refine lv_iload_n hx hb dJ6_bitCount_0f7a4_10 rfl (lv_at hl 0 rfl) ?_
  refine lv_ldcw (v := 858993459) hx hb hown q266 dJ6_bitCount_0f7a4_11 ?_
  refine lv_iand hx hb dJ6_bitCount_0f7a4_14 ?_
  refine lv_iload_n hx hb dJ6_bitCount_0f7a4_15 rfl (lv_at hl 0 rfl) ?_
  refine lv_iconst (v := 2) hx hb dJ6_bitCount_0f7a4_16 (by decide) ?_
  refine lv_iushr (v := ((v1 : Int32).toUInt32 >>> ((2 : Int32).toUInt32 &&& Int32.toUInt32 31)).toInt32) hx hb dJ6_bitCount_0f7a4_17 rfl ?_
  refine lv_ldcw (v := 858993459) hx hb hown q266 dJ6_bitCount_0f7a4_18 ?_
  refine lv_iand hx hb dJ6_bitCount_0f7a4_21 ?_
  refine lv_iadd hx hb dJ6_bitCount_0f7a4_22 ?_
  refine lv_topi (fun v2 ev2 => ?_)
  have h := qOk.v h ev2
  refine lv_istore_n (lv' := [(0, .int v2)]) hx hb dJ6_bitCount_0f7a4_23 rfl hl (by decide) rfl (fun ls hl => ?_)
  refine lv_iload_n hx hb dJ6_bitCount_0f7a4_24 rfl (lv_at hl 0 rfl) ?_
  refine lv_iload_n hx hb dJ6_bitCount_0f7a4_25 rfl (lv_at hl 0 rfl) ?_
  refine lv_iconst (v := 4) hx hb dJ6_bitCount_0f7a4_26 (by decide) ?_
  refine lv_iushr (v := ((v2 : Int32).toUInt32 >>> ((4 : Int32).toUInt32 &&& Int32.toUInt32 31)).toInt32) hx hb dJ6_bitCount_0f7a4_27 rfl ?_
  refine lv_iadd hx hb dJ6_bitCount_0f7a4_28 ?_
  refine lv_ldcw (v := 252645135) hx hb hown q267 dJ6_bitCount_0f7a4_29 ?_
  refine lv_iand hx hb dJ6_bitCount_0f7a4_32 ?_
  refine lv_topi (fun v3 ev3 => ?_)
  have h := qOk.v h ev3
  refine lv_istore_n (lv' := [(0, .int v3)]) hx hb dJ6_bitCount_0f7a4_33 rfl hl (by decide) rfl (fun ls hl => ?_)
  refine lv_iload_n hx hb dJ6_bitCount_0f7a4_34 rfl (lv_at hl 0 rfl) ?_
  refine lv_iload_n hx hb dJ6_bitCount_0f7a4_35 rfl (lv_at hl 0 rfl) ?_
  refine lv_bipush (v := 8) hx hb dJ6_bitCount_0f7a4_36 (by decide) ?_
  refine lv_iushr (v := ((v3 : Int32).toUInt32 >>> ((8 : Int32).toUInt32 &&& Int32.toUInt32 31)).toInt32) hx hb dJ6_bitCount_0f7a4_38 rfl ?_
  refine lv_iadd hx hb dJ6_bitCount_0f7a4_39 ?_
  refine lv_topi (fun v4 ev4 => ?_)
  have h := qOk.v h ev4
  refine lv_istore_n (lv' := [(0, .int v4)]) hx hb dJ6_bitCount_0f7a4_40 rfl hl (by decide) rfl (fun ls hl => ?_)
  refine lv_iload_n hx hb dJ6_bitCount_0f7a4_41 rfl (lv_at hl 0 rfl) ?_
  refine lv_iload_n hx hb dJ6_bitCount_0f7a4_42 rfl (lv_at hl 0 rfl) ?_
  refine lv_bipush (v := 16) hx hb dJ6_bitCount_0f7a4_43 (by decide) ?_
  refine lv_iushr (v := ((v4 : Int32).toUInt32 >>> ((16 : Int32).toUInt32 &&& Int32.toUInt32 31)).toInt32) hx hb dJ6_bitCount_0f7a4_45 rfl ?_
  refine lv_iadd hx hb dJ6_bitCount_0f7a4_46 ?_
  refine lv_topi (fun v5 ev5 => ?_)
  have h := qOk.v h ev5
  refine lv_istore_n (lv' := [(0, .int v5)]) hx hb dJ6_bitCount_0f7a4_47 rfl hl (by decide) rfl (fun ls hl => ?_)
  refine lv_iload_n hx hb dJ6_bitCount_0f7a4_48 rfl (lv_at hl 0 rfl) ?_
  refine lv_bipush (v := 63) hx hb dJ6_bitCount_0f7a4_49 (by decide) ?_
  refine lv_iand hx hb dJ6_bitCount_0f7a4_51 ?_
  exact W.iret hx hb hr (fun t ht _ => ⟨_, rfl, qOk.s h, ht⟩) (fun _ hq => by cases hq) dJ6_bitCount_0f7a4_52
abbrev rm_X1_passageCount : Room := { frames := 1, cells := 0, slots := 0, locals := 20 }
set_option maxHeartbeats 4000000 in
set_option maxRecDepth 100000 in
theorem c_X1_passageCount (l : Launch) (G : qG) (ad : Nat → Nat) (hI : qI W1N ad) (M : qM) (sz : Nat) {b0 : Nat} (w0 : qMi b0) {P : Int32 → Prop} (h : qOk (kX1_passageCount b0 M) P) : Met l yX1_passageCount wsX1_passageCount rm_X1_passageCount (va_Pc [.ref (ad b0)] (qPre W1N e1 G ad M sz)) (vp_Si P) 0 0 (fun _ => False) := by
  refine Met.ofW (cc := cX1_passageCount) (maxL := 3) (ret := (some .int)) (by decide) rfl ?_
  intro p e s m args below meth c s₁ B hml hv
  obtain ⟨rfl, hsz, hK, hP⟩ := hv
  subst hsz
  have hx := B.exec
  have hb := B.bytes
  have hr := B.returns
  have hts := atoms_spec (ws := wsX1_passageCount) B.pre
  have hown : s.vm.findClass RX1 = some m.cls := findClass_of_methodNamed B.named
  have hlocks := B.notSynchronized
  have hH : qHS W1N e1 G ad M s.heap s.heap [] := ⟨hP, va_S.rf⟩
  have f9 : (Cond.fieldLink RX1 9 "SongLamps$Mine" "passages" "[I").before [.ref (ad b0)].toArray s = true := hts _ (by decide +kernel)
  have i_X1 : ∀ w ∈ wsX10, w ∈ wsX1_passageCount := fun w hw => List.mem_cons_of_mem _ ((List.mem_append_right _ hw))
  have hl := lv_entry ([.ref (ad b0)]) (n := 3) (Nat.le_of_ble_eq_true rfl)
  rw [lg_entry_eq]
  generalize (lg_sl ([.ref (ad b0)]) ++ List.replicate (3 - (lg_sl ([.ref (ad b0)])).length) Slot.unset).toArray = ls at hl ⊢
  have hl : lv_has ls 3 [(0, .ref (ad b0))] := hl
  have h : qOk (kX1_passageCount b0 M) _ := h
  unfold kX1_passageCount at h
  refine lv_iconst (v := 0) hx hb dX1_passageCount_0 (by decide) ?_
  refine lv_istore_n (lv' := [(1, .int 0), (0, .ref (ad b0))]) hx hb dX1_passageCount_1 rfl hl (by decide) rfl (fun ls hl => ?_)
  refine lv_iconst (v := 0) hx hb dX1_passageCount_2 (by decide) ?_
  refine lv_istore_n (lv' := [(2, .int 0), (1, .int 0), (0, .ref (ad b0))]) hx hb dX1_passageCount_3 rfl hl (by decide) rfl (fun ls hl => ?_)
  refine qj1 (G := fun (v3 : Int32) => ∀ ls : Array Slot, lv_has ls 3 [(1, .int v3)] → W p l e (headSpec wsX1_passageCount rm_X1_passageCount).room s m [.ref (ad b0)].toArray below meth c s.heap [] 0 0 (MQ below (vp_Si P) [.ref (ad b0)].toArray s 0 0 (fun _ => False)) (F0 m 28 ls [])) h ?_ ?_
  rotate_left
  · intro h
    refine qloop2 (I := fun (v1 : Int32) (v2 : Int32) => ∀ ls : Array Slot, lv_has ls 3 [(0, .ref (ad b0)), (1, .int v1), (2, .int v2)] → W p l e (headSpec wsX1_passageCount rm_X1_passageCount).room s m [.ref (ad b0)].toArray below meth c s.heap [] 0 0 (MQ below (vp_Si P) [.ref (ad b0)].toArray s 0 0 (fun _ => False)) (F0 m 4 ls [])) ?_ h _ (lv_sub hl [2, 1, 0] rfl)
    intro v1 v2 h ls hl
    have h : qOk (kX1_passageCount_L4 M b0 v1 v2) _ := h
    unfold kX1_passageCount_L4 at h
    refine lv_iload_n hx hb dX1_passageCount_4 rfl (lv_at hl 2 rfl) ?_
    refine lv_bipush (v := 10) hx hb dX1_passageCount_5 (by decide) ?_
    refine lv_icmp_ge (tgt := 28) hx hb dX1_passageCount_7 (by decide) (fun hc => ?_) (fun hc => ?_)
    · have h := qOk.t hc h
      exact qOk.le h _ (lv_sub hl [1] rfl)
    · have h := qOk.f hc h
      refine lv_iload_n hx hb dX1_passageCount_10 rfl (lv_at hl 1 rfl) ?_
      refine lv_aload_n hx hb dX1_passageCount_11 rfl (lv_at hl 0 rfl) ?_
      refine y_get hx hb hts i_X1 hown hK hH (qMi_ob w0) rfl 0 (by decide) f9 rfl dX1_passageCount_12 ?_
      refine lv_iload_n hx hb dX1_passageCount_15 rfl (lv_at hl 2 rfl) ?_
      refine y_iald hx hb hK hH (qMi_a1 w0) h dX1_passageCount_16 (fun v4 h => ?_)
      refine y_cs (va_runS (As := [.int v4]) (rest := [.int v1]) ⟨hx, hb, hml, hown, hts⟩ (c_J6_bitCount_0f7a4 l v4 (qOk.b1 h)) (va_cwS 1 hts gX1_passageCount_J6_bitCount_0f7a4 rfl rfl rfl (by decide +kernel) ⟨Nat.le_of_ble_eq_true rfl, Nat.le_of_ble_eq_true rfl⟩) ⟨qPrT.blind, qPrT.at⟩ rfl rfl hl.1 rfl (lv_room (Nat.le_of_ble_eq_true rfl)) dX1_passageCount_17 ⟨Nat.zero_le _, Nat.zero_le _⟩) (fun v5 h => ?_)
      refine lv_iadd hx hb dX1_passageCount_20 ?_
      refine lv_topi (fun v6 ev6 => ?_)
      have h := qOk.v h ev6
      refine lv_istore_n (lv' := [(1, .int v6), (0, .ref (ad b0)), (2, .int v2)]) hx hb dX1_passageCount_21 rfl hl (by decide) rfl (fun ls hl => ?_)
      obtain ⟨v7, ev7⟩ : ∃ y : Int32, y = v2 + 1 := ⟨_, rfl⟩
      have h := qOk.v h ev7
      refine lv_iinc (v := v7) (lv' := [(2, .int v7), (1, .int v6), (0, .ref (ad b0))]) hx hb dX1_passageCount_22 hl (k := 2) rfl (by rw [ev7]; rfl) (by decide) rfl (fun ls hl => ?_)
      refine lv_goto (tgt := 4) hx hb dX1_passageCount_25 (by decide) ?_
      exact qOk.li h _ (lv_sub hl [2, 1, 0] rfl)
  intro v3 h ls hl
  refine lv_iload_n hx hb dX1_passageCount_28 rfl (lv_at hl 0 rfl) ?_
  refine lv_iconst (v := 2) hx hb dX1_passageCount_29 (by decide) ?_
  refine lv_idiv hx hb dX1_passageCount_30 (by decide) ?_
  exact W.iret hx hb hr (fun t ht _ => ⟨_, rfl, qOk.s h, ht⟩) (fun _ hq => by cases hq) dX1_passageCount_31
abbrev rm_X1_coalInAll : Room := { frames := 0, cells := 0, slots := 0, locals := 0 }
set_option maxHeartbeats 4000000 in
set_option maxRecDepth 100000 in
theorem c_X1_coalInAll (l : Launch) (G : qG) (ad : Nat → Nat) (hI : qI W1N ad) (M : qM) (sz : Nat) {b0 : Nat} (w0 : qMi b0) {P : Int32 → Prop} (h : qOk (kX1_coalInAll b0 M) P) : Met l yX1_coalInAll wsX1_coalInAll rm_X1_coalInAll (va_Pc [.ref (ad b0)] (qPre W1N e1 G ad M sz)) (vp_Si P) 0 0 (fun _ => False) := by
  refine Met.ofW (cc := cX1_coalInAll) (maxL := 3) (ret := (some .int)) (by decide) rfl ?_
  intro p e s m args below meth c s₁ B hml hv
  obtain ⟨rfl, hsz, hK, hP⟩ := hv
  subst hsz
  have hx := B.exec
  have hb := B.bytes
  have hr := B.returns
  have hts := atoms_spec (ws := wsX1_coalInAll) B.pre
  have hown : s.vm.findClass RX1 = some m.cls := findClass_of_methodNamed B.named
  have hlocks := B.notSynchronized
  have hH : qHS W1N e1 G ad M s.heap s.heap [] := ⟨hP, va_S.rf⟩
  have f18 : (Cond.fieldLink RX1 18 "SongLamps$Mine" "coal" "[I").before [.ref (ad b0)].toArray s = true := hts _ (by decide +kernel)
  have i_X1 : ∀ w ∈ wsX10, w ∈ wsX1_coalInAll := fun w hw => List.mem_cons_of_mem _ ((List.mem_append_right _ hw))
  have hl := lv_entry ([.ref (ad b0)]) (n := 3) (Nat.le_of_ble_eq_true rfl)
  rw [lg_entry_eq]
  generalize (lg_sl ([.ref (ad b0)]) ++ List.replicate (3 - (lg_sl ([.ref (ad b0)])).length) Slot.unset).toArray = ls at hl ⊢
  have hl : lv_has ls 3 [(0, .ref (ad b0))] := hl
  have h : qOk (kX1_coalInAll b0 M) _ := h
  unfold kX1_coalInAll at h
  refine lv_iconst (v := 0) hx hb dX1_coalInAll_0 (by decide) ?_
  refine lv_istore_n (lv' := [(1, .int 0), (0, .ref (ad b0))]) hx hb dX1_coalInAll_1 rfl hl (by decide) rfl (fun ls hl => ?_)
  refine lv_iconst (v := 0) hx hb dX1_coalInAll_2 (by decide) ?_
  refine lv_istore_n (lv' := [(2, .int 0), (1, .int 0), (0, .ref (ad b0))]) hx hb dX1_coalInAll_3 rfl hl (by decide) rfl (fun ls hl => ?_)
  refine qj1 (G := fun (v3 : Int32) => ∀ ls : Array Slot, lv_has ls 3 [(1, .int v3)] → W p l e (headSpec wsX1_coalInAll rm_X1_coalInAll).room s m [.ref (ad b0)].toArray below meth c s.heap [] 0 0 (MQ below (vp_Si P) [.ref (ad b0)].toArray s 0 0 (fun _ => False)) (F0 m 25 ls [])) h ?_ ?_
  rotate_left
  · intro h
    refine qloop2 (I := fun (v1 : Int32) (v2 : Int32) => ∀ ls : Array Slot, lv_has ls 3 [(0, .ref (ad b0)), (1, .int v1), (2, .int v2)] → W p l e (headSpec wsX1_coalInAll rm_X1_coalInAll).room s m [.ref (ad b0)].toArray below meth c s.heap [] 0 0 (MQ below (vp_Si P) [.ref (ad b0)].toArray s 0 0 (fun _ => False)) (F0 m 4 ls [])) ?_ h _ (lv_sub hl [2, 1, 0] rfl)
    intro v1 v2 h ls hl
    have h : qOk (kX1_coalInAll_L4 M b0 v1 v2) _ := h
    unfold kX1_coalInAll_L4 at h
    refine lv_iload_n hx hb dX1_coalInAll_4 rfl (lv_at hl 2 rfl) ?_
    refine lv_bipush (v := 10) hx hb dX1_coalInAll_5 (by decide) ?_
    refine lv_icmp_ge (tgt := 25) hx hb dX1_coalInAll_7 (by decide) (fun hc => ?_) (fun hc => ?_)
    · have h := qOk.t hc h
      exact qOk.le h _ (lv_sub hl [1] rfl)
    · have h := qOk.f hc h
      refine lv_iload_n hx hb dX1_coalInAll_10 rfl (lv_at hl 1 rfl) ?_
      refine lv_aload_n hx hb dX1_coalInAll_11 rfl (lv_at hl 0 rfl) ?_
      refine y_get hx hb hts i_X1 hown hK hH (qMi_ob w0) rfl 2 (by decide) f18 rfl dX1_coalInAll_12 ?_
      refine lv_iload_n hx hb dX1_coalInAll_15 rfl (lv_at hl 2 rfl) ?_
      refine y_iald hx hb hK hH (qMi_a3 w0) h dX1_coalInAll_16 (fun v4 h => ?_)
      refine lv_iadd hx hb dX1_coalInAll_17 ?_
      refine lv_topi (fun v5 ev5 => ?_)
      have h := qOk.v h ev5
      refine lv_istore_n (lv' := [(1, .int v5), (0, .ref (ad b0)), (2, .int v2)]) hx hb dX1_coalInAll_18 rfl hl (by decide) rfl (fun ls hl => ?_)
      obtain ⟨v6, ev6⟩ : ∃ y : Int32, y = v2 + 1 := ⟨_, rfl⟩
      have h := qOk.v h ev6
      refine lv_iinc (v := v6) (lv' := [(2, .int v6), (1, .int v5), (0, .ref (ad b0))]) hx hb dX1_coalInAll_19 hl (k := 2) rfl (by rw [ev6]; rfl) (by decide) rfl (fun ls hl => ?_)
      refine lv_goto (tgt := 4) hx hb dX1_coalInAll_22 (by decide) ?_
      exact qOk.li h _ (lv_sub hl [2, 1, 0] rfl)
  intro v3 h ls hl
  refine lv_iload_n hx hb dX1_coalInAll_25 rfl (lv_at hl 0 rfl) ?_
  exact W.iret hx hb hr (fun t ht _ => ⟨_, rfl, qOk.s h, ht⟩) (fun _ hq => by cases hq) dX1_coalInAll_26
abbrev rm_X7_isVoice : Room := { frames := 0, cells := 0, slots := 0, locals := 0 }
set_option maxHeartbeats 4000000 in
set_option maxRecDepth 100000 in
theorem c_X7_isVoice (l : Launch) (x0 : Int32) {P : Int32 → Prop} (h : qOk (kX7_isVoice x0) P) : Met l yX7_isVoice wsX7_isVoice rm_X7_isVoice (va_Pc [.int x0] (fun _ => True)) (vp_Si P) 0 0 (fun _ => False) := by
  refine Met.ofW (cc := cX7_isVoice) (maxL := 1) (ret := (some .boolean)) (by decide) rfl ?_
  intro p e s m args below meth c s₁ B hml hv
  obtain ⟨rfl, -⟩ := hv
  have hx := B.exec
  have hb := B.bytes
  have hr := B.returns
  have hts := atoms_spec (ws := wsX7_isVoice) B.pre
  have hown : s.vm.findClass RX7 = some m.cls := findClass_of_methodNamed B.named
  have hlocks := B.notSynchronized
  have hl := lv_entry ([.int x0]) (n := 1) (Nat.le_of_ble_eq_true rfl)
  rw [lg_entry_eq]
  generalize (lg_sl ([.int x0]) ++ List.replicate (1 - (lg_sl ([.int x0])).length) Slot.unset).toArray = ls at hl ⊢
  have hl : lv_has ls 1 [(0, .int x0)] := hl
  have h : qOk (kX7_isVoice x0) _ := h
  unfold kX7_isVoice at h
  refine lv_iload_n hx hb dX7_isVoice_0 rfl (lv_at hl 0 rfl) ?_
  refine qj1 (G := fun (v1 : Int32) => W p l e (headSpec wsX7_isVoice rm_X7_isVoice).room s m [.int x0].toArray below meth c s.heap [] 0 0 (MQ below (vp_Si P) [.int x0].toArray s 0 0 (fun _ => False)) (F0 m 15 ls [.int v1])) h ?_ ?_
  rotate_left
  · intro h
    refine lv_if_lt (tgt := 14) hx hb dX7_isVoice_1 (by decide) (fun hc => ?_) (fun hc => ?_)
    · have h := qOk.t hc h
      refine lv_iconst (v := 0) hx hb dX7_isVoice_14 (by decide) ?_
      have h := qOk.s h
      exact h
    · have h := qOk.f hc h
      refine lv_iload_n hx hb dX7_isVoice_4 rfl (lv_at hl 0 rfl) ?_
      refine lv_bipush (v := 8) hx hb dX7_isVoice_5 (by decide) ?_
      refine lv_icmp_ge (tgt := 14) hx hb dX7_isVoice_7 (by decide) (fun hc => ?_) (fun hc => ?_)
      · have h := qOk.t hc h
        refine lv_iconst (v := 0) hx hb dX7_isVoice_14 (by decide) ?_
        have h := qOk.s h
        exact h
      · have h := qOk.f hc h
        refine lv_iconst (v := 1) hx hb dX7_isVoice_10 (by decide) ?_
        refine lv_goto (tgt := 15) hx hb dX7_isVoice_11 (by decide) ?_
        have h := qOk.s h
        exact h
  intro v1 h
  obtain ⟨hbn, h⟩ := qOk.bl h
  exact W.zret hx hb hr (qnarb hbn) (fun t ht _ => ⟨_, rfl, qOk.s h, ht⟩) (fun _ hq => by cases hq) dX7_isVoice_15
abbrev rm_X1_isThere : Room := { frames := 1, cells := 0, slots := 0, locals := 21 }
set_option maxHeartbeats 4000000 in
set_option maxRecDepth 100000 in
theorem c_X1_isThere (l : Launch) (G : qG) (ad : Nat → Nat) (hI : qI W1N ad) (M : qM) (sz : Nat) {b0 : Nat} (w0 : qMi b0) (x1 : Int32) {P : Int32 → Prop} (h : qOk (kX1_isThere b0 M x1) P) : Met l yX1_isThere wsX1_isThere rm_X1_isThere (va_Pc [.ref (ad b0), .int x1] (qPre W1N e1 G ad M sz)) (vp_Si P) 0 0 (fun _ => False) := by
  refine Met.ofW (cc := cX1_isThere) (maxL := 2) (ret := (some .boolean)) (by decide) rfl ?_
  intro p e s m args below meth c s₁ B hml hv
  obtain ⟨rfl, hsz, hK, hP⟩ := hv
  subst hsz
  have hx := B.exec
  have hb := B.bytes
  have hr := B.returns
  have hts := atoms_spec (ws := wsX1_isThere) B.pre
  have hown : s.vm.findClass RX1 = some m.cls := findClass_of_methodNamed B.named
  have hlocks := B.notSynchronized
  have hH : qHS W1N e1 G ad M s.heap s.heap [] := ⟨hP, va_S.rf⟩
  have nS_X7_isVoice : (Cond.static yX7_isVoice).before [.ref (ad b0), .int x1].toArray s = true := hts _ (by decide +kernel)
  have nI_X7 : (Cond.initialized RX7).before [.ref (ad b0), .int x1].toArray s = true := hts _ (by decide +kernel)
  have f58 : (Cond.fieldLink RX1 58 "SongLamps$Mine" "there" "I").before [.ref (ad b0), .int x1].toArray s = true := hts _ (by decide +kernel)
  have i_X1 : ∀ w ∈ wsX10, w ∈ wsX1_isThere := fun w hw => List.mem_cons_of_mem _ ((List.mem_append_right _ hw))
  have nS_X7_has : (Cond.static yX7_has).before [.ref (ad b0), .int x1].toArray s = true := hts _ (by decide +kernel)
  have hl := lv_entry ([.ref (ad b0), .int x1]) (n := 2) (Nat.le_of_ble_eq_true rfl)
  rw [lg_entry_eq]
  generalize (lg_sl ([.ref (ad b0), .int x1]) ++ List.replicate (2 - (lg_sl ([.ref (ad b0), .int x1])).length) Slot.unset).toArray = ls at hl ⊢
  have hl : lv_has ls 2 [(0, .ref (ad b0)), (1, .int x1)] := hl
  have h : qOk (kX1_isThere b0 M x1) _ := h
  unfold kX1_isThere at h
  refine lv_iload_n hx hb dX1_isThere_0 rfl (lv_at hl 1 rfl) ?_
  refine y_cs (va_runSN (host := "SongLamps") (As := [.int x1]) (rest := []) ⟨hx, hb, hml, hown, hts⟩ (c_X7_isVoice l x1 (qOk.b1 h)) ⟨va_cnB 1 hts gX1_isThere_X7_isVoice_n79 rfl rfl rfl (hK.2 (RX1, 79, yX7_isVoice, "SongLamps") (List.mem_of_getElem? (i := 0) rfl)) nI_X7 (by decide +kernel) ⟨Nat.le_of_ble_eq_true rfl, Nat.le_of_ble_eq_true rfl⟩, nS_X7_isVoice, trivial⟩ ⟨qPrT.blind, qPrT.at⟩ rfl rfl hl.1 rfl (lv_room (Nat.le_of_ble_eq_true rfl)) dX1_isThere_1 ⟨Nat.zero_le _, Nat.zero_le _⟩) (fun v1 h => ?_)
  refine qj1 (G := fun (v2 : Int32) => W p l e (headSpec wsX1_isThere rm_X1_isThere).room s m [.ref (ad b0), .int x1].toArray below meth c s.heap [] 0 0 (MQ below (vp_Si P) [.ref (ad b0), .int x1].toArray s 0 0 (fun _ => False)) (F0 m 23 ls [.int v2])) h ?_ ?_
  rotate_left
  · intro h
    refine lv_if_eq (tgt := 22) hx hb dX1_isThere_4 (by decide) (fun hc => ?_) (fun hc => ?_)
    · have h := qOk.t hc h
      refine lv_iconst (v := 0) hx hb dX1_isThere_22 (by decide) ?_
      have h := qOk.s h
      exact h
    · have h := qOk.f hc h
      refine lv_aload_n hx hb dX1_isThere_7 rfl (lv_at hl 0 rfl) ?_
      refine y_get hx hb hts i_X1 hown hK hH (qMi_ob w0) rfl 5 (by decide) f58 rfl dX1_isThere_8 ?_
      refine lv_iload_n hx hb dX1_isThere_11 rfl (lv_at hl 1 rfl) ?_
      refine y_cs (va_runSN (host := "SongLamps") (As := [.int (M b0 5), .int x1]) (rest := []) ⟨hx, hb, hml, hown, hts⟩ (c_X7_has l (M b0 5) x1 (qOk.b1 h)) ⟨va_cnB 2 hts gX1_isThere_X7_has_n83 rfl rfl rfl (hK.2 (RX1, 83, yX7_has, "SongLamps") (List.mem_of_getElem? (i := 1) rfl)) nI_X7 (by decide +kernel) ⟨Nat.le_of_ble_eq_true rfl, Nat.le_of_ble_eq_true rfl⟩, nS_X7_has, trivial⟩ ⟨qPrT.blind, qPrT.at⟩ rfl rfl hl.1 rfl (lv_room (Nat.le_of_ble_eq_true rfl)) dX1_isThere_12 ⟨Nat.zero_le _, Nat.zero_le _⟩) (fun v3 h => ?_)
      refine lv_if_eq (tgt := 22) hx hb dX1_isThere_15 (by decide) (fun hc => ?_) (fun hc => ?_)
      · have h := qOk.t hc h
        refine lv_iconst (v := 0) hx hb dX1_isThere_22 (by decide) ?_
        have h := qOk.s h
        exact h
      · have h := qOk.f hc h
        refine lv_iconst (v := 1) hx hb dX1_isThere_18 (by decide) ?_
        refine lv_goto (tgt := 23) hx hb dX1_isThere_19 (by decide) ?_
        have h := qOk.s h
        exact h
  intro v2 h
  obtain ⟨hbn, h⟩ := qOk.bl h
  exact W.zret hx hb hr (qnarb hbn) (fun t ht _ => ⟨_, rfl, qOk.s h, ht⟩) (fun _ hq => by cases hq) dX1_isThere_23
abbrev rm_X1_noteOrNone : Room := { frames := 1, cells := 0, slots := 0, locals := 21 }
set_option maxHeartbeats 4000000 in
set_option maxRecDepth 100000 in
theorem c_X1_noteOrNone (l : Launch) (G : qG) (ad : Nat → Nat) (hI : qI W1N ad) (M : qM) (sz : Nat) {b0 : Nat} (w0 : qMi b0) (x1 : Int32) {P : Int32 → Prop} (h : qOk (kX1_noteOrNone b0 M x1) P) : Met l yX1_noteOrNone wsX1_noteOrNone rm_X1_noteOrNone (va_Pc [.ref (ad b0), .int x1] (qPre W1N e1 G ad M sz)) (vp_Si P) 0 0 (fun _ => False) := by
  refine Met.ofW (cc := cX1_noteOrNone) (maxL := 2) (ret := (some .int)) (by decide) rfl ?_
  intro p e s m args below meth c s₁ B hml hv
  obtain ⟨rfl, hsz, hK, hP⟩ := hv
  subst hsz
  have hx := B.exec
  have hb := B.bytes
  have hr := B.returns
  have hts := atoms_spec (ws := wsX1_noteOrNone) B.pre
  have hown : s.vm.findClass RX1 = some m.cls := findClass_of_methodNamed B.named
  have hlocks := B.notSynchronized
  have hH : qHS W1N e1 G ad M s.heap s.heap [] := ⟨hP, va_S.rf⟩
  have f36 : (Cond.fieldLink RX1 36 "SongLamps$Mine" "note" "[I").before [.ref (ad b0), .int x1].toArray s = true := hts _ (by decide +kernel)
  have i_X1 : ∀ w ∈ wsX10, w ∈ wsX1_noteOrNone := fun w hw => List.mem_cons_of_mem _ ((List.mem_append_right _ hw))
  have hl := lv_entry ([.ref (ad b0), .int x1]) (n := 2) (Nat.le_of_ble_eq_true rfl)
  rw [lg_entry_eq]
  generalize (lg_sl ([.ref (ad b0), .int x1]) ++ List.replicate (2 - (lg_sl ([.ref (ad b0), .int x1])).length) Slot.unset).toArray = ls at hl ⊢
  have hl : lv_has ls 2 [(0, .ref (ad b0)), (1, .int x1)] := hl
  have h : qOk (kX1_noteOrNone b0 M x1) _ := h
  unfold kX1_noteOrNone at h
  refine lv_aload_n hx hb dX1_noteOrNone_0 rfl (lv_at hl 0 rfl) ?_
  refine lv_iload_n hx hb dX1_noteOrNone_1 rfl (lv_at hl 1 rfl) ?_
  refine y_cs (va_runV (As := [.int x1]) (rest := []) ⟨hx, hb, hml, hown, hts⟩ (c_X1_isSinging l G ad hI M _ w0 x1 (qOk.b1 h)) (cwV 1 hts gX1_noteOrNone_X1_isSinging rfl rfl rfl (by decide +kernel) ⟨Nat.le_of_ble_eq_true rfl, Nat.le_of_ble_eq_true rfl⟩) ⟨qPre.blind, qrecv hK hH (qMi_ob w0) rfl, qPre.at hK hH⟩ rfl rfl hl.1 rfl (lv_room (Nat.le_of_ble_eq_true rfl)) dX1_noteOrNone_2 ⟨Nat.zero_le _, Nat.zero_le _⟩) (fun v1 h => ?_)
  refine qj1 (G := fun (v2 : Int32) => W p l e (headSpec wsX1_noteOrNone rm_X1_noteOrNone).room s m [.ref (ad b0), .int x1].toArray below meth c s.heap [] 0 0 (MQ below (vp_Si P) [.ref (ad b0), .int x1].toArray s 0 0 (fun _ => False)) (F0 m 19 ls [.int v2])) h ?_ ?_
  rotate_left
  · intro h
    refine lv_if_eq (tgt := 17) hx hb dX1_noteOrNone_5 (by decide) (fun hc => ?_) (fun hc => ?_)
    · have h := qOk.t hc h
      refine lv_bipush (v := (-6)) hx hb dX1_noteOrNone_17 (by decide) ?_
      have h := qOk.s h
      exact h
    · have h := qOk.f hc h
      refine lv_aload_n hx hb dX1_noteOrNone_8 rfl (lv_at hl 0 rfl) ?_
      refine y_get hx hb hts i_X1 hown hK hH (qMi_ob w0) rfl 13 (by decide) f36 rfl dX1_noteOrNone_9 ?_
      refine lv_iload_n hx hb dX1_noteOrNone_12 rfl (lv_at hl 1 rfl) ?_
      refine y_iald hx hb hK hH (qMi_a9 w0) h dX1_noteOrNone_13 (fun v3 h => ?_)
      refine lv_goto (tgt := 19) hx hb dX1_noteOrNone_14 (by decide) ?_
      have h := qOk.s h
      exact h
  intro v2 h
  exact W.iret hx hb hr (fun t ht _ => ⟨_, rfl, qOk.s h, ht⟩) (fun _ hq => by cases hq) dX1_noteOrNone_19
abbrev rm_X1_singing : Room := { frames := 1, cells := 0, slots := 0, locals := 21 }
set_option maxHeartbeats 4000000 in
set_option maxRecDepth 100000 in
theorem c_X1_singing (l : Launch) (G : qG) (ad : Nat → Nat) (hI : qI W1N ad) (M : qM) (sz : Nat) {b0 : Nat} (w0 : qMi b0) {P : Int32 → Prop} (h : qOk (kX1_singing b0 M) P) : Met l yX1_singing wsX1_singing rm_X1_singing (va_Pc [.ref (ad b0)] (qPre W1N e1 G ad M sz)) (vp_Si P) 0 0 (fun _ => False) := by
  refine Met.ofW (cc := cX1_singing) (maxL := 3) (ret := (some .int)) (by decide) rfl ?_
  intro p e s m args below meth c s₁ B hml hv
  obtain ⟨rfl, hsz, hK, hP⟩ := hv
  subst hsz
  have hx := B.exec
  have hb := B.bytes
  have hr := B.returns
  have hts := atoms_spec (ws := wsX1_singing) B.pre
  have hown : s.vm.findClass RX1 = some m.cls := findClass_of_methodNamed B.named
  have hlocks := B.notSynchronized
  have hH : qHS W1N e1 G ad M s.heap s.heap [] := ⟨hP, va_S.rf⟩
  have hl := lv_entry ([.ref (ad b0)]) (n := 3) (Nat.le_of_ble_eq_true rfl)
  rw [lg_entry_eq]
  generalize (lg_sl ([.ref (ad b0)]) ++ List.replicate (3 - (lg_sl ([.ref (ad b0)])).length) Slot.unset).toArray = ls at hl ⊢
  have hl : lv_has ls 3 [(0, .ref (ad b0))] := hl
  have h : qOk (kX1_singing b0 M) _ := h
  unfold kX1_singing at h
  refine lv_iconst (v := 0) hx hb dX1_singing_0 (by decide) ?_
  refine lv_istore_n (lv' := [(1, .int 0), (0, .ref (ad b0))]) hx hb dX1_singing_1 rfl hl (by decide) rfl (fun ls hl => ?_)
  refine lv_iconst (v := 0) hx hb dX1_singing_2 (by decide) ?_
  refine lv_istore_n (lv' := [(2, .int 0), (1, .int 0), (0, .ref (ad b0))]) hx hb dX1_singing_3 rfl hl (by decide) rfl (fun ls hl => ?_)
  refine qj1 (G := fun (v3 : Int32) => ∀ ls : Array Slot, lv_has ls 3 [(1, .int v3)] → W p l e (headSpec wsX1_singing rm_X1_singing).room s m [.ref (ad b0)].toArray below meth c s.heap [] 0 0 (MQ below (vp_Si P) [.ref (ad b0)].toArray s 0 0 (fun _ => False)) (F0 m 30 ls [])) h ?_ ?_
  rotate_left
  · intro h
    refine qloop2 (I := fun (v1 : Int32) (v2 : Int32) => ∀ ls : Array Slot, lv_has ls 3 [(0, .ref (ad b0)), (1, .int v1), (2, .int v2)] → W p l e (headSpec wsX1_singing rm_X1_singing).room s m [.ref (ad b0)].toArray below meth c s.heap [] 0 0 (MQ below (vp_Si P) [.ref (ad b0)].toArray s 0 0 (fun _ => False)) (F0 m 4 ls [])) ?_ h _ (lv_sub hl [2, 1, 0] rfl)
    intro v1 v2 h ls hl
    have h : qOk (kX1_singing_L4 b0 M v1 v2) _ := h
    unfold kX1_singing_L4 at h
    refine lv_iload_n hx hb dX1_singing_4 rfl (lv_at hl 2 rfl) ?_
    refine lv_bipush (v := 8) hx hb dX1_singing_5 (by decide) ?_
    refine lv_icmp_ge (tgt := 30) hx hb dX1_singing_7 (by decide) (fun hc => ?_) (fun hc => ?_)
    · have h := qOk.t hc h
      exact qOk.le h _ (lv_sub hl [1] rfl)
    · have h := qOk.f hc h
      refine lv_aload_n hx hb dX1_singing_10 rfl (lv_at hl 0 rfl) ?_
      refine lv_iload_n hx hb dX1_singing_11 rfl (lv_at hl 2 rfl) ?_
      refine y_cs (va_runV (As := [.int v2]) (rest := []) ⟨hx, hb, hml, hown, hts⟩ (c_X1_isSinging l G ad hI M _ w0 v2 (qOk.b1 h)) (cwV 1 hts gX1_singing_X1_isSinging rfl rfl rfl (by decide +kernel) ⟨Nat.le_of_ble_eq_true rfl, Nat.le_of_ble_eq_true rfl⟩) ⟨qPre.blind, qrecv hK hH (qMi_ob w0) rfl, qPre.at hK hH⟩ rfl rfl hl.1 rfl (lv_room (Nat.le_of_ble_eq_true rfl)) dX1_singing_12 ⟨Nat.zero_le _, Nat.zero_le _⟩) (fun v4 h => ?_)
      refine qj1 (G := fun (v5 : Int32) => ∀ ls : Array Slot, lv_has ls 3 [(0, .ref (ad b0)), (1, .int v5), (2, .int v2)] → W p l e (headSpec wsX1_singing rm_X1_singing).room s m [.ref (ad b0)].toArray below meth c s.heap [] 0 0 (MQ below (vp_Si P) [.ref (ad b0)].toArray s 0 0 (fun _ => False)) (F0 m 24 ls [])) h ?_ ?_
      rotate_left
      · intro h
        refine lv_if_eq (tgt := 24) hx hb dX1_singing_15 (by decide) (fun hc => ?_) (fun hc => ?_)
        · have h := qOk.t hc h
          have h := qOk.s h
          exact h _ (lv_sub hl [0, 1, 2] rfl)
        · have h := qOk.f hc h
          refine lv_iload_n hx hb dX1_singing_18 rfl (lv_at hl 1 rfl) ?_
          refine lv_iconst (v := 1) hx hb dX1_singing_19 (by decide) ?_
          refine lv_iload_n hx hb dX1_singing_20 rfl (lv_at hl 2 rfl) ?_
          refine lv_ishl hx hb dX1_singing_21 ?_
          refine lv_ior hx hb dX1_singing_22 ?_
          refine lv_topi (fun v6 ev6 => ?_)
          have h := qOk.v h ev6
          refine lv_istore_n (lv' := [(1, .int v6), (0, .ref (ad b0)), (2, .int v2)]) hx hb dX1_singing_23 rfl hl (by decide) rfl (fun ls hl => ?_)
          have h := qOk.s h
          exact h _ (lv_sub hl [1, 0, 2] rfl)
      intro v5 h ls hl
      obtain ⟨v7, ev7⟩ : ∃ y : Int32, y = v2 + 1 := ⟨_, rfl⟩
      have h := qOk.v h ev7
      refine lv_iinc (v := v7) (lv' := [(2, .int v7), (0, .ref (ad b0)), (1, .int v5)]) hx hb dX1_singing_24 hl (k := 2) rfl (by rw [ev7]; rfl) (by decide) rfl (fun ls hl => ?_)
      refine lv_goto (tgt := 4) hx hb dX1_singing_27 (by decide) ?_
      exact qOk.li h _ (lv_sub hl [1, 2, 0] rfl)
  intro v3 h ls hl
  refine lv_iload_n hx hb dX1_singing_30 rfl (lv_at hl 0 rfl) ?_
  exact W.iret hx hb hr (fun t ht _ => ⟨_, rfl, qOk.s h, ht⟩) (fun _ hq => by cases hq) dX1_singing_31
abbrev rm_X1_singersIn : Room := { frames := 1, cells := 0, slots := 0, locals := 21 }
set_option maxHeartbeats 4000000 in
set_option maxRecDepth 100000 in
theorem c_X1_singersIn (l : Launch) (G : qG) (ad : Nat → Nat) (hI : qI W1N ad) (M : qM) (sz : Nat) {b0 : Nat} (w0 : qMi b0) (x1 : Int32) {P : Int32 → Prop} (h : qOk (kX1_singersIn b0 M x1) P) : Met l yX1_singersIn wsX1_singersIn rm_X1_singersIn (va_Pc [.ref (ad b0), .int x1] (qPre W1N e1 G ad M sz)) (vp_Si P) 0 0 (fun _ => False) := by
  refine Met.ofW (cc := cX1_singersIn) (maxL := 4) (ret := (some .int)) (by decide) rfl ?_
  intro p e s m args below meth c s₁ B hml hv
  obtain ⟨rfl, hsz, hK, hP⟩ := hv
  subst hsz
  have hx := B.exec
  have hb := B.bytes
  have hr := B.returns
  have hts := atoms_spec (ws := wsX1_singersIn) B.pre
  have hown : s.vm.findClass RX1 = some m.cls := findClass_of_methodNamed B.named
  have hlocks := B.notSynchronized
  have hH : qHS W1N e1 G ad M s.heap s.heap [] := ⟨hP, va_S.rf⟩
  have f33 : (Cond.fieldLink RX1 33 "SongLamps$Mine" "place" "[I").before [.ref (ad b0), .int x1].toArray s = true := hts _ (by decide +kernel)
  have i_X1 : ∀ w ∈ wsX10, w ∈ wsX1_singersIn := fun w hw => List.mem_cons_of_mem _ ((List.mem_append_right _ hw))
  have hl := lv_entry ([.ref (ad b0), .int x1]) (n := 4) (Nat.le_of_ble_eq_true rfl)
  rw [lg_entry_eq]
  generalize (lg_sl ([.ref (ad b0), .int x1]) ++ List.replicate (4 - (lg_sl ([.ref (ad b0), .int x1])).length) Slot.unset).toArray = ls at hl ⊢
  have hl : lv_has ls 4 [(0, .ref (ad b0)), (1, .int x1)] := hl
  have h : qOk (kX1_singersIn b0 M x1) _ := h
  unfold kX1_singersIn at h
  refine lv_iconst (v := 0) hx hb dX1_singersIn_0 (by decide) ?_
  refine lv_istore_n (lv' := [(2, .int 0), (0, .ref (ad b0)), (1, .int x1)]) hx hb dX1_singersIn_1 rfl hl (by decide) rfl (fun ls hl => ?_)
  refine lv_iconst (v := 0) hx hb dX1_singersIn_2 (by decide) ?_
  refine lv_istore_n (lv' := [(3, .int 0), (2, .int 0), (0, .ref (ad b0)), (1, .int x1)]) hx hb dX1_singersIn_3 rfl hl (by decide) rfl (fun ls hl => ?_)
  refine qj1 (G := fun (v3 : Int32) => ∀ ls : Array Slot, lv_has ls 4 [(2, .int v3)] → W p l e (headSpec wsX1_singersIn rm_X1_singersIn).room s m [.ref (ad b0), .int x1].toArray below meth c s.heap [] 0 0 (MQ below (vp_Si P) [.ref (ad b0), .int x1].toArray s 0 0 (fun _ => False)) (F0 m 37 ls [])) h ?_ ?_
  rotate_left
  · intro h
    refine qloop2 (I := fun (v1 : Int32) (v2 : Int32) => ∀ ls : Array Slot, lv_has ls 4 [(0, .ref (ad b0)), (1, .int x1), (2, .int v1), (3, .int v2)] → W p l e (headSpec wsX1_singersIn rm_X1_singersIn).room s m [.ref (ad b0), .int x1].toArray below meth c s.heap [] 0 0 (MQ below (vp_Si P) [.ref (ad b0), .int x1].toArray s 0 0 (fun _ => False)) (F0 m 4 ls [])) ?_ h _ (lv_sub hl [2, 3, 1, 0] rfl)
    intro v1 v2 h ls hl
    have h : qOk (kX1_singersIn_L4 b0 M x1 v1 v2) _ := h
    unfold kX1_singersIn_L4 at h
    refine lv_iload_n hx hb dX1_singersIn_4 rfl (lv_at hl 3 rfl) ?_
    refine lv_bipush (v := 8) hx hb dX1_singersIn_5 (by decide) ?_
    refine lv_icmp_ge (tgt := 37) hx hb dX1_singersIn_7 (by decide) (fun hc => ?_) (fun hc => ?_)
    · have h := qOk.t hc h
      exact qOk.le h _ (lv_sub hl [2] rfl)
    · have h := qOk.f hc h
      refine lv_aload_n hx hb dX1_singersIn_10 rfl (lv_at hl 0 rfl) ?_
      refine lv_iload_n hx hb dX1_singersIn_11 rfl (lv_at hl 3 rfl) ?_
      refine y_cs (va_runV (As := [.int v2]) (rest := []) ⟨hx, hb, hml, hown, hts⟩ (c_X1_isSinging l G ad hI M _ w0 v2 (qOk.b1 h)) (cwV 1 hts gX1_singersIn_X1_isSinging rfl rfl rfl (by decide +kernel) ⟨Nat.le_of_ble_eq_true rfl, Nat.le_of_ble_eq_true rfl⟩) ⟨qPre.blind, qrecv hK hH (qMi_ob w0) rfl, qPre.at hK hH⟩ rfl rfl hl.1 rfl (lv_room (Nat.le_of_ble_eq_true rfl)) dX1_singersIn_12 ⟨Nat.zero_le _, Nat.zero_le _⟩) (fun v4 h => ?_)
      refine qj1 (G := fun (v5 : Int32) => ∀ ls : Array Slot, lv_has ls 4 [(0, .ref (ad b0)), (1, .int x1), (2, .int v5), (3, .int v2)] → W p l e (headSpec wsX1_singersIn rm_X1_singersIn).room s m [.ref (ad b0), .int x1].toArray below meth c s.heap [] 0 0 (MQ below (vp_Si P) [.ref (ad b0), .int x1].toArray s 0 0 (fun _ => False)) (F0 m 31 ls [])) h ?_ ?_
      rotate_left
      · intro h
        refine lv_if_eq (tgt := 31) hx hb dX1_singersIn_15 (by decide) (fun hc => ?_) (fun hc => ?_)
        · have h := qOk.t hc h
          have h := qOk.s h
          exact h _ (lv_sub hl [0, 1, 2, 3] rfl)
        · have h := qOk.f hc h
          refine lv_aload_n hx hb dX1_singersIn_18 rfl (lv_at hl 0 rfl) ?_
          refine y_get hx hb hts i_X1 hown hK hH (qMi_ob w0) rfl 12 (by decide) f33 rfl dX1_singersIn_19 ?_
          refine lv_iload_n hx hb dX1_singersIn_22 rfl (lv_at hl 3 rfl) ?_
          refine y_iald hx hb hK hH (qMi_a8 w0) h dX1_singersIn_23 (fun v6 h => ?_)
          refine lv_iload_n hx hb dX1_singersIn_24 rfl (lv_at hl 1 rfl) ?_
          refine lv_icmp_ne (tgt := 31) hx hb dX1_singersIn_25 (by decide) (fun hc => ?_) (fun hc => ?_)
          · have h := qOk.f hc h
            have h := qOk.s h
            exact h _ (lv_sub hl [0, 1, 2, 3] rfl)
          · have h := qOk.t hc h
            obtain ⟨v7, ev7⟩ : ∃ y : Int32, y = v1 + 1 := ⟨_, rfl⟩
            have h := qOk.v h ev7
            refine lv_iinc (v := v7) (lv' := [(2, .int v7), (0, .ref (ad b0)), (1, .int x1), (3, .int v2)]) hx hb dX1_singersIn_28 hl (k := 2) rfl (by rw [ev7]; rfl) (by decide) rfl (fun ls hl => ?_)
            have h := qOk.s h
            exact h _ (lv_sub hl [1, 2, 0, 3] rfl)
      intro v5 h ls hl
      obtain ⟨v8, ev8⟩ : ∃ y : Int32, y = v2 + 1 := ⟨_, rfl⟩
      have h := qOk.v h ev8
      refine lv_iinc (v := v8) (lv' := [(3, .int v8), (0, .ref (ad b0)), (1, .int x1), (2, .int v5)]) hx hb dX1_singersIn_31 hl (k := 3) rfl (by rw [ev8]; rfl) (by decide) rfl (fun ls hl => ?_)
      refine lv_goto (tgt := 4) hx hb dX1_singersIn_34 (by decide) ?_
      exact qOk.li h _ (lv_sub hl [1, 2, 3, 0] rfl)
  intro v3 h ls hl
  refine lv_iload_n hx hb dX1_singersIn_37 rfl (lv_at hl 0 rfl) ?_
  exact W.iret hx hb hr (fun t ht _ => ⟨_, rfl, qOk.s h, ht⟩) (fun _ hq => by cases hq) dX1_singersIn_38
abbrev rm_X2_signAt : Room := { frames := 0, cells := 0, slots := 0, locals := 0 }
set_option maxHeartbeats 4000000 in
set_option maxRecDepth 100000 in
theorem c_X2_signAt (l : Launch) (G : qG) (ad : Nat → Nat) (hI : qI W1N ad) (M : qM) (sz : Nat) (x1 : Int32) {P : Int32 → Prop} (h : qOk (kX2_signAt M x1) P) : Met l yX2_signAt wsX2_signAt rm_X2_signAt (va_Pc [.ref (ad 39), .int x1] (qPre W1N e1 G ad M sz)) (vp_Si P) 0 0 (fun _ => False) := by
  refine Met.ofW (cc := cX2_signAt) (maxL := 2) (ret := (some .int)) (by decide) rfl ?_
  intro p e s m args below meth c s₁ B hml hv
  obtain ⟨rfl, hsz, hK, hP⟩ := hv
  subst hsz
  have hx := B.exec
  have hb := B.bytes
  have hr := B.returns
  have hts := atoms_spec (ws := wsX2_signAt) B.pre
  have hown : s.vm.findClass RX2 = some m.cls := findClass_of_methodNamed B.named
  have hlocks := B.notSynchronized
  have hH : qHS W1N e1 G ad M s.heap s.heap [] := ⟨hP, va_S.rf⟩
  have f31 : (Cond.fieldLink RX2 31 "SongLamps$Pad" "size" "I").before [.ref (ad 39), .int x1].toArray s = true := hts _ (by decide +kernel)
  have i_X2 : ∀ w ∈ wsX20, w ∈ wsX2_signAt := fun w hw => List.mem_cons_of_mem _ ((List.mem_append_right _ hw))
  have f9 : (Cond.fieldLink RX2 9 "SongLamps$Pad" "signs" "[I").before [.ref (ad 39), .int x1].toArray s = true := hts _ (by decide +kernel)
  have hl := lv_entry ([.ref (ad 39), .int x1]) (n := 2) (Nat.le_of_ble_eq_true rfl)
  rw [lg_entry_eq]
  generalize (lg_sl ([.ref (ad 39), .int x1]) ++ List.replicate (2 - (lg_sl ([.ref (ad 39), .int x1])).length) Slot.unset).toArray = ls at hl ⊢
  have hl : lv_has ls 2 [(0, .ref (ad 39)), (1, .int x1)] := hl
  have h : qOk (kX2_signAt M x1) _ := h
  unfold kX2_signAt at h
  refine lv_iload_n hx hb dX2_signAt_0 rfl (lv_at hl 1 rfl) ?_
  refine qj1 (G := fun (v1 : Int32) => W p l e (headSpec wsX2_signAt rm_X2_signAt).room s m [.ref (ad 39), .int x1].toArray below meth c s.heap [] 0 0 (MQ below (vp_Si P) [.ref (ad 39), .int x1].toArray s 0 0 (fun _ => False)) (F0 m 28 ls [.int v1])) h ?_ ?_
  rotate_left
  · intro h
    refine lv_if_lt (tgt := 27) hx hb dX2_signAt_1 (by decide) (fun hc => ?_) (fun hc => ?_)
    · have h := qOk.t hc h
      refine lv_iconst (v := 0) hx hb dX2_signAt_27 (by decide) ?_
      have h := qOk.s h
      exact h
    · have h := qOk.f hc h
      refine lv_iload_n hx hb dX2_signAt_4 rfl (lv_at hl 1 rfl) ?_
      refine lv_aload_n hx hb dX2_signAt_5 rfl (lv_at hl 0 rfl) ?_
      refine y_get hx hb hts i_X2 hown hK hH qOb_2 rfl 1 (by decide) f31 rfl dX2_signAt_6 ?_
      refine lv_icmp_ge (tgt := 27) hx hb dX2_signAt_9 (by decide) (fun hc => ?_) (fun hc => ?_)
      · have h := qOk.t hc h
        refine lv_iconst (v := 0) hx hb dX2_signAt_27 (by decide) ?_
        have h := qOk.s h
        exact h
      · have h := qOk.f hc h
        refine lv_iload_n hx hb dX2_signAt_12 rfl (lv_at hl 1 rfl) ?_
        refine lv_bipush (v := 60) hx hb dX2_signAt_13 (by decide) ?_
        refine lv_icmp_ge (tgt := 27) hx hb dX2_signAt_15 (by decide) (fun hc => ?_) (fun hc => ?_)
        · have h := qOk.t hc h
          refine lv_iconst (v := 0) hx hb dX2_signAt_27 (by decide) ?_
          have h := qOk.s h
          exact h
        · have h := qOk.f hc h
          refine lv_aload_n hx hb dX2_signAt_18 rfl (lv_at hl 0 rfl) ?_
          refine y_get hx hb hts i_X2 hown hK hH qOb_2 rfl 0 (by decide) f9 rfl dX2_signAt_19 ?_
          refine lv_iload_n hx hb dX2_signAt_22 rfl (lv_at hl 1 rfl) ?_
          refine y_iald hx hb hK hH qAr_40 h dX2_signAt_23 (fun v2 h => ?_)
          refine lv_goto (tgt := 28) hx hb dX2_signAt_24 (by decide) ?_
          have h := qOk.s h
          exact h
  intro v1 h
  exact W.iret hx hb hr (fun t ht _ => ⟨_, rfl, qOk.s h, ht⟩) (fun _ hq => by cases hq) dX2_signAt_28
abbrev rm_X2_addAct : Room := { frames := 0, cells := 0, slots := 0, locals := 0 }
set_option maxHeartbeats 4000000 in
set_option maxRecDepth 100000 in
theorem c_X2_addAct (l : Launch) (G : qG) (ad : Nat → Nat) (hI : qI W1N ad) (M : qM) (sz : Nat) (x1 : Int32) (x2 : Int32) (x3 : Int32) {P : Int32 → qM → Prop} (h : qOk2 (kX2_addAct M x1 x2 x3) P) : Met l yX2_addAct wsX2_addAct rm_X2_addAct (va_Pc [.ref (ad 39), .int x1, .int x2, .int x3] (qPre W1N e1 G ad M sz)) (va_Qi P (fun u t => qHp W1N e1 G ad u t.heap) (qA W1N ad sz)) 0 0 (qA W1N ad sz) := by
  refine Met.ofW (cc := cX2_addAct) (maxL := 4) (ret := (some .boolean)) (by decide) rfl ?_
  intro p e s m args below meth c s₁ B hml hv
  obtain ⟨rfl, hsz, hK, hP⟩ := hv
  subst hsz
  have hx := B.exec
  have hb := B.bytes
  have hr := B.returns
  have hts := atoms_spec (ws := wsX2_addAct) B.pre
  have hown : s.vm.findClass RX2 = some m.cls := findClass_of_methodNamed B.named
  have hlocks := B.notSynchronized
  have hH : qHS W1N e1 G ad M s.heap s.heap [] := ⟨hP, va_S.rf⟩
  have f24 : (Cond.fieldLink RX2 24 "SongLamps$Pad" "acts" "I").before [.ref (ad 39), .int x1, .int x2, .int x3].toArray s = true := hts _ (by decide +kernel)
  have i_X2 : ∀ w ∈ wsX20, w ∈ wsX2_addAct := fun w hw => List.mem_cons_of_mem _ ((List.mem_append_right _ hw))
  have f15 : (Cond.fieldLink RX2 15 "SongLamps$Pad" "kind" "[I").before [.ref (ad 39), .int x1, .int x2, .int x3].toArray s = true := hts _ (by decide +kernel)
  have f18 : (Cond.fieldLink RX2 18 "SongLamps$Pad" "who" "[I").before [.ref (ad 39), .int x1, .int x2, .int x3].toArray s = true := hts _ (by decide +kernel)
  have f21 : (Cond.fieldLink RX2 21 "SongLamps$Pad" "number" "[I").before [.ref (ad 39), .int x1, .int x2, .int x3].toArray s = true := hts _ (by decide +kernel)
  have hl := lv_entry ([.ref (ad 39), .int x1, .int x2, .int x3]) (n := 4) (Nat.le_of_ble_eq_true rfl)
  rw [lg_entry_eq]
  generalize (lg_sl ([.ref (ad 39), .int x1, .int x2, .int x3]) ++ List.replicate (4 - (lg_sl ([.ref (ad 39), .int x1, .int x2, .int x3])).length) Slot.unset).toArray = ls at hl ⊢
  have hl : lv_has ls 4 [(0, .ref (ad 39)), (1, .int x1), (2, .int x2), (3, .int x3)] := hl
  have h : qOk (kX2_addAct M x1 x2 x3) _ := h
  unfold kX2_addAct at h
  refine lv_aload_n hx hb dX2_addAct_0 rfl (lv_at hl 0 rfl) ?_
  refine y_get hx hb hts i_X2 hown hK hH qOb_2 rfl 5 (by decide) f24 rfl dX2_addAct_1 ?_
  refine lv_bipush (v := 60) hx hb dX2_addAct_4 (by decide) ?_
  refine lv_icmp_lt (tgt := 11) hx hb dX2_addAct_6 (by decide) (fun hc => ?_) (fun hc => ?_)
  · have h := qOk.t hc h
    refine lv_aload_n hx hb dX2_addAct_11 rfl (lv_at hl 0 rfl) ?_
    refine y_get hx hb hts i_X2 hown hK hH qOb_2 rfl 2 (by decide) f15 rfl dX2_addAct_12 ?_
    refine lv_aload_n hx hb dX2_addAct_15 rfl (lv_at hl 0 rfl) ?_
    refine y_get hx hb hts i_X2 hown hK hH qOb_2 rfl 5 (by decide) f24 rfl dX2_addAct_16 ?_
    refine lv_iload_n hx hb dX2_addAct_19 rfl (lv_at hl 1 rfl) ?_
    refine y_iast hx hb hK hI hH qAr_41 h dX2_addAct_20 (fun M1 H locs hH h => ?_)
    refine lv_aload_n hx hb dX2_addAct_21 rfl (lv_at hl 0 rfl) ?_
    refine y_get hx hb hts i_X2 hown hK hH qOb_2 rfl 3 (by decide) f18 rfl dX2_addAct_22 ?_
    refine lv_aload_n hx hb dX2_addAct_25 rfl (lv_at hl 0 rfl) ?_
    refine y_get hx hb hts i_X2 hown hK hH qOb_2 rfl 5 (by decide) f24 rfl dX2_addAct_26 ?_
    refine lv_iload_n hx hb dX2_addAct_29 rfl (lv_at hl 2 rfl) ?_
    refine y_iast hx hb hK hI hH qAr_42 h dX2_addAct_30 (fun M2 H locs hH h => ?_)
    refine lv_aload_n hx hb dX2_addAct_31 rfl (lv_at hl 0 rfl) ?_
    refine y_get hx hb hts i_X2 hown hK hH qOb_2 rfl 4 (by decide) f21 rfl dX2_addAct_32 ?_
    refine lv_aload_n hx hb dX2_addAct_35 rfl (lv_at hl 0 rfl) ?_
    refine y_get hx hb hts i_X2 hown hK hH qOb_2 rfl 5 (by decide) f24 rfl dX2_addAct_36 ?_
    refine lv_iload_n hx hb dX2_addAct_39 rfl (lv_at hl 3 rfl) ?_
    refine y_iast hx hb hK hI hH qAr_43 h dX2_addAct_40 (fun M3 H locs hH h => ?_)
    refine lv_aload_n hx hb dX2_addAct_41 rfl (lv_at hl 0 rfl) ?_
    refine lv_dup hx hb dX2_addAct_42 rfl ?_
    refine y_get hx hb hts i_X2 hown hK hH qOb_2 rfl 5 (by decide) f24 rfl dX2_addAct_43 ?_
    refine lv_iconst (v := 1) hx hb dX2_addAct_46 (by decide) ?_
    refine lv_iadd hx hb dX2_addAct_47 ?_
    refine y_put hx hb hts i_X2 tyX2 tyX2_ok nmX2 hown hK hI hH qOb_2 rfl 5 (by decide) f24 rfl (by decide +kernel) (Nat.le_of_ble_eq_true rfl) (fun _ => rfl) h dX2_addAct_48 (fun M4 H locs hH h => ?_)
    refine lv_iconst (v := 1) hx hb dX2_addAct_51 (by decide) ?_
    exact W.zret hx hb hr rfl (fun t ht _ => ⟨⟨_, _, rfl, qOk2.s h, qHpt ht hH.1⟩, hH.2.F ht⟩) hH.2.2.2 dX2_addAct_52
  · have h := qOk.f hc h
    refine lv_iconst (v := 0) hx hb dX2_addAct_9 (by decide) ?_
    exact W.zret hx hb hr rfl (fun t ht _ => ⟨⟨_, _, rfl, qOk2.s h, qHpt ht hH.1⟩, hH.2.F ht⟩) hH.2.2.2 dX2_addAct_10
abbrev rm_X2_readGallery : Room := { frames := 1, cells := 0, slots := 0, locals := 23 }
set_option maxHeartbeats 4000000 in
set_option maxRecDepth 100000 in
theorem c_X2_readGallery (l : Launch) (G : qG) (ad : Nat → Nat) (hI : qI W1N ad) (M : qM) (sz : Nat) (x1 : Int32) (x2 : Int32) {P : Int32 → qM → Prop} (h : qOk2 (kX2_readGallery M x1 x2) P) : Met l yX2_readGallery wsX2_readGallery rm_X2_readGallery (va_Pc [.ref (ad 39), .int x1, .int x2] (qPre W1N e1 G ad M sz)) (va_Qi P (fun u t => qHp W1N e1 G ad u t.heap) (qA W1N ad sz)) 0 0 (qA W1N ad sz) := by
  refine Met.ofW (cc := cX2_readGallery) (maxL := 4) (ret := (some .boolean)) (by decide) rfl ?_
  intro p e s m args below meth c s₁ B hml hv
  obtain ⟨rfl, hsz, hK, hP⟩ := hv
  subst hsz
  have hx := B.exec
  have hb := B.bytes
  have hr := B.returns
  have hts := atoms_spec (ws := wsX2_readGallery) B.pre
  have hown : s.vm.findClass RX2 = some m.cls := findClass_of_methodNamed B.named
  have hlocks := B.notSynchronized
  have hH : qHS W1N e1 G ad M s.heap s.heap [] := ⟨hP, va_S.rf⟩
  have f28 : (Cond.fieldLink RX2 28 "SongLamps$Pad" "next" "I").before [.ref (ad 39), .int x1, .int x2].toArray s = true := hts _ (by decide +kernel)
  have i_X2 : ∀ w ∈ wsX20, w ∈ wsX2_readGallery := fun w hw => List.mem_cons_of_mem _ ((List.mem_append_right _ hw))
  have hl := lv_entry ([.ref (ad 39), .int x1, .int x2]) (n := 4) (Nat.le_of_ble_eq_true rfl)
  rw [lg_entry_eq]
  generalize (lg_sl ([.ref (ad 39), .int x1, .int x2]) ++ List.replicate (4 - (lg_sl ([.ref (ad 39), .int x1, .int x2])).length) Slot.unset).toArray = ls at hl ⊢
  have hl : lv_has ls 4 [(0, .ref (ad 39)), (1, .int x1), (2, .int x2)] := hl
  have h : qOk (kX2_readGallery M x1 x2) _ := h
  unfold kX2_readGallery at h
  refine lv_aload_n hx hb dX2_readGallery_0 rfl (lv_at hl 0 rfl) ?_
  refine lv_aload_n hx hb dX2_readGallery_1 rfl (lv_at hl 0 rfl) ?_
  refine y_get hx hb hts i_X2 hown hK hH qOb_2 rfl 6 (by decide) f28 rfl dX2_readGallery_2 ?_
  refine y_cs (va_runV (As := [.int (M 39 6)]) (rest := []) ⟨hx, hb, hml, hown, hts⟩ (c_X2_signAt l G ad hI M _ (M 39 6) (qOk.b1 h)) (cwV 1 hts gX2_readGallery_X2_signAt rfl rfl rfl (by decide +kernel) ⟨Nat.le_of_ble_eq_true rfl, Nat.le_of_ble_eq_true rfl⟩) ⟨qPre.blind, qrecv hK hH qOb_2 rfl, qPre.at hK hH⟩ rfl rfl hl.1 rfl (lv_room (Nat.le_of_ble_eq_true rfl)) dX2_readGallery_5 ⟨Nat.zero_le _, Nat.zero_le _⟩) (fun v1 h => ?_)
  refine lv_istore_n (lv' := [(3, .int v1), (0, .ref (ad 39)), (1, .int x1), (2, .int x2)]) hx hb dX2_readGallery_8 rfl hl (by decide) rfl (fun ls hl => ?_)
  refine lv_iload_n hx hb dX2_readGallery_9 rfl (lv_at hl 0 rfl) ?_
  refine lv_bipush (v := 48) hx hb dX2_readGallery_10 (by decide) ?_
  refine lv_icmp_lt (tgt := 21) hx hb dX2_readGallery_12 (by decide) (fun hc => ?_) (fun hc => ?_)
  · have h := qOk.t hc h
    refine lv_iconst (v := 0) hx hb dX2_readGallery_21 (by decide) ?_
    exact W.zret hx hb hr rfl (fun t ht _ => ⟨⟨_, _, rfl, qOk2.s h, qHpt ht hH.1⟩, hH.2.F ht⟩) hH.2.2.2 dX2_readGallery_22
  · have h := qOk.f hc h
    refine lv_iload_n hx hb dX2_readGallery_15 rfl (lv_at hl 0 rfl) ?_
    refine lv_bipush (v := 57) hx hb dX2_readGallery_16 (by decide) ?_
    refine lv_icmp_le (tgt := 23) hx hb dX2_readGallery_18 (by decide) (fun hc => ?_) (fun hc => ?_)
    · have h := qOk.t hc h
      refine lv_aload_n hx hb dX2_readGallery_23 rfl (lv_at hl 1 rfl) ?_
      refine lv_dup hx hb dX2_readGallery_24 rfl ?_
      refine y_get hx hb hts i_X2 hown hK hH qOb_2 rfl 6 (by decide) f28 rfl dX2_readGallery_25 ?_
      refine lv_iconst (v := 1) hx hb dX2_readGallery_28 (by decide) ?_
      refine lv_iadd hx hb dX2_readGallery_29 ?_
      refine y_put hx hb hts i_X2 tyX2 tyX2_ok nmX2 hown hK hI hH qOb_2 rfl 6 (by decide) f28 rfl (by decide +kernel) (Nat.le_of_ble_eq_true rfl) (fun _ => rfl) h dX2_readGallery_30 (fun M2 H locs hH h => ?_)
      refine lv_aload_n hx hb dX2_readGallery_33 rfl (lv_at hl 1 rfl) ?_
      refine lv_iload_n hx hb dX2_readGallery_34 rfl (lv_at hl 2 rfl) ?_
      refine lv_iload_n hx hb dX2_readGallery_35 rfl (lv_at hl 3 rfl) ?_
      refine lv_iload_n hx hb dX2_readGallery_36 rfl (lv_at hl 0 rfl) ?_
      refine lv_bipush (v := 48) hx hb dX2_readGallery_37 (by decide) ?_
      refine lv_isub hx hb dX2_readGallery_39 ?_
      refine y_ci hH (va_runV (As := [.int x1, .int x2, .int (v1 - 48)]) (rest := []) ⟨hx, hb, hml, hown, hts⟩ (c_X2_addAct l G ad hI M2 _ x1 x2 (v1 - 48) (qOk.b2 h)) (cwV 3 hts gX2_readGallery_X2_addAct rfl rfl rfl (by decide +kernel) ⟨Nat.le_of_ble_eq_true rfl, Nat.le_of_ble_eq_true rfl⟩) ⟨qPre.blind, qrecv hK hH qOb_2 rfl, qPre.at hK hH⟩ rfl rfl hl.1 rfl (lv_room (Nat.le_of_ble_eq_true rfl)) dX2_readGallery_40 ⟨Nat.zero_le _, Nat.zero_le _⟩) (fun v4 M3 H locs hH h => ?_)
      obtain ⟨hbn, h⟩ := qOk.bl h
      exact W.zret hx hb hr (qnarb hbn) (fun t ht _ => ⟨⟨_, _, rfl, qOk2.s h, qHpt ht hH.1⟩, hH.2.F ht⟩) hH.2.2.2 dX2_readGallery_43
    · have h := qOk.f hc h
      refine lv_iconst (v := 0) hx hb dX2_readGallery_21 (by decide) ?_
      exact W.zret hx hb hr rfl (fun t ht _ => ⟨⟨_, _, rfl, qOk2.s h, qHpt ht hH.1⟩, hH.2.F ht⟩) hH.2.2.2 dX2_readGallery_22
abbrev rm_X2_readDeed : Room := { frames := 2, cells := 0, slots := 0, locals := 46 }
set_option maxHeartbeats 4000000 in
set_option maxRecDepth 100000 in
theorem c_X2_readDeed (l : Launch) (G : qG) (ad : Nat → Nat) (hI : qI W1N ad) (M : qM) (sz : Nat) (x1 : Int32) {P : Int32 → qM → Prop} (h : qOk2 (kX2_readDeed M x1) P) : Met l yX2_readDeed wsX2_readDeed rm_X2_readDeed (va_Pc [.ref (ad 39), .int x1] (qPre W1N e1 G ad M sz)) (va_Qi P (fun u t => qHp W1N e1 G ad u t.heap) (qA W1N ad sz)) 0 0 (qA W1N ad sz) := by
  refine Met.ofW (cc := cX2_readDeed) (maxL := 3) (ret := (some .boolean)) (by decide) rfl ?_
  intro p e s m args below meth c s₁ B hml hv
  obtain ⟨rfl, hsz, hK, hP⟩ := hv
  subst hsz
  have hx := B.exec
  have hb := B.bytes
  have hr := B.returns
  have hts := atoms_spec (ws := wsX2_readDeed) B.pre
  have hown : s.vm.findClass RX2 = some m.cls := findClass_of_methodNamed B.named
  have hlocks := B.notSynchronized
  have hH : qHS W1N e1 G ad M s.heap s.heap [] := ⟨hP, va_S.rf⟩
  have f28 : (Cond.fieldLink RX2 28 "SongLamps$Pad" "next" "I").before [.ref (ad 39), .int x1].toArray s = true := hts _ (by decide +kernel)
  have i_X2 : ∀ w ∈ wsX20, w ∈ wsX2_readDeed := fun w hw => List.mem_cons_of_mem _ ((List.mem_append_right _ hw))
  have hl := lv_entry ([.ref (ad 39), .int x1]) (n := 3) (Nat.le_of_ble_eq_true rfl)
  rw [lg_entry_eq]
  generalize (lg_sl ([.ref (ad 39), .int x1]) ++ List.replicate (3 - (lg_sl ([.ref (ad 39), .int x1])).length) Slot.unset).toArray = ls at hl ⊢
  have hl : lv_has ls 3 [(0, .ref (ad 39)), (1, .int x1)] := hl
  have h : qOk (kX2_readDeed M x1) _ := h
  unfold kX2_readDeed at h
  refine lv_aload_n hx hb dX2_readDeed_0 rfl (lv_at hl 0 rfl) ?_
  refine lv_aload_n hx hb dX2_readDeed_1 rfl (lv_at hl 0 rfl) ?_
  refine y_get hx hb hts i_X2 hown hK hH qOb_2 rfl 6 (by decide) f28 rfl dX2_readDeed_2 ?_
  refine y_cs (va_runV (As := [.int (M 39 6)]) (rest := []) ⟨hx, hb, hml, hown, hts⟩ (c_X2_signAt l G ad hI M _ (M 39 6) (qOk.b1 h)) (cwV 1 hts gX2_readDeed_X2_signAt rfl rfl rfl (by decide +kernel) ⟨Nat.le_of_ble_eq_true rfl, Nat.le_of_ble_eq_true rfl⟩) ⟨qPre.blind, qrecv hK hH qOb_2 rfl, qPre.at hK hH⟩ rfl rfl hl.1 rfl (lv_room (Nat.le_of_ble_eq_true rfl)) dX2_readDeed_5 ⟨Nat.zero_le _, Nat.zero_le _⟩) (fun v1 h => ?_)
  refine lv_istore_n (lv' := [(2, .int v1), (0, .ref (ad 39)), (1, .int x1)]) hx hb dX2_readDeed_8 rfl hl (by decide) rfl (fun ls hl => ?_)
  refine lv_iload_n hx hb dX2_readDeed_9 rfl (lv_at hl 0 rfl) ?_
  refine lv_bipush (v := 97) hx hb dX2_readDeed_10 (by decide) ?_
  refine lv_icmp_lt (tgt := 42) hx hb dX2_readDeed_12 (by decide) (fun hc => ?_) (fun hc => ?_)
  · have h := qOk.t hc h
    refine lv_iload_n hx hb dX2_readDeed_42 rfl (lv_at hl 0 rfl) ?_
    refine lv_bipush (v := 45) hx hb dX2_readDeed_43 (by decide) ?_
    refine lv_icmp_ne (tgt := 66) hx hb dX2_readDeed_45 (by decide) (fun hc => ?_) (fun hc => ?_)
    · have h := qOk.f hc h
      refine lv_iload_n hx hb dX2_readDeed_66 rfl (lv_at hl 0 rfl) ?_
      refine lv_bipush (v := 62) hx hb dX2_readDeed_67 (by decide) ?_
      refine lv_icmp_eq (tgt := 74) hx hb dX2_readDeed_69 (by decide) (fun hc => ?_) (fun hc => ?_)
      · have h := qOk.t hc h
        refine lv_aload_n hx hb dX2_readDeed_74 rfl (lv_at hl 1 rfl) ?_
        refine lv_dup hx hb dX2_readDeed_75 rfl ?_
        refine y_get hx hb hts i_X2 hown hK hH qOb_2 rfl 6 (by decide) f28 rfl dX2_readDeed_76 ?_
        refine lv_iconst (v := 1) hx hb dX2_readDeed_79 (by decide) ?_
        refine lv_iadd hx hb dX2_readDeed_80 ?_
        refine y_put hx hb hts i_X2 tyX2 tyX2_ok nmX2 hown hK hI hH qOb_2 rfl 6 (by decide) f28 rfl (by decide +kernel) (Nat.le_of_ble_eq_true rfl) (fun _ => rfl) h dX2_readDeed_81 (fun M2 H locs hH h => ?_)
        refine lv_aload_n hx hb dX2_readDeed_84 rfl (lv_at hl 1 rfl) ?_
        refine lv_iconst (v := 2) hx hb dX2_readDeed_85 (by decide) ?_
        refine lv_iload_n hx hb dX2_readDeed_86 rfl (lv_at hl 2 rfl) ?_
        refine y_ci hH (va_runV (As := [.int 2, .int x1]) (rest := []) ⟨hx, hb, hml, hown, hts⟩ (c_X2_readGallery l G ad hI M2 _ 2 x1 (qOk.b2 h)) (cwV 2 hts gX2_readDeed_X2_readGallery rfl rfl rfl (by decide +kernel) ⟨Nat.le_of_ble_eq_true rfl, Nat.le_of_ble_eq_true rfl⟩) ⟨qPre.blind, qrecv hK hH qOb_2 rfl, qPre.at hK hH⟩ rfl rfl hl.1 rfl (lv_room (Nat.le_of_ble_eq_true rfl)) dX2_readDeed_87 ⟨Nat.zero_le _, Nat.zero_le _⟩) (fun v4 M3 H locs hH h => ?_)
        obtain ⟨hbn, h⟩ := qOk.bl h
        exact W.zret hx hb hr (qnarb hbn) (fun t ht _ => ⟨⟨_, _, rfl, qOk2.s h, qHpt ht hH.1⟩, hH.2.F ht⟩) hH.2.2.2 dX2_readDeed_90
      · have h := qOk.f hc h
        refine lv_iconst (v := 0) hx hb dX2_readDeed_72 (by decide) ?_
        exact W.zret hx hb hr rfl (fun t ht _ => ⟨⟨_, _, rfl, qOk2.s h, qHpt ht hH.1⟩, hH.2.F ht⟩) hH.2.2.2 dX2_readDeed_73
    · have h := qOk.t hc h
      refine lv_aload_n hx hb dX2_readDeed_48 rfl (lv_at hl 1 rfl) ?_
      refine lv_dup hx hb dX2_readDeed_49 rfl ?_
      refine y_get hx hb hts i_X2 hown hK hH qOb_2 rfl 6 (by decide) f28 rfl dX2_readDeed_50 ?_
      refine lv_iconst (v := 1) hx hb dX2_readDeed_53 (by decide) ?_
      refine lv_iadd hx hb dX2_readDeed_54 ?_
      refine y_put hx hb hts i_X2 tyX2 tyX2_ok nmX2 hown hK hI hH qOb_2 rfl 6 (by decide) f28 rfl (by decide +kernel) (Nat.le_of_ble_eq_true rfl) (fun _ => rfl) h dX2_readDeed_55 (fun M5 H locs hH h => ?_)
      refine lv_aload_n hx hb dX2_readDeed_58 rfl (lv_at hl 1 rfl) ?_
      refine lv_iconst (v := 1) hx hb dX2_readDeed_59 (by decide) ?_
      refine lv_iload_n hx hb dX2_readDeed_60 rfl (lv_at hl 2 rfl) ?_
      refine lv_iconst (v := 0) hx hb dX2_readDeed_61 (by decide) ?_
      refine y_ci hH (va_runV (As := [.int 1, .int x1, .int 0]) (rest := []) ⟨hx, hb, hml, hown, hts⟩ (c_X2_addAct l G ad hI M5 _ 1 x1 0 (qOk.b2 h)) (cwV 3 hts gX2_readDeed_X2_addAct rfl rfl rfl (by decide +kernel) ⟨Nat.le_of_ble_eq_true rfl, Nat.le_of_ble_eq_true rfl⟩) ⟨qPre.blind, qrecv hK hH qOb_2 rfl, qPre.at hK hH⟩ rfl rfl hl.1 rfl (lv_room (Nat.le_of_ble_eq_true rfl)) dX2_readDeed_62 ⟨Nat.zero_le _, Nat.zero_le _⟩) (fun v7 M6 H locs hH h => ?_)
      obtain ⟨hbn, h⟩ := qOk.bl h
      exact W.zret hx hb hr (qnarb hbn) (fun t ht _ => ⟨⟨_, _, rfl, qOk2.s h, qHpt ht hH.1⟩, hH.2.F ht⟩) hH.2.2.2 dX2_readDeed_65
  · have h := qOk.f hc h
    refine lv_iload_n hx hb dX2_readDeed_15 rfl (lv_at hl 0 rfl) ?_
    refine lv_bipush (v := 121) hx hb dX2_readDeed_16 (by decide) ?_
    refine lv_icmp_ge (tgt := 42) hx hb dX2_readDeed_18 (by decide) (fun hc => ?_) (fun hc => ?_)
    · have h := qOk.t hc h
      refine lv_iload_n hx hb dX2_readDeed_42 rfl (lv_at hl 0 rfl) ?_
      refine lv_bipush (v := 45) hx hb dX2_readDeed_43 (by decide) ?_
      refine lv_icmp_ne (tgt := 66) hx hb dX2_readDeed_45 (by decide) (fun hc => ?_) (fun hc => ?_)
      · have h := qOk.f hc h
        refine lv_iload_n hx hb dX2_readDeed_66 rfl (lv_at hl 0 rfl) ?_
        refine lv_bipush (v := 62) hx hb dX2_readDeed_67 (by decide) ?_
        refine lv_icmp_eq (tgt := 74) hx hb dX2_readDeed_69 (by decide) (fun hc => ?_) (fun hc => ?_)
        · have h := qOk.t hc h
          refine lv_aload_n hx hb dX2_readDeed_74 rfl (lv_at hl 1 rfl) ?_
          refine lv_dup hx hb dX2_readDeed_75 rfl ?_
          refine y_get hx hb hts i_X2 hown hK hH qOb_2 rfl 6 (by decide) f28 rfl dX2_readDeed_76 ?_
          refine lv_iconst (v := 1) hx hb dX2_readDeed_79 (by decide) ?_
          refine lv_iadd hx hb dX2_readDeed_80 ?_
          refine y_put hx hb hts i_X2 tyX2 tyX2_ok nmX2 hown hK hI hH qOb_2 rfl 6 (by decide) f28 rfl (by decide +kernel) (Nat.le_of_ble_eq_true rfl) (fun _ => rfl) h dX2_readDeed_81 (fun M8 H locs hH h => ?_)
          refine lv_aload_n hx hb dX2_readDeed_84 rfl (lv_at hl 1 rfl) ?_
          refine lv_iconst (v := 2) hx hb dX2_readDeed_85 (by decide) ?_
          refine lv_iload_n hx hb dX2_readDeed_86 rfl (lv_at hl 2 rfl) ?_
          refine y_ci hH (va_runV (As := [.int 2, .int x1]) (rest := []) ⟨hx, hb, hml, hown, hts⟩ (c_X2_readGallery l G ad hI M8 _ 2 x1 (qOk.b2 h)) (cwV 2 hts gX2_readDeed_X2_readGallery rfl rfl rfl (by decide +kernel) ⟨Nat.le_of_ble_eq_true rfl, Nat.le_of_ble_eq_true rfl⟩) ⟨qPre.blind, qrecv hK hH qOb_2 rfl, qPre.at hK hH⟩ rfl rfl hl.1 rfl (lv_room (Nat.le_of_ble_eq_true rfl)) dX2_readDeed_87 ⟨Nat.zero_le _, Nat.zero_le _⟩) (fun v10 M9 H locs hH h => ?_)
          obtain ⟨hbn, h⟩ := qOk.bl h
          exact W.zret hx hb hr (qnarb hbn) (fun t ht _ => ⟨⟨_, _, rfl, qOk2.s h, qHpt ht hH.1⟩, hH.2.F ht⟩) hH.2.2.2 dX2_readDeed_90
        · have h := qOk.f hc h
          refine lv_iconst (v := 0) hx hb dX2_readDeed_72 (by decide) ?_
          exact W.zret hx hb hr rfl (fun t ht _ => ⟨⟨_, _, rfl, qOk2.s h, qHpt ht hH.1⟩, hH.2.F ht⟩) hH.2.2.2 dX2_readDeed_73
      · have h := qOk.t hc h
        refine lv_aload_n hx hb dX2_readDeed_48 rfl (lv_at hl 1 rfl) ?_
        refine lv_dup hx hb dX2_readDeed_49 rfl ?_
        refine y_get hx hb hts i_X2 hown hK hH qOb_2 rfl 6 (by decide) f28 rfl dX2_readDeed_50 ?_
        refine lv_iconst (v := 1) hx hb dX2_readDeed_53 (by decide) ?_
        refine lv_iadd hx hb dX2_readDeed_54 ?_
        refine y_put hx hb hts i_X2 tyX2 tyX2_ok nmX2 hown hK hI hH qOb_2 rfl 6 (by decide) f28 rfl (by decide +kernel) (Nat.le_of_ble_eq_true rfl) (fun _ => rfl) h dX2_readDeed_55 (fun M11 H locs hH h => ?_)
        refine lv_aload_n hx hb dX2_readDeed_58 rfl (lv_at hl 1 rfl) ?_
        refine lv_iconst (v := 1) hx hb dX2_readDeed_59 (by decide) ?_
        refine lv_iload_n hx hb dX2_readDeed_60 rfl (lv_at hl 2 rfl) ?_
        refine lv_iconst (v := 0) hx hb dX2_readDeed_61 (by decide) ?_
        refine y_ci hH (va_runV (As := [.int 1, .int x1, .int 0]) (rest := []) ⟨hx, hb, hml, hown, hts⟩ (c_X2_addAct l G ad hI M11 _ 1 x1 0 (qOk.b2 h)) (cwV 3 hts gX2_readDeed_X2_addAct rfl rfl rfl (by decide +kernel) ⟨Nat.le_of_ble_eq_true rfl, Nat.le_of_ble_eq_true rfl⟩) ⟨qPre.blind, qrecv hK hH qOb_2 rfl, qPre.at hK hH⟩ rfl rfl hl.1 rfl (lv_room (Nat.le_of_ble_eq_true rfl)) dX2_readDeed_62 ⟨Nat.zero_le _, Nat.zero_le _⟩) (fun v13 M12 H locs hH h => ?_)
        obtain ⟨hbn, h⟩ := qOk.bl h
        exact W.zret hx hb hr (qnarb hbn) (fun t ht _ => ⟨⟨_, _, rfl, qOk2.s h, qHpt ht hH.1⟩, hH.2.F ht⟩) hH.2.2.2 dX2_readDeed_65
    · have h := qOk.f hc h
      refine lv_aload_n hx hb dX2_readDeed_21 rfl (lv_at hl 1 rfl) ?_
      refine lv_dup hx hb dX2_readDeed_22 rfl ?_
      refine y_get hx hb hts i_X2 hown hK hH qOb_2 rfl 6 (by decide) f28 rfl dX2_readDeed_23 ?_
      refine lv_iconst (v := 1) hx hb dX2_readDeed_26 (by decide) ?_
      refine lv_iadd hx hb dX2_readDeed_27 ?_
      refine y_put hx hb hts i_X2 tyX2 tyX2_ok nmX2 hown hK hI hH qOb_2 rfl 6 (by decide) f28 rfl (by decide +kernel) (Nat.le_of_ble_eq_true rfl) (fun _ => rfl) h dX2_readDeed_28 (fun M14 H locs hH h => ?_)
      refine lv_aload_n hx hb dX2_readDeed_31 rfl (lv_at hl 1 rfl) ?_
      refine lv_iconst (v := 0) hx hb dX2_readDeed_32 (by decide) ?_
      refine lv_iload_n hx hb dX2_readDeed_33 rfl (lv_at hl 2 rfl) ?_
      refine lv_iload_n hx hb dX2_readDeed_34 rfl (lv_at hl 0 rfl) ?_
      refine lv_bipush (v := 97) hx hb dX2_readDeed_35 (by decide) ?_
      refine lv_isub hx hb dX2_readDeed_37 ?_
      refine y_ci hH (va_runV (As := [.int 0, .int x1, .int (v1 - 97)]) (rest := []) ⟨hx, hb, hml, hown, hts⟩ (c_X2_addAct l G ad hI M14 _ 0 x1 (v1 - 97) (qOk.b2 h)) (cwV 3 hts gX2_readDeed_X2_addAct rfl rfl rfl (by decide +kernel) ⟨Nat.le_of_ble_eq_true rfl, Nat.le_of_ble_eq_true rfl⟩) ⟨qPre.blind, qrecv hK hH qOb_2 rfl, qPre.at hK hH⟩ rfl rfl hl.1 rfl (lv_room (Nat.le_of_ble_eq_true rfl)) dX2_readDeed_38 ⟨Nat.zero_le _, Nat.zero_le _⟩) (fun v16 M15 H locs hH h => ?_)
      obtain ⟨hbn, h⟩ := qOk.bl h
      exact W.zret hx hb hr (qnarb hbn) (fun t ht _ => ⟨⟨_, _, rfl, qOk2.s h, qHpt ht hH.1⟩, hH.2.F ht⟩) hH.2.2.2 dX2_readDeed_41
abbrev rm_X2_readAct : Room := { frames := 3, cells := 0, slots := 0, locals := 68 }
set_option maxHeartbeats 4000000 in
set_option maxRecDepth 100000 in
theorem c_X2_readAct (l : Launch) (G : qG) (ad : Nat → Nat) (hI : qI W1N ad) (M : qM) (sz : Nat) {P : Int32 → qM → Prop} (h : qOk2 (kX2_readAct M) P) : Met l yX2_readAct wsX2_readAct rm_X2_readAct (va_Pc [.ref (ad 39)] (qPre W1N e1 G ad M sz)) (va_Qi P (fun u t => qHp W1N e1 G ad u t.heap) (qA W1N ad sz)) 0 0 (qA W1N ad sz) := by
  refine Met.ofW (cc := cX2_readAct) (maxL := 2) (ret := (some .boolean)) (by decide) rfl ?_
  intro p e s m args below meth c s₁ B hml hv
  obtain ⟨rfl, hsz, hK, hP⟩ := hv
  subst hsz
  have hx := B.exec
  have hb := B.bytes
  have hr := B.returns
  have hts := atoms_spec (ws := wsX2_readAct) B.pre
  have hown : s.vm.findClass RX2 = some m.cls := findClass_of_methodNamed B.named
  have hlocks := B.notSynchronized
  have hH : qHS W1N e1 G ad M s.heap s.heap [] := ⟨hP, va_S.rf⟩
  have f28 : (Cond.fieldLink RX2 28 "SongLamps$Pad" "next" "I").before [.ref (ad 39)].toArray s = true := hts _ (by decide +kernel)
  have i_X2 : ∀ w ∈ wsX20, w ∈ wsX2_readAct := fun w hw => List.mem_cons_of_mem _ ((List.mem_append_right _ hw))
  have hl := lv_entry ([.ref (ad 39)]) (n := 2) (Nat.le_of_ble_eq_true rfl)
  rw [lg_entry_eq]
  generalize (lg_sl ([.ref (ad 39)]) ++ List.replicate (2 - (lg_sl ([.ref (ad 39)])).length) Slot.unset).toArray = ls at hl ⊢
  have hl : lv_has ls 2 [(0, .ref (ad 39))] := hl
  have h : qOk (kX2_readAct M) _ := h
  unfold kX2_readAct at h
  refine lv_aload_n hx hb dX2_readAct_0 rfl (lv_at hl 0 rfl) ?_
  refine lv_aload_n hx hb dX2_readAct_1 rfl (lv_at hl 0 rfl) ?_
  refine y_get hx hb hts i_X2 hown hK hH qOb_2 rfl 6 (by decide) f28 rfl dX2_readAct_2 ?_
  refine y_cs (va_runV (As := [.int (M 39 6)]) (rest := []) ⟨hx, hb, hml, hown, hts⟩ (c_X2_signAt l G ad hI M _ (M 39 6) (qOk.b1 h)) (cwV 1 hts gX2_readAct_X2_signAt rfl rfl rfl (by decide +kernel) ⟨Nat.le_of_ble_eq_true rfl, Nat.le_of_ble_eq_true rfl⟩) ⟨qPre.blind, qrecv hK hH qOb_2 rfl, qPre.at hK hH⟩ rfl rfl hl.1 rfl (lv_room (Nat.le_of_ble_eq_true rfl)) dX2_readAct_5 ⟨Nat.zero_le _, Nat.zero_le _⟩) (fun v1 h => ?_)
  refine lv_istore_n (lv' := [(1, .int v1), (0, .ref (ad 39))]) hx hb dX2_readAct_8 rfl hl (by decide) rfl (fun ls hl => ?_)
  refine lv_iload_n hx hb dX2_readAct_9 rfl (lv_at hl 0 rfl) ?_
  refine lv_bipush (v := 46) hx hb dX2_readAct_10 (by decide) ?_
  refine lv_icmp_ne (tgt := 33) hx hb dX2_readAct_12 (by decide) (fun hc => ?_) (fun hc => ?_)
  · have h := qOk.f hc h
    refine lv_iload_n hx hb dX2_readAct_33 rfl (lv_at hl 0 rfl) ?_
    refine lv_bipush (v := 42) hx hb dX2_readAct_34 (by decide) ?_
    refine lv_icmp_ne (tgt := 56) hx hb dX2_readAct_36 (by decide) (fun hc => ?_) (fun hc => ?_)
    · have h := qOk.f hc h
      refine lv_iload_n hx hb dX2_readAct_56 rfl (lv_at hl 0 rfl) ?_
      refine lv_bipush (v := 65) hx hb dX2_readAct_57 (by decide) ?_
      refine lv_icmp_lt (tgt := 68) hx hb dX2_readAct_59 (by decide) (fun hc => ?_) (fun hc => ?_)
      · have h := qOk.t hc h
        refine lv_iconst (v := 0) hx hb dX2_readAct_68 (by decide) ?_
        exact W.zret hx hb hr rfl (fun t ht _ => ⟨⟨_, _, rfl, qOk2.s h, qHpt ht hH.1⟩, hH.2.F ht⟩) hH.2.2.2 dX2_readAct_69
      · have h := qOk.f hc h
        refine lv_iload_n hx hb dX2_readAct_62 rfl (lv_at hl 0 rfl) ?_
        refine lv_bipush (v := 73) hx hb dX2_readAct_63 (by decide) ?_
        refine lv_icmp_lt (tgt := 70) hx hb dX2_readAct_65 (by decide) (fun hc => ?_) (fun hc => ?_)
        · have h := qOk.t hc h
          refine lv_aload_n hx hb dX2_readAct_70 rfl (lv_at hl 1 rfl) ?_
          refine lv_dup hx hb dX2_readAct_71 rfl ?_
          refine y_get hx hb hts i_X2 hown hK hH qOb_2 rfl 6 (by decide) f28 rfl dX2_readAct_72 ?_
          refine lv_iconst (v := 1) hx hb dX2_readAct_75 (by decide) ?_
          refine lv_iadd hx hb dX2_readAct_76 ?_
          refine y_put hx hb hts i_X2 tyX2 tyX2_ok nmX2 hown hK hI hH qOb_2 rfl 6 (by decide) f28 rfl (by decide +kernel) (Nat.le_of_ble_eq_true rfl) (fun _ => rfl) h dX2_readAct_77 (fun M2 H locs hH h => ?_)
          refine lv_aload_n hx hb dX2_readAct_80 rfl (lv_at hl 1 rfl) ?_
          refine lv_iload_n hx hb dX2_readAct_81 rfl (lv_at hl 0 rfl) ?_
          refine lv_bipush (v := 65) hx hb dX2_readAct_82 (by decide) ?_
          refine lv_isub hx hb dX2_readAct_84 ?_
          refine y_ci hH (va_runV (As := [.int (v1 - 65)]) (rest := []) ⟨hx, hb, hml, hown, hts⟩ (c_X2_readDeed l G ad hI M2 _ (v1 - 65) (qOk.b2 h)) (cwV 1 hts gX2_readAct_X2_readDeed rfl rfl rfl (by decide +kernel) ⟨Nat.le_of_ble_eq_true rfl, Nat.le_of_ble_eq_true rfl⟩) ⟨qPre.blind, qrecv hK hH qOb_2 rfl, qPre.at hK hH⟩ rfl rfl hl.1 rfl (lv_room (Nat.le_of_ble_eq_true rfl)) dX2_readAct_85 ⟨Nat.zero_le _, Nat.zero_le _⟩) (fun v4 M3 H locs hH h => ?_)
          obtain ⟨hbn, h⟩ := qOk.bl h
          exact W.zret hx hb hr (qnarb hbn) (fun t ht _ => ⟨⟨_, _, rfl, qOk2.s h, qHpt ht hH.1⟩, hH.2.F ht⟩) hH.2.2.2 dX2_readAct_88
        · have h := qOk.f hc h
          refine lv_iconst (v := 0) hx hb dX2_readAct_68 (by decide) ?_
          exact W.zret hx hb hr rfl (fun t ht _ => ⟨⟨_, _, rfl, qOk2.s h, qHpt ht hH.1⟩, hH.2.F ht⟩) hH.2.2.2 dX2_readAct_69
    · have h := qOk.t hc h
      refine lv_aload_n hx hb dX2_readAct_39 rfl (lv_at hl 1 rfl) ?_
      refine lv_dup hx hb dX2_readAct_40 rfl ?_
      refine y_get hx hb hts i_X2 hown hK hH qOb_2 rfl 6 (by decide) f28 rfl dX2_readAct_41 ?_
      refine lv_iconst (v := 1) hx hb dX2_readAct_44 (by decide) ?_
      refine lv_iadd hx hb dX2_readAct_45 ?_
      refine y_put hx hb hts i_X2 tyX2 tyX2_ok nmX2 hown hK hI hH qOb_2 rfl 6 (by decide) f28 rfl (by decide +kernel) (Nat.le_of_ble_eq_true rfl) (fun _ => rfl) h dX2_readAct_46 (fun M5 H locs hH h => ?_)
      refine lv_aload_n hx hb dX2_readAct_49 rfl (lv_at hl 1 rfl) ?_
      refine lv_iconst (v := 3) hx hb dX2_readAct_50 (by decide) ?_
      refine lv_iconst (v := 0) hx hb dX2_readAct_51 (by decide) ?_
      refine y_ci hH (va_runV (As := [.int 3, .int 0]) (rest := []) ⟨hx, hb, hml, hown, hts⟩ (c_X2_readGallery l G ad hI M5 _ 3 0 (qOk.b2 h)) (cwV 2 hts gX2_readAct_X2_readGallery rfl rfl rfl (by decide +kernel) ⟨Nat.le_of_ble_eq_true rfl, Nat.le_of_ble_eq_true rfl⟩) ⟨qPre.blind, qrecv hK hH qOb_2 rfl, qPre.at hK hH⟩ rfl rfl hl.1 rfl (lv_room (Nat.le_of_ble_eq_true rfl)) dX2_readAct_52 ⟨Nat.zero_le _, Nat.zero_le _⟩) (fun v7 M6 H locs hH h => ?_)
      obtain ⟨hbn, h⟩ := qOk.bl h
      exact W.zret hx hb hr (qnarb hbn) (fun t ht _ => ⟨⟨_, _, rfl, qOk2.s h, qHpt ht hH.1⟩, hH.2.F ht⟩) hH.2.2.2 dX2_readAct_55
  · have h := qOk.t hc h
    refine lv_aload_n hx hb dX2_readAct_15 rfl (lv_at hl 1 rfl) ?_
    refine lv_dup hx hb dX2_readAct_16 rfl ?_
    refine y_get hx hb hts i_X2 hown hK hH qOb_2 rfl 6 (by decide) f28 rfl dX2_readAct_17 ?_
    refine lv_iconst (v := 1) hx hb dX2_readAct_20 (by decide) ?_
    refine lv_iadd hx hb dX2_readAct_21 ?_
    refine y_put hx hb hts i_X2 tyX2 tyX2_ok nmX2 hown hK hI hH qOb_2 rfl 6 (by decide) f28 rfl (by decide +kernel) (Nat.le_of_ble_eq_true rfl) (fun _ => rfl) h dX2_readAct_22 (fun M8 H locs hH h => ?_)
    refine lv_aload_n hx hb dX2_readAct_25 rfl (lv_at hl 1 rfl) ?_
    refine lv_iconst (v := 4) hx hb dX2_readAct_26 (by decide) ?_
    refine lv_iconst (v := 0) hx hb dX2_readAct_27 (by decide) ?_
    refine lv_iconst (v := 0) hx hb dX2_readAct_28 (by decide) ?_
    refine y_ci hH (va_runV (As := [.int 4, .int 0, .int 0]) (rest := []) ⟨hx, hb, hml, hown, hts⟩ (c_X2_addAct l G ad hI M8 _ 4 0 0 (qOk.b2 h)) (cwV 3 hts gX2_readAct_X2_addAct rfl rfl rfl (by decide +kernel) ⟨Nat.le_of_ble_eq_true rfl, Nat.le_of_ble_eq_true rfl⟩) ⟨qPre.blind, qrecv hK hH qOb_2 rfl, qPre.at hK hH⟩ rfl rfl hl.1 rfl (lv_room (Nat.le_of_ble_eq_true rfl)) dX2_readAct_29 ⟨Nat.zero_le _, Nat.zero_le _⟩) (fun v10 M9 H locs hH h => ?_)
    obtain ⟨hbn, h⟩ := qOk.bl h
    exact W.zret hx hb hr (qnarb hbn) (fun t ht _ => ⟨⟨_, _, rfl, qOk2.s h, qHpt ht hH.1⟩, hH.2.F ht⟩) hH.2.2.2 dX2_readAct_32
abbrev rm_X2_readActs : Room := { frames := 4, cells := 0, slots := 0, locals := 89 }
set_option maxHeartbeats 4000000 in
set_option maxRecDepth 100000 in
theorem c_X2_readActs (l : Launch) (G : qG) (ad : Nat → Nat) (hI : qI W1N ad) (M : qM) (sz : Nat) {P : Int32 → qM → Prop} (h : qOk2 (kX2_readActs M) P) : Met l yX2_readActs wsX2_readActs rm_X2_readActs (va_Pc [.ref (ad 39)] (qPre W1N e1 G ad M sz)) (va_Qi P (fun u t => qHp W1N e1 G ad u t.heap) (qA W1N ad sz)) 0 0 (qA W1N ad sz) := by
  refine Met.ofW (cc := cX2_readActs) (maxL := 2) (ret := (some .int)) (by decide) rfl ?_
  intro p e s m args below meth c s₁ B hml hv
  obtain ⟨rfl, hsz, hK, hP⟩ := hv
  subst hsz
  have hx := B.exec
  have hb := B.bytes
  have hr := B.returns
  have hts := atoms_spec (ws := wsX2_readActs) B.pre
  have hown : s.vm.findClass RX2 = some m.cls := findClass_of_methodNamed B.named
  have hlocks := B.notSynchronized
  have hH : qHS W1N e1 G ad M s.heap s.heap [] := ⟨hP, va_S.rf⟩
  have f24 : (Cond.fieldLink RX2 24 "SongLamps$Pad" "acts" "I").before [.ref (ad 39)].toArray s = true := hts _ (by decide +kernel)
  have i_X2 : ∀ w ∈ wsX20, w ∈ wsX2_readActs := fun w hw => List.mem_cons_of_mem _ ((List.mem_append_right _ hw))
  have f28 : (Cond.fieldLink RX2 28 "SongLamps$Pad" "next" "I").before [.ref (ad 39)].toArray s = true := hts _ (by decide +kernel)
  have f31 : (Cond.fieldLink RX2 31 "SongLamps$Pad" "size" "I").before [.ref (ad 39)].toArray s = true := hts _ (by decide +kernel)
  have hl := lv_entry ([.ref (ad 39)]) (n := 2) (Nat.le_of_ble_eq_true rfl)
  rw [lg_entry_eq]
  generalize (lg_sl ([.ref (ad 39)]) ++ List.replicate (2 - (lg_sl ([.ref (ad 39)])).length) Slot.unset).toArray = ls at hl ⊢
  have hl : lv_has ls 2 [(0, .ref (ad 39))] := hl
  have h : qOk (kX2_readActs M) _ := h
  unfold kX2_readActs at h
  refine lv_aload_n hx hb dX2_readActs_0 rfl (lv_at hl 0 rfl) ?_
  refine lv_iconst (v := 0) hx hb dX2_readActs_1 (by decide) ?_
  refine y_put hx hb hts i_X2 tyX2 tyX2_ok nmX2 hown hK hI hH qOb_2 rfl 5 (by decide) f24 rfl (by decide +kernel) (Nat.le_of_ble_eq_true rfl) (fun _ => rfl) h dX2_readActs_2 (fun M1 H locs hH h => ?_)
  refine lv_aload_n hx hb dX2_readActs_5 rfl (lv_at hl 0 rfl) ?_
  refine lv_iconst (v := 0) hx hb dX2_readActs_6 (by decide) ?_
  refine y_put hx hb hts i_X2 tyX2 tyX2_ok nmX2 hown hK hI hH qOb_2 rfl 6 (by decide) f28 rfl (by decide +kernel) (Nat.le_of_ble_eq_true rfl) (fun _ => rfl) h dX2_readActs_7 (fun M2 H locs hH h => ?_)
  refine lv_iconst (v := 0) hx hb dX2_readActs_10 (by decide) ?_
  refine lv_istore_n (lv' := [(1, .int 0), (0, .ref (ad 39))]) hx hb dX2_readActs_11 rfl hl (by decide) rfl (fun ls hl => ?_)
  refine qjx1 (G := fun (M5 : qM) => ∀ (H : Heap) (locs : List Loc), qHS W1N e1 G ad M5 s.heap H locs → ∀ ls : Array Slot, lv_has ls 2 [] → W p l e (headSpec wsX2_readActs rm_X2_readActs).room s m [.ref (ad 39)].toArray below meth c H locs 0 0 (MQ below (va_Qi P (fun u t => qHp W1N e1 G ad u t.heap) (qA W1N ad s.heap.size)) [.ref (ad 39)].toArray s 0 0 (qA W1N ad s.heap.size)) (F0 m 47 ls [])) h ?_ ?_
  rotate_left
  · intro h
    refine qloop2 (I := fun (v3 : Int32) (M4 : qM) => ∀ (H : Heap) (locs : List Loc), qHS W1N e1 G ad M4 s.heap H locs → ∀ ls : Array Slot, lv_has ls 2 [(0, .ref (ad 39)), (1, .int v3)] → W p l e (headSpec wsX2_readActs rm_X2_readActs).room s m [.ref (ad 39)].toArray below meth c H locs 0 0 (MQ below (va_Qi P (fun u t => qHp W1N e1 G ad u t.heap) (qA W1N ad s.heap.size)) [.ref (ad 39)].toArray s 0 0 (qA W1N ad s.heap.size)) (F0 m 12 ls [])) ?_ h _ _ hH _ (lv_sub hl [1, 0] rfl)
    intro v3 M4 h H locs hH ls hl
    have h : qOk (kX2_readActs_L12 v3 M4) _ := h
    unfold kX2_readActs_L12 at h
    refine lv_iload_n hx hb dX2_readActs_12 rfl (lv_at hl 1 rfl) ?_
    refine lv_bipush (v := 60) hx hb dX2_readActs_13 (by decide) ?_
    refine lv_icmp_ge (tgt := 47) hx hb dX2_readActs_15 (by decide) (fun hc => ?_) (fun hc => ?_)
    · have h := qOk.t hc h
      exact qOk.lx h _ _ hH _ (lv_sub hl [] rfl)
    · have h := qOk.f hc h
      refine lv_aload_n hx hb dX2_readActs_18 rfl (lv_at hl 0 rfl) ?_
      refine y_get hx hb hts i_X2 hown hK hH qOb_2 rfl 6 (by decide) f28 rfl dX2_readActs_19 ?_
      refine lv_aload_n hx hb dX2_readActs_22 rfl (lv_at hl 0 rfl) ?_
      refine y_get hx hb hts i_X2 hown hK hH qOb_2 rfl 1 (by decide) f31 rfl dX2_readActs_23 ?_
      refine lv_icmp_ge (tgt := 47) hx hb dX2_readActs_26 (by decide) (fun hc => ?_) (fun hc => ?_)
      · have h := qOk.t hc h
        exact qOk.lx h _ _ hH _ (lv_sub hl [] rfl)
      · have h := qOk.f hc h
        refine lv_aload_n hx hb dX2_readActs_29 rfl (lv_at hl 0 rfl) ?_
        refine y_ci hH (va_runV (As := []) (rest := []) ⟨hx, hb, hml, hown, hts⟩ (c_X2_readAct l G ad hI M4 _  (qOk.b2 h)) (cwV 0 hts gX2_readActs_X2_readAct rfl rfl rfl (by decide +kernel) ⟨Nat.le_of_ble_eq_true rfl, Nat.le_of_ble_eq_true rfl⟩) ⟨qPre.blind, qrecv hK hH qOb_2 rfl, qPre.at hK hH⟩ rfl rfl hl.1 rfl (lv_room (Nat.le_of_ble_eq_true rfl)) dX2_readActs_30 ⟨Nat.zero_le _, Nat.zero_le _⟩) (fun v7 M6 H locs hH h => ?_)
        refine lv_if_ne (tgt := 41) hx hb dX2_readActs_33 (by decide) (fun hc => ?_) (fun hc => ?_)
        · have h := qOk.f hc h
          obtain ⟨v8, ev8⟩ : ∃ y : Int32, y = v3 + 1 := ⟨_, rfl⟩
          have h := qOk.v h ev8
          refine lv_iinc (v := v8) (lv' := [(1, .int v8), (0, .ref (ad 39))]) hx hb dX2_readActs_41 hl (k := 1) rfl (by rw [ev8]; rfl) (by decide) rfl (fun ls hl => ?_)
          refine lv_goto (tgt := 12) hx hb dX2_readActs_44 (by decide) ?_
          exact qOk.li h _ _ hH _ (lv_sub hl [1, 0] rfl)
        · have h := qOk.t hc h
          refine lv_aload_n hx hb dX2_readActs_36 rfl (lv_at hl 0 rfl) ?_
          refine y_get hx hb hts i_X2 hown hK hH qOb_2 rfl 6 (by decide) f28 rfl dX2_readActs_37 ?_
          have h := qOk.lr h
          exact W.iret hx hb hr (fun t ht _ => ⟨⟨_, _, rfl, qOk2.s h, qHpt ht hH.1⟩, hH.2.F ht⟩) hH.2.2.2 dX2_readActs_40
  intro M5 h H locs hH ls hl
  refine lv_bipush (v := (-6)) hx hb dX2_readActs_47 (by decide) ?_
  exact W.iret hx hb hr (fun t ht _ => ⟨⟨_, _, rfl, qOk2.s h, qHpt ht hH.1⟩, hH.2.F ht⟩) hH.2.2.2 dX2_readActs_49
