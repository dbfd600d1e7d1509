abbrev rm_X8_say : Room := { frames := 1, cells := 0, slots := 0, locals := 22 }
set_option maxHeartbeats 4000000 in
set_option maxRecDepth 100000 in
theorem c_X8_say (l : Launch) (G : qG) (ad : Nat → Nat) (hI : qI W2N ad) (M : qM) (sz : Nat) (x1 : Int32) {P : Int32 → qM → Prop} (h : qOk2 (kX8_say M x1) P) : Met l yX8_say wsX8_say rm_X8_say (va_Pc [.ref (ad 0), .int x1] (qPre W2N e2 G ad M sz)) (va_Qi P (fun u t => qHp W2N e2 G ad u t.heap) (qA W2N ad sz)) 0 0 (qA W2N ad sz) := by
  refine Met.ofW (cc := cX8_say) (maxL := 2) (ret := (some .int)) (by decide) rfl ?_
  intro p e s m args below meth c s₁ B hml hv
  obtain ⟨rfl, hsz, hK, hP⟩ := hv
  subst hsz
  have hx := B.exec
  have hb := B.bytes
  have hr := B.returns
  have hts := atoms_spec (ws := wsX8_say) B.pre
  have hown : s.vm.findClass RX8 = some m.cls := findClass_of_methodNamed B.named
  have hlocks := B.notSynchronized
  have hH : qHS W2N e2 G ad M s.heap s.heap [] := ⟨hP, va_S.rf⟩
  have f85 : (Cond.fieldLink RX8 85 "SongLampsModel" "signs" "I").before [.ref (ad 0), .int x1].toArray s = true := hts _ (by decide +kernel)
  have i_X8 : ∀ w ∈ wsX80, w ∈ wsX8_say := fun w hw => List.mem_cons_of_mem _ ((List.mem_append_right _ hw))
  have f34 : (Cond.fieldLink RX8 34 "SongLampsModel" "pad" "[I").before [.ref (ad 0), .int x1].toArray s = true := hts _ (by decide +kernel)
  have hl := lv_entry ([.ref (ad 0), .int x1]) (n := 2) (Nat.le_of_ble_eq_true rfl)
  rw [lg_entry_eq]
  generalize (lg_sl ([.ref (ad 0), .int x1]) ++ List.replicate (2 - (lg_sl ([.ref (ad 0), .int x1])).length) Slot.unset).toArray = ls at hl ⊢
  have hl : lv_has ls 2 [(0, .ref (ad 0)), (1, .int x1)] := hl
  have h : qOk (kX8_say M x1) _ := h
  unfold kX8_say at h
  refine lv_iload_n hx hb dX8_say_0 rfl (lv_at hl 1 rfl) ?_
  refine lv_bipush (v := 33) hx hb dX8_say_1 (by decide) ?_
  refine lv_bipush (v := 126) hx hb dX8_say_3 (by decide) ?_
  refine y_cs (va_runS (As := [.int x1, .int 33, .int 126]) (rest := []) ⟨hx, hb, hml, hown, hts⟩ (c_X8_in l x1 33 126 (qOk.b1 h)) (va_cwS 3 hts gX8_say_X8_in rfl rfl rfl (by decide +kernel) ⟨Nat.le_of_ble_eq_true rfl, Nat.le_of_ble_eq_true rfl⟩) ⟨qPrT.blind, qPrT.at⟩ rfl rfl hl.1 rfl (lv_room (Nat.le_of_ble_eq_true rfl)) dX8_say_5 ⟨Nat.zero_le _, Nat.zero_le _⟩) (fun v1 h => ?_)
  refine lv_if_ne (tgt := 14) hx hb dX8_say_8 (by decide) (fun hc => ?_) (fun hc => ?_)
  · have h := qOk.f hc h
    refine lv_aload_n hx hb dX8_say_14 rfl (lv_at hl 0 rfl) ?_
    refine y_get hx hb hts i_X8 hown hK hH qOb_8 rfl 11 (by decide) f85 rfl dX8_say_15 ?_
    refine lv_bipush (v := 60) hx hb dX8_say_18 (by decide) ?_
    refine lv_icmp_ne (tgt := 26) hx hb dX8_say_20 (by decide) (fun hc => ?_) (fun hc => ?_)
    · have h := qOk.f hc h
      refine lv_aload_n hx hb dX8_say_26 rfl (lv_at hl 0 rfl) ?_
      refine y_get hx hb hts i_X8 hown hK hH qOb_8 rfl 12 (by decide) f34 rfl dX8_say_27 ?_
      refine lv_aload_n hx hb dX8_say_30 rfl (lv_at hl 0 rfl) ?_
      refine y_get hx hb hts i_X8 hown hK hH qOb_8 rfl 11 (by decide) f85 rfl dX8_say_31 ?_
      refine lv_iload_n hx hb dX8_say_34 rfl (lv_at hl 1 rfl) ?_
      refine y_iast hx hb hK hI hH qMr_9 h dX8_say_35 (fun M2 H locs hH h => ?_)
      refine lv_aload_n hx hb dX8_say_36 rfl (lv_at hl 0 rfl) ?_
      refine lv_dup hx hb dX8_say_37 rfl ?_
      refine y_get hx hb hts i_X8 hown hK hH qOb_8 rfl 11 (by decide) f85 rfl dX8_say_38 ?_
      refine lv_iconst (v := 1) hx hb dX8_say_41 (by decide) ?_
      refine lv_iadd hx hb dX8_say_42 ?_
      refine y_put hx hb hts i_X8 tyX8 tyX8_ok nmX8 hown hK hI hH qOb_8 rfl 11 (by decide) f85 rfl (by decide +kernel) (Nat.le_of_ble_eq_true rfl) (fun _ => rfl) h dX8_say_43 (fun M3 H locs hH h => ?_)
      refine lv_aload_n hx hb dX8_say_46 rfl (lv_at hl 0 rfl) ?_
      refine y_get hx hb hts i_X8 hown hK hH qOb_8 rfl 11 (by decide) f85 rfl dX8_say_47 ?_
      exact W.iret hx hb hr (fun t ht _ => ⟨⟨_, _, rfl, qOk2.s h, qHpt ht hH.1⟩, hH.2.F ht⟩) hH.2.2.2 dX8_say_50
    · have h := qOk.t hc h
      refine lv_bipush (v := (-4)) hx hb dX8_say_23 (by decide) ?_
      exact W.iret hx hb hr (fun t ht _ => ⟨⟨_, _, rfl, qOk2.s h, qHpt ht hH.1⟩, hH.2.F ht⟩) hH.2.2.2 dX8_say_25
  · have h := qOk.t hc h
    refine lv_bipush (v := (-2)) hx hb dX8_say_11 (by decide) ?_
    exact W.iret hx hb hr (fun t ht _ => ⟨⟨_, _, rfl, qOk2.s h, qHpt ht hH.1⟩, hH.2.F ht⟩) hH.2.2.2 dX8_say_13
abbrev rm_X8_wipe : Room := { frames := 0, cells := 0, slots := 0, locals := 0 }
set_option maxHeartbeats 4000000 in
set_option maxRecDepth 100000 in
theorem c_X8_wipe (l : Launch) (G : qG) (ad : Nat → Nat) (hI : qI W2N ad) (M : qM) (sz : Nat) {P : Int32 → qM → Prop} (h : qOk2 (kX8_wipe M) P) : Met l yX8_wipe wsX8_wipe rm_X8_wipe (va_Pc [.ref (ad 0)] (qPre W2N e2 G ad M sz)) (va_Qi P (fun u t => qHp W2N e2 G ad u t.heap) (qA W2N ad sz)) 0 0 (qA W2N ad sz) := by
  refine Met.ofW (cc := cX8_wipe) (maxL := 2) (ret := (some .int)) (by decide) rfl ?_
  intro p e s m args below meth c s₁ B hml hv
  obtain ⟨rfl, hsz, hK, hP⟩ := hv
  subst hsz
  have hx := B.exec
  have hb := B.bytes
  have hr := B.returns
  have hts := atoms_spec (ws := wsX8_wipe) B.pre
  have hown : s.vm.findClass RX8 = some m.cls := findClass_of_methodNamed B.named
  have hlocks := B.notSynchronized
  have hH : qHS W2N e2 G ad M s.heap s.heap [] := ⟨hP, va_S.rf⟩
  have f85 : (Cond.fieldLink RX8 85 "SongLampsModel" "signs" "I").before [.ref (ad 0)].toArray s = true := hts _ (by decide +kernel)
  have i_X8 : ∀ w ∈ wsX80, w ∈ wsX8_wipe := fun w hw => List.mem_cons_of_mem _ ((List.mem_append_right _ hw))
  have hl := lv_entry ([.ref (ad 0)]) (n := 2) (Nat.le_of_ble_eq_true rfl)
  rw [lg_entry_eq]
  generalize (lg_sl ([.ref (ad 0)]) ++ List.replicate (2 - (lg_sl ([.ref (ad 0)])).length) Slot.unset).toArray = ls at hl ⊢
  have hl : lv_has ls 2 [(0, .ref (ad 0))] := hl
  have h : qOk (kX8_wipe M) _ := h
  unfold kX8_wipe at h
  refine lv_aload_n hx hb dX8_wipe_0 rfl (lv_at hl 0 rfl) ?_
  refine y_get hx hb hts i_X8 hown hK hH qOb_8 rfl 11 (by decide) f85 rfl dX8_wipe_1 ?_
  refine lv_topi (fun v1 ev1 => ?_)
  have h := qOk.v h ev1
  refine lv_istore_n (lv' := [(1, .int v1), (0, .ref (ad 0))]) hx hb dX8_wipe_4 rfl hl (by decide) rfl (fun ls hl => ?_)
  refine lv_aload_n hx hb dX8_wipe_5 rfl (lv_at hl 1 rfl) ?_
  refine lv_iconst (v := 0) hx hb dX8_wipe_6 (by decide) ?_
  refine y_put hx hb hts i_X8 tyX8 tyX8_ok nmX8 hown hK hI hH qOb_8 rfl 11 (by decide) f85 rfl (by decide +kernel) (Nat.le_of_ble_eq_true rfl) (fun _ => rfl) h dX8_wipe_7 (fun M2 H locs hH h => ?_)
  refine lv_iload_n hx hb dX8_wipe_10 rfl (lv_at hl 0 rfl) ?_
  exact W.iret hx hb hr (fun t ht _ => ⟨⟨_, _, rfl, qOk2.s h, qHpt ht hH.1⟩, hH.2.F ht⟩) hH.2.2.2 dX8_wipe_11
abbrev rm_X8_faultOf : Room := { frames := 1, cells := 0, slots := 0, locals := 22 }
set_option maxHeartbeats 4000000 in
set_option maxRecDepth 100000 in
theorem c_X8_faultOf (l : Launch) (G : qG) (ad : Nat → Nat) (hI : qI W2N ad) (M : qM) (sz : Nat) {P : Int32 → Prop} (h : qOk (kX8_faultOf M) P) : Met l yX8_faultOf wsX8_faultOf rm_X8_faultOf (va_Pc [.ref (ad 0)] (qPre W2N e2 G ad M sz)) (vp_Si P) 0 0 (fun _ => False) := by
  refine Met.ofW (cc := cX8_faultOf) (maxL := 5) (ret := (some .int)) (by decide) rfl ?_
  intro p e s m args below meth c s₁ B hml hv
  obtain ⟨rfl, hsz, hK, hP⟩ := hv
  subst hsz
  have hx := B.exec
  have hb := B.bytes
  have hr := B.returns
  have hts := atoms_spec (ws := wsX8_faultOf) B.pre
  have hown : s.vm.findClass RX8 = some m.cls := findClass_of_methodNamed B.named
  have hlocks := B.notSynchronized
  have hH : qHS W2N e2 G ad M s.heap s.heap [] := ⟨hP, va_S.rf⟩
  have f85 : (Cond.fieldLink RX8 85 "SongLampsModel" "signs" "I").before [.ref (ad 0)].toArray s = true := hts _ (by decide +kernel)
  have i_X8 : ∀ w ∈ wsX80, w ∈ wsX8_faultOf := fun w hw => List.mem_cons_of_mem _ ((List.mem_append_right _ hw))
  have f34 : (Cond.fieldLink RX8 34 "SongLampsModel" "pad" "[I").before [.ref (ad 0)].toArray s = true := hts _ (by decide +kernel)
  have hl := lv_entry ([.ref (ad 0)]) (n := 5) (Nat.le_of_ble_eq_true rfl)
  rw [lg_entry_eq]
  generalize (lg_sl ([.ref (ad 0)]) ++ List.replicate (5 - (lg_sl ([.ref (ad 0)])).length) Slot.unset).toArray = ls at hl ⊢
  have hl : lv_has ls 5 [(0, .ref (ad 0))] := hl
  have h : qOk (kX8_faultOf M) _ := h
  unfold kX8_faultOf at h
  refine lv_iconst (v := 0) hx hb dX8_faultOf_0 (by decide) ?_
  refine lv_istore_n (lv' := [(1, .int 0), (0, .ref (ad 0))]) hx hb dX8_faultOf_1 rfl hl (by decide) rfl (fun ls hl => ?_)
  refine lv_iconst (v := 0) hx hb dX8_faultOf_2 (by decide) ?_
  refine lv_istore_n (lv' := [(2, .int 0), (1, .int 0), (0, .ref (ad 0))]) hx hb dX8_faultOf_3 rfl hl (by decide) rfl (fun ls hl => ?_)
  refine qjx1 (G := fun (v3 : Int32) => ∀ ls : Array Slot, lv_has ls 5 [(0, .ref (ad 0)), (1, .int v3)] → W p l e (headSpec wsX8_faultOf rm_X8_faultOf).room s m [.ref (ad 0)].toArray below meth c s.heap [] 0 0 (MQ below (vp_Si P) [.ref (ad 0)].toArray s 0 0 (fun _ => False)) (F0 m 158 ls [])) h ?_ ?_
  rotate_left
  · intro h
    refine qloop2 (I := fun (v1 : Int32) (v2 : Int32) => ∀ ls : Array Slot, lv_has ls 5 [(0, .ref (ad 0)), (1, .int v1), (2, .int v2)] → W p l e (headSpec wsX8_faultOf rm_X8_faultOf).room s m [.ref (ad 0)].toArray below meth c s.heap [] 0 0 (MQ below (vp_Si P) [.ref (ad 0)].toArray s 0 0 (fun _ => False)) (F0 m 4 ls [])) ?_ h _ (lv_sub hl [2, 1, 0] rfl)
    intro v1 v2 h ls hl
    have h : qOk (kX8_faultOf_L4 M v1 v2) _ := h
    unfold kX8_faultOf_L4 at h
    refine lv_iload_n hx hb dX8_faultOf_4 rfl (lv_at hl 2 rfl) ?_
    refine lv_aload_n hx hb dX8_faultOf_5 rfl (lv_at hl 0 rfl) ?_
    refine y_get hx hb hts i_X8 hown hK hH qOb_8 rfl 11 (by decide) f85 rfl dX8_faultOf_6 ?_
    refine lv_icmp_ge (tgt := 158) hx hb dX8_faultOf_9 (by decide) (fun hc => ?_) (fun hc => ?_)
    · have h := qOk.t hc h
      exact qOk.lx h _ (lv_sub hl [0, 1] rfl)
    · have h := qOk.f hc h
      refine lv_aload_n hx hb dX8_faultOf_12 rfl (lv_at hl 0 rfl) ?_
      refine y_get hx hb hts i_X8 hown hK hH qOb_8 rfl 12 (by decide) f34 rfl dX8_faultOf_13 ?_
      refine lv_iload_n hx hb dX8_faultOf_16 rfl (lv_at hl 2 rfl) ?_
      refine y_iald hx hb hK hH qMr_9 h dX8_faultOf_17 (fun v4 h => ?_)
      refine lv_istore_n (lv' := [(3, .int v4), (0, .ref (ad 0)), (1, .int v1), (2, .int v2)]) hx hb dX8_faultOf_18 rfl hl (by decide) rfl (fun ls hl => ?_)
      refine lv_iload_n hx hb dX8_faultOf_19 rfl (lv_at hl 2 rfl) ?_
      refine qj1 (G := fun (v5 : Int32) => W p l e (headSpec wsX8_faultOf rm_X8_faultOf).room s m [.ref (ad 0)].toArray below meth c s.heap [] 0 0 (MQ below (vp_Si P) [.ref (ad 0)].toArray s 0 0 (fun _ => False)) (F0 m 98 ls [.int v5])) h ?_ ?_
      rotate_left
      · intro h
        refine lv_if_ne (tgt := 54) hx hb dX8_faultOf_20 (by decide) (fun hc => ?_) (fun hc => ?_)
        · have h := qOk.f hc h
          refine lv_iload_n hx hb dX8_faultOf_54 rfl (lv_at hl 2 rfl) ?_
          refine lv_iconst (v := 1) hx hb dX8_faultOf_55 (by decide) ?_
          refine lv_icmp_ne (tgt := 90) hx hb dX8_faultOf_56 (by decide) (fun hc => ?_) (fun hc => ?_)
          · have h := qOk.f hc h
            refine lv_iload_n hx hb dX8_faultOf_90 rfl (lv_at hl 0 rfl) ?_
            refine lv_bipush (v := 48) hx hb dX8_faultOf_91 (by decide) ?_
            refine lv_bipush (v := 57) hx hb dX8_faultOf_93 (by decide) ?_
            refine y_cs (va_runS (As := [.int v4, .int 48, .int 57]) (rest := []) ⟨hx, hb, hml, hown, hts⟩ (c_X8_in l v4 48 57 (qOk.b1 h)) (va_cwS 3 hts gX8_faultOf_X8_in rfl rfl rfl (by decide +kernel) ⟨Nat.le_of_ble_eq_true rfl, Nat.le_of_ble_eq_true rfl⟩) ⟨qPrT.blind, qPrT.at⟩ rfl rfl hl.1 rfl (lv_room (Nat.le_of_ble_eq_true rfl)) dX8_faultOf_95 ⟨Nat.zero_le _, Nat.zero_le _⟩) (fun v6 h => ?_)
            have h := qOk.s h
            exact h
          · have h := qOk.t hc h
            refine lv_iload_n hx hb dX8_faultOf_59 rfl (lv_at hl 0 rfl) ?_
            refine lv_bipush (v := 97) hx hb dX8_faultOf_60 (by decide) ?_
            refine lv_bipush (v := 120) hx hb dX8_faultOf_62 (by decide) ?_
            refine y_cs (va_runS (As := [.int v4, .int 97, .int 120]) (rest := []) ⟨hx, hb, hml, hown, hts⟩ (c_X8_in l v4 97 120 (qOk.b1 h)) (va_cwS 3 hts gX8_faultOf_X8_in rfl rfl rfl (by decide +kernel) ⟨Nat.le_of_ble_eq_true rfl, Nat.le_of_ble_eq_true rfl⟩) ⟨qPrT.blind, qPrT.at⟩ rfl rfl hl.1 rfl (lv_room (Nat.le_of_ble_eq_true rfl)) dX8_faultOf_64 ⟨Nat.zero_le _, Nat.zero_le _⟩) (fun v7 h => ?_)
            refine lv_if_ne (tgt := 82) hx hb dX8_faultOf_67 (by decide) (fun hc => ?_) (fun hc => ?_)
            · have h := qOk.f hc h
              refine lv_iconst (v := 1) hx hb dX8_faultOf_82 (by decide) ?_
              refine lv_goto (tgt := 98) hx hb dX8_faultOf_83 (by decide) ?_
              have h := qOk.s h
              exact h
            · have h := qOk.t hc h
              refine lv_iload_n hx hb dX8_faultOf_70 rfl (lv_at hl 0 rfl) ?_
              refine lv_bipush (v := 45) hx hb dX8_faultOf_71 (by decide) ?_
              refine lv_icmp_eq (tgt := 82) hx hb dX8_faultOf_73 (by decide) (fun hc => ?_) (fun hc => ?_)
              · have h := qOk.t hc h
                refine lv_iconst (v := 1) hx hb dX8_faultOf_82 (by decide) ?_
                refine lv_goto (tgt := 98) hx hb dX8_faultOf_83 (by decide) ?_
                have h := qOk.s h
                exact h
              · have h := qOk.f hc h
                refine lv_iload_n hx hb dX8_faultOf_76 rfl (lv_at hl 0 rfl) ?_
                refine lv_bipush (v := 62) hx hb dX8_faultOf_77 (by decide) ?_
                refine lv_icmp_ne (tgt := 86) hx hb dX8_faultOf_79 (by decide) (fun hc => ?_) (fun hc => ?_)
                · have h := qOk.f hc h
                  refine lv_iconst (v := 0) hx hb dX8_faultOf_86 (by decide) ?_
                  refine lv_goto (tgt := 98) hx hb dX8_faultOf_87 (by decide) ?_
                  have h := qOk.s h
                  exact h
                · have h := qOk.t hc h
                  refine lv_iconst (v := 1) hx hb dX8_faultOf_82 (by decide) ?_
                  refine lv_goto (tgt := 98) hx hb dX8_faultOf_83 (by decide) ?_
                  have h := qOk.s h
                  exact h
        · have h := qOk.t hc h
          refine lv_iload_n hx hb dX8_faultOf_23 rfl (lv_at hl 0 rfl) ?_
          refine lv_bipush (v := 65) hx hb dX8_faultOf_24 (by decide) ?_
          refine lv_bipush (v := 72) hx hb dX8_faultOf_26 (by decide) ?_
          refine y_cs (va_runS (As := [.int v4, .int 65, .int 72]) (rest := []) ⟨hx, hb, hml, hown, hts⟩ (c_X8_in l v4 65 72 (qOk.b1 h)) (va_cwS 3 hts gX8_faultOf_X8_in rfl rfl rfl (by decide +kernel) ⟨Nat.le_of_ble_eq_true rfl, Nat.le_of_ble_eq_true rfl⟩) ⟨qPrT.blind, qPrT.at⟩ rfl rfl hl.1 rfl (lv_room (Nat.le_of_ble_eq_true rfl)) dX8_faultOf_28 ⟨Nat.zero_le _, Nat.zero_le _⟩) (fun v8 h => ?_)
          refine lv_if_ne (tgt := 46) hx hb dX8_faultOf_31 (by decide) (fun hc => ?_) (fun hc => ?_)
          · have h := qOk.f hc h
            refine lv_iconst (v := 1) hx hb dX8_faultOf_46 (by decide) ?_
            refine lv_goto (tgt := 98) hx hb dX8_faultOf_47 (by decide) ?_
            have h := qOk.s h
            exact h
          · have h := qOk.t hc h
            refine lv_iload_n hx hb dX8_faultOf_34 rfl (lv_at hl 0 rfl) ?_
            refine lv_bipush (v := 42) hx hb dX8_faultOf_35 (by decide) ?_
            refine lv_icmp_eq (tgt := 46) hx hb dX8_faultOf_37 (by decide) (fun hc => ?_) (fun hc => ?_)
            · have h := qOk.t hc h
              refine lv_iconst (v := 1) hx hb dX8_faultOf_46 (by decide) ?_
              refine lv_goto (tgt := 98) hx hb dX8_faultOf_47 (by decide) ?_
              have h := qOk.s h
              exact h
            · have h := qOk.f hc h
              refine lv_iload_n hx hb dX8_faultOf_40 rfl (lv_at hl 0 rfl) ?_
              refine lv_bipush (v := 46) hx hb dX8_faultOf_41 (by decide) ?_
              refine lv_icmp_ne (tgt := 50) hx hb dX8_faultOf_43 (by decide) (fun hc => ?_) (fun hc => ?_)
              · have h := qOk.f hc h
                refine lv_iconst (v := 0) hx hb dX8_faultOf_50 (by decide) ?_
                refine lv_goto (tgt := 98) hx hb dX8_faultOf_51 (by decide) ?_
                have h := qOk.s h
                exact h
              · have h := qOk.t hc h
                refine lv_iconst (v := 1) hx hb dX8_faultOf_46 (by decide) ?_
                refine lv_goto (tgt := 98) hx hb dX8_faultOf_47 (by decide) ?_
                have h := qOk.s h
                exact h
      intro v5 h
      refine lv_istore (lv' := [(4, .int v5), (3, .int v4), (0, .ref (ad 0)), (1, .int v1), (2, .int v2)]) hx hb dX8_faultOf_98 hl (by decide) rfl (fun ls hl => ?_)
      refine lv_iload hx hb dX8_faultOf_100 (lv_at hl 0 rfl) ?_
      refine lv_if_ne (tgt := 107) hx hb dX8_faultOf_102 (by decide) (fun hc => ?_) (fun hc => ?_)
      · have h := qOk.f hc h
        refine lv_iload_n hx hb dX8_faultOf_107 rfl (lv_at hl 3 rfl) ?_
        refine qj1 (G := fun (v9 : Int32) => W p l e (headSpec wsX8_faultOf rm_X8_faultOf).room s m [.ref (ad 0)].toArray below meth c s.heap [] 0 0 (MQ below (vp_Si P) [.ref (ad 0)].toArray s 0 0 (fun _ => False)) (F0 m 151 ls [.int v9])) h ?_ ?_
        rotate_left
        · intro h
          refine lv_if_ne (tgt := 135) hx hb dX8_faultOf_108 (by decide) (fun hc => ?_) (fun hc => ?_)
          · have h := qOk.f hc h
            refine lv_iload_n hx hb dX8_faultOf_135 rfl (lv_at hl 3 rfl) ?_
            refine lv_iconst (v := 1) hx hb dX8_faultOf_136 (by decide) ?_
            refine lv_icmp_ne (tgt := 150) hx hb dX8_faultOf_137 (by decide) (fun hc => ?_) (fun hc => ?_)
            · have h := qOk.f hc h
              refine lv_iconst (v := 0) hx hb dX8_faultOf_150 (by decide) ?_
              have h := qOk.s h
              exact h
            · have h := qOk.t hc h
              refine lv_iload_n hx hb dX8_faultOf_140 rfl (lv_at hl 1 rfl) ?_
              refine lv_bipush (v := 62) hx hb dX8_faultOf_141 (by decide) ?_
              refine lv_icmp_ne (tgt := 150) hx hb dX8_faultOf_143 (by decide) (fun hc => ?_) (fun hc => ?_)
              · have h := qOk.f hc h
                refine lv_iconst (v := 0) hx hb dX8_faultOf_150 (by decide) ?_
                have h := qOk.s h
                exact h
              · have h := qOk.t hc h
                refine lv_iconst (v := 2) hx hb dX8_faultOf_146 (by decide) ?_
                refine lv_goto (tgt := 151) hx hb dX8_faultOf_147 (by decide) ?_
                have h := qOk.s h
                exact h
          · have h := qOk.t hc h
            refine lv_iload_n hx hb dX8_faultOf_111 rfl (lv_at hl 1 rfl) ?_
            refine lv_bipush (v := 46) hx hb dX8_faultOf_112 (by decide) ?_
            refine lv_icmp_ne (tgt := 121) hx hb dX8_faultOf_114 (by decide) (fun hc => ?_) (fun hc => ?_)
            · have h := qOk.f hc h
              refine lv_iload_n hx hb dX8_faultOf_121 rfl (lv_at hl 1 rfl) ?_
              refine lv_bipush (v := 42) hx hb dX8_faultOf_122 (by decide) ?_
              refine lv_icmp_ne (tgt := 131) hx hb dX8_faultOf_124 (by decide) (fun hc => ?_) (fun hc => ?_)
              · have h := qOk.f hc h
                refine lv_iconst (v := 1) hx hb dX8_faultOf_131 (by decide) ?_
                refine lv_goto (tgt := 151) hx hb dX8_faultOf_132 (by decide) ?_
                have h := qOk.s h
                exact h
              · have h := qOk.t hc h
                refine lv_iconst (v := 2) hx hb dX8_faultOf_127 (by decide) ?_
                refine lv_goto (tgt := 151) hx hb dX8_faultOf_128 (by decide) ?_
                have h := qOk.s h
                exact h
            · have h := qOk.t hc h
              refine lv_iconst (v := 0) hx hb dX8_faultOf_117 (by decide) ?_
              refine lv_goto (tgt := 151) hx hb dX8_faultOf_118 (by decide) ?_
              have h := qOk.s h
              exact h
        intro v9 h
        refine lv_istore_n (lv' := [(1, .int v9), (4, .int v5), (3, .int v4), (0, .ref (ad 0)), (2, .int v2)]) hx hb dX8_faultOf_151 rfl hl (by decide) rfl (fun ls hl => ?_)
        obtain ⟨v10, ev10⟩ : ∃ y : Int32, y = v2 + 1 := ⟨_, rfl⟩
        have h := qOk.v h ev10
        refine lv_iinc (v := v10) (lv' := [(2, .int v10), (1, .int v9), (4, .int v5), (3, .int v4), (0, .ref (ad 0))]) hx hb dX8_faultOf_152 hl (k := 4) rfl (by rw [ev10]; rfl) (by decide) rfl (fun ls hl => ?_)
        refine lv_goto (tgt := 4) hx hb dX8_faultOf_155 (by decide) ?_
        exact qOk.li h _ (lv_sub hl [4, 1, 0] rfl)
      · have h := qOk.t hc h
        refine lv_iload_n hx hb dX8_faultOf_105 rfl (lv_at hl 4 rfl) ?_
        have h := qOk.lr h
        exact W.iret hx hb hr (fun t ht _ => ⟨_, rfl, qOk.s h, ht⟩) (fun _ hq => by cases hq) dX8_faultOf_106
  intro v3 h ls hl
  refine lv_iload_n hx hb dX8_faultOf_158 rfl (lv_at hl 1 rfl) ?_
  refine qj1 (G := fun (v11 : Int32) => W p l e (headSpec wsX8_faultOf rm_X8_faultOf).room s m [.ref (ad 0)].toArray below meth c s.heap [] 0 0 (MQ below (vp_Si P) [.ref (ad 0)].toArray s 0 0 (fun _ => False)) (F0 m 171 ls [.int v11])) h ?_ ?_
  rotate_left
  · intro h
    refine lv_if_ne (tgt := 167) hx hb dX8_faultOf_159 (by decide) (fun hc => ?_) (fun hc => ?_)
    · have h := qOk.f hc h
      refine lv_aload_n hx hb dX8_faultOf_167 rfl (lv_at hl 0 rfl) ?_
      refine y_get hx hb hts i_X8 hown hK hH qOb_8 rfl 11 (by decide) f85 rfl dX8_faultOf_168 ?_
      have h := qOk.s h
      exact h
    · have h := qOk.t hc h
      refine lv_bipush (v := (-6)) hx hb dX8_faultOf_162 (by decide) ?_
      refine lv_goto (tgt := 171) hx hb dX8_faultOf_164 (by decide) ?_
      have h := qOk.s h
      exact h
  intro v11 h
  exact W.iret hx hb hr (fun t ht _ => ⟨_, rfl, qOk.s h, ht⟩) (fun _ hq => by cases hq) dX8_faultOf_171
abbrev rm_X8_fault : Room := { frames := 2, cells := 0, slots := 0, locals := 46 }
set_option maxHeartbeats 4000000 in
set_option maxRecDepth 100000 in
theorem c_X8_fault (l : Launch) (G : qG) (ad : Nat → Nat) (hI : qI W2N ad) (M : qM) (sz : Nat) {P : Int32 → Prop} (h : qOk (kX8_fault M) P) : Met l yX8_fault wsX8_fault rm_X8_fault (va_Pc [.ref (ad 0)] (qPre W2N e2 G ad M sz)) (vp_Si P) 0 0 (fun _ => False) := by
  refine Met.ofW (cc := cX8_fault) (maxL := 1) (ret := (some .int)) (by decide) rfl ?_
  intro p e s m args below meth c s₁ B hml hv
  obtain ⟨rfl, hsz, hK, hP⟩ := hv
  subst hsz
  have hx := B.exec
  have hb := B.bytes
  have hr := B.returns
  have hts := atoms_spec (ws := wsX8_fault) B.pre
  have hown : s.vm.findClass RX8 = some m.cls := findClass_of_methodNamed B.named
  have hlocks := B.notSynchronized
  have hH : qHS W2N e2 G ad M s.heap s.heap [] := ⟨hP, va_S.rf⟩
  have hl := lv_entry ([.ref (ad 0)]) (n := 1) (Nat.le_of_ble_eq_true rfl)
  rw [lg_entry_eq]
  generalize (lg_sl ([.ref (ad 0)]) ++ List.replicate (1 - (lg_sl ([.ref (ad 0)])).length) Slot.unset).toArray = ls at hl ⊢
  have hl : lv_has ls 1 [(0, .ref (ad 0))] := hl
  have h : qOk (kX8_fault M) _ := h
  unfold kX8_fault at h
  refine lv_aload_n hx hb dX8_fault_0 rfl (lv_at hl 0 rfl) ?_
  refine y_cs (va_runV (As := []) (rest := []) ⟨hx, hb, hml, hown, hts⟩ (c_X8_faultOf l G ad hI M _  (qOk.b1 h)) (cwV 0 hts gX8_fault_X8_faultOf rfl rfl rfl (by decide +kernel) ⟨Nat.le_of_ble_eq_true rfl, Nat.le_of_ble_eq_true rfl⟩) ⟨qPre.blind, qrecv hK hH qOb_8 rfl, qPre.at hK hH⟩ rfl rfl hl.1 rfl (lv_room (Nat.le_of_ble_eq_true rfl)) dX8_fault_1 ⟨Nat.zero_le _, Nat.zero_le _⟩) (fun v1 h => ?_)
  exact W.iret hx hb hr (fun t ht _ => ⟨_, rfl, qOk.s h, ht⟩) (fun _ hq => by cases hq) dX8_fault_4
abbrev rm_X8_sings : Room := { frames := 2, cells := 0, slots := 0, locals := 43 }
set_option maxHeartbeats 4000000 in
set_option maxRecDepth 100000 in
theorem c_X8_sings (l : Launch) (G : qG) (ad : Nat → Nat) (hI : qI W2N ad) (M : qM) (sz : Nat) (x1 : Int32) (x2 : Int32) {P : Int32 → Prop} (h : qOk (kX8_sings M x1 x2) P) : Met l yX8_sings wsX8_sings rm_X8_sings (va_Pc [.ref (ad 0), .int x1, .int x2] (qPre W2N e2 G ad M sz)) (vp_Si P) 0 0 (fun _ => False) := by
  refine Met.ofW (cc := cX8_sings) (maxL := 3) (ret := (some .boolean)) (by decide) rfl ?_
  intro p e s m args below meth c s₁ B hml hv
  obtain ⟨rfl, hsz, hK, hP⟩ := hv
  subst hsz
  have hx := B.exec
  have hb := B.bytes
  have hr := B.returns
  have hts := atoms_spec (ws := wsX8_sings) B.pre
  have hown : s.vm.findClass RX8 = some m.cls := findClass_of_methodNamed B.named
  have hlocks := B.notSynchronized
  have hH : qHS W2N e2 G ad M s.heap s.heap [] := ⟨hP, va_S.rf⟩
  have f13 : (Cond.fieldLink RX8 13 "SongLampsModel" "now" "[I").before [.ref (ad 0), .int x1, .int x2].toArray s = true := hts _ (by decide +kernel)
  have i_X8 : ∀ w ∈ wsX80, w ∈ wsX8_sings := fun w hw => List.mem_cons_of_mem _ ((List.mem_append_right _ hw))
  have hl := lv_entry ([.ref (ad 0), .int x1, .int x2]) (n := 3) (Nat.le_of_ble_eq_true rfl)
  rw [lg_entry_eq]
  generalize (lg_sl ([.ref (ad 0), .int x1, .int x2]) ++ List.replicate (3 - (lg_sl ([.ref (ad 0), .int x1, .int x2])).length) Slot.unset).toArray = ls at hl ⊢
  have hl : lv_has ls 3 [(0, .ref (ad 0)), (1, .int x1), (2, .int x2)] := hl
  have h : qOk (kX8_sings M x1 x2) _ := h
  unfold kX8_sings at h
  refine lv_aload_n hx hb dX8_sings_0 rfl (lv_at hl 0 rfl) ?_
  refine lv_iload_n hx hb dX8_sings_1 rfl (lv_at hl 1 rfl) ?_
  refine y_cs (va_runV (As := [.int x1]) (rest := []) ⟨hx, hb, hml, hown, hts⟩ (c_X8_isThere l G ad hI M _ x1 (qOk.b1 h)) (cwV 1 hts gX8_sings_X8_isThere rfl rfl rfl (by decide +kernel) ⟨Nat.le_of_ble_eq_true rfl, Nat.le_of_ble_eq_true rfl⟩) ⟨qPre.blind, qrecv hK hH qOb_8 rfl, qPre.at hK hH⟩ rfl rfl hl.1 rfl (lv_room (Nat.le_of_ble_eq_true rfl)) dX8_sings_2 ⟨Nat.zero_le _, Nat.zero_le _⟩) (fun v1 h => ?_)
  refine qj1 (G := fun (v2 : Int32) => W p l e (headSpec wsX8_sings rm_X8_sings).room s m [.ref (ad 0), .int x1, .int x2].toArray below meth c s.heap [] 0 0 (MQ below (vp_Si P) [.ref (ad 0), .int x1, .int x2].toArray s 0 0 (fun _ => False)) (F0 m 35 ls [.int v2])) h ?_ ?_
  rotate_left
  · intro h
    refine lv_if_eq (tgt := 34) hx hb dX8_sings_5 (by decide) (fun hc => ?_) (fun hc => ?_)
    · have h := qOk.t hc h
      refine lv_iconst (v := 0) hx hb dX8_sings_34 (by decide) ?_
      have h := qOk.s h
      exact h
    · have h := qOk.f hc h
      refine lv_aload_n hx hb dX8_sings_8 rfl (lv_at hl 0 rfl) ?_
      refine y_get hx hb hts i_X8 hown hK hH qOb_8 rfl 1 (by decide) f13 rfl dX8_sings_9 ?_
      refine lv_bipush (v := 16) hx hb dX8_sings_12 (by decide) ?_
      refine lv_iload_n hx hb dX8_sings_14 rfl (lv_at hl 1 rfl) ?_
      refine lv_iadd hx hb dX8_sings_15 ?_
      refine y_iald hx hb hK hH qMr_2 h dX8_sings_16 (fun v3 h => ?_)
      refine lv_iload_n hx hb dX8_sings_17 rfl (lv_at hl 2 rfl) ?_
      refine lv_icmp_ne (tgt := 34) hx hb dX8_sings_18 (by decide) (fun hc => ?_) (fun hc => ?_)
      · have h := qOk.f hc h
        refine lv_iconst (v := 0) hx hb dX8_sings_34 (by decide) ?_
        have h := qOk.s h
        exact h
      · have h := qOk.t hc h
        refine lv_aload_n hx hb dX8_sings_21 rfl (lv_at hl 0 rfl) ?_
        refine y_get hx hb hts i_X8 hown hK hH qOb_8 rfl 1 (by decide) f13 rfl dX8_sings_22 ?_
        refine lv_iload_n hx hb dX8_sings_25 rfl (lv_at hl 1 rfl) ?_
        refine y_iald hx hb hK hH qMr_2 h dX8_sings_26 (fun v4 h => ?_)
        refine lv_if_lt (tgt := 34) hx hb dX8_sings_27 (by decide) (fun hc => ?_) (fun hc => ?_)
        · have h := qOk.t hc h
          refine lv_iconst (v := 0) hx hb dX8_sings_34 (by decide) ?_
          have h := qOk.s h
          exact h
        · have h := qOk.f hc h
          refine lv_iconst (v := 1) hx hb dX8_sings_30 (by decide) ?_
          refine lv_goto (tgt := 35) hx hb dX8_sings_31 (by decide) ?_
          have h := qOk.s h
          exact h
  intro v2 h
  obtain ⟨hbn, h⟩ := qOk.bl h
  exact W.zret hx hb hr (qnarb hbn) (fun t ht _ => ⟨_, rfl, qOk.s h, ht⟩) (fun _ hq => by cases hq) dX8_sings_35
abbrev rm_X8_areHushed : Room := { frames := 0, cells := 0, slots := 0, locals := 0 }
set_option maxHeartbeats 4000000 in
set_option maxRecDepth 100000 in
theorem c_X8_areHushed (l : Launch) (G : qG) (ad : Nat → Nat) (hI : qI W2N ad) (M : qM) (sz : Nat) (x1 : Int32) (x2 : Int32) {P : Int32 → Prop} (h : qOk (kX8_areHushed M x1 x2) P) : Met l yX8_areHushed wsX8_areHushed rm_X8_areHushed (va_Pc [.ref (ad 0), .int x1, .int x2] (qPre W2N e2 G ad M sz)) (vp_Si P) 0 0 (fun _ => False) := by
  refine Met.ofW (cc := cX8_areHushed) (maxL := 4) (ret := (some .boolean)) (by decide) rfl ?_
  intro p e s m args below meth c s₁ B hml hv
  obtain ⟨rfl, hsz, hK, hP⟩ := hv
  subst hsz
  have hx := B.exec
  have hb := B.bytes
  have hr := B.returns
  have hts := atoms_spec (ws := wsX8_areHushed) B.pre
  have hown : s.vm.findClass RX8 = some m.cls := findClass_of_methodNamed B.named
  have hlocks := B.notSynchronized
  have hH : qHS W2N e2 G ad M s.heap s.heap [] := ⟨hP, va_S.rf⟩
  have f13 : (Cond.fieldLink RX8 13 "SongLampsModel" "now" "[I").before [.ref (ad 0), .int x1, .int x2].toArray s = true := hts _ (by decide +kernel)
  have i_X8 : ∀ w ∈ wsX80, w ∈ wsX8_areHushed := fun w hw => List.mem_cons_of_mem _ ((List.mem_append_right _ hw))
  have hl := lv_entry ([.ref (ad 0), .int x1, .int x2]) (n := 4) (Nat.le_of_ble_eq_true rfl)
  rw [lg_entry_eq]
  generalize (lg_sl ([.ref (ad 0), .int x1, .int x2]) ++ List.replicate (4 - (lg_sl ([.ref (ad 0), .int x1, .int x2])).length) Slot.unset).toArray = ls at hl ⊢
  have hl : lv_has ls 4 [(0, .ref (ad 0)), (1, .int x1), (2, .int x2)] := hl
  have h : qOk (kX8_areHushed M x1 x2) _ := h
  unfold kX8_areHushed at h
  refine lv_aload_n hx hb dX8_areHushed_0 rfl (lv_at hl 0 rfl) ?_
  refine y_get hx hb hts i_X8 hown hK hH qOb_8 rfl 1 (by decide) f13 rfl dX8_areHushed_1 ?_
  refine lv_iload_n hx hb dX8_areHushed_4 rfl (lv_at hl 1 rfl) ?_
  refine y_iald hx hb hK hH qMr_2 h dX8_areHushed_5 (fun v1 h => ?_)
  refine lv_aload_n hx hb dX8_areHushed_6 rfl (lv_at hl 0 rfl) ?_
  refine y_get hx hb hts i_X8 hown hK hH qOb_8 rfl 1 (by decide) f13 rfl dX8_areHushed_7 ?_
  refine lv_iload_n hx hb dX8_areHushed_10 rfl (lv_at hl 2 rfl) ?_
  refine y_iald hx hb hK hH qMr_2 h dX8_areHushed_11 (fun v2 h => ?_)
  refine lv_isub hx hb dX8_areHushed_12 ?_
  refine lv_topi (fun v3 ev3 => ?_)
  have h := qOk.v h ev3
  refine lv_istore_n (lv' := [(3, .int v3), (0, .ref (ad 0)), (1, .int x1), (2, .int x2)]) hx hb dX8_areHushed_13 rfl hl (by decide) rfl (fun ls hl => ?_)
  refine lv_iload_n hx hb dX8_areHushed_14 rfl (lv_at hl 0 rfl) ?_
  refine qj1 (G := fun (v4 : Int32) => W p l e (headSpec wsX8_areHushed rm_X8_areHushed).room s m [.ref (ad 0), .int x1, .int x2].toArray below meth c s.heap [] 0 0 (MQ below (vp_Si P) [.ref (ad 0), .int x1, .int x2].toArray s 0 0 (fun _ => False)) (F0 m 24 ls [.int v4])) h ?_ ?_
  rotate_left
  · intro h
    refine lv_if_ge (tgt := 23) hx hb dX8_areHushed_15 (by decide) (fun hc => ?_) (fun hc => ?_)
    · have h := qOk.t hc h
      refine lv_iload_n hx hb dX8_areHushed_23 rfl (lv_at hl 0 rfl) ?_
      have h := qOk.s h
      exact h
    · have h := qOk.f hc h
      refine lv_iload_n hx hb dX8_areHushed_18 rfl (lv_at hl 0 rfl) ?_
      refine lv_ineg hx hb dX8_areHushed_19 ?_
      refine lv_goto (tgt := 24) hx hb dX8_areHushed_20 (by decide) ?_
      have h := qOk.s h
      exact h
  intro v4 h
  refine lv_istore_n (lv' := [(3, .int v4), (0, .ref (ad 0)), (1, .int x1), (2, .int x2)]) hx hb dX8_areHushed_24 rfl hl (by decide) rfl (fun ls hl => ?_)
  refine lv_iload_n hx hb dX8_areHushed_25 rfl (lv_at hl 0 rfl) ?_
  refine lv_iconst (v := 3) hx hb dX8_areHushed_26 (by decide) ?_
  refine qj1 (G := fun (v5 : Int32) => W p l e (headSpec wsX8_areHushed rm_X8_areHushed).room s m [.ref (ad 0), .int x1, .int x2].toArray below meth c s.heap [] 0 0 (MQ below (vp_Si P) [.ref (ad 0), .int x1, .int x2].toArray s 0 0 (fun _ => False)) (F0 m 40 ls [.int v5])) h ?_ ?_
  rotate_left
  · intro h
    refine lv_icmp_eq (tgt := 35) hx hb dX8_areHushed_27 (by decide) (fun hc => ?_) (fun hc => ?_)
    · have h := qOk.t hc h
      refine lv_iconst (v := 1) hx hb dX8_areHushed_35 (by decide) ?_
      refine lv_goto (tgt := 40) hx hb dX8_areHushed_36 (by decide) ?_
      have h := qOk.s h
      exact h
    · have h := qOk.f hc h
      refine lv_iload_n hx hb dX8_areHushed_30 rfl (lv_at hl 0 rfl) ?_
      refine lv_iconst (v := 4) hx hb dX8_areHushed_31 (by decide) ?_
      refine lv_icmp_ne (tgt := 39) hx hb dX8_areHushed_32 (by decide) (fun hc => ?_) (fun hc => ?_)
      · have h := qOk.f hc h
        refine lv_iconst (v := 0) hx hb dX8_areHushed_39 (by decide) ?_
        have h := qOk.s h
        exact h
      · have h := qOk.t hc h
        refine lv_iconst (v := 1) hx hb dX8_areHushed_35 (by decide) ?_
        refine lv_goto (tgt := 40) hx hb dX8_areHushed_36 (by decide) ?_
        have h := qOk.s h
        exact h
  intro v5 h
  obtain ⟨hbn, h⟩ := qOk.bl h
  exact W.zret hx hb hr (qnarb hbn) (fun t ht _ => ⟨_, rfl, qOk.s h, ht⟩) (fun _ hq => by cases hq) dX8_areHushed_40
abbrev rm_X8_ownLight : Room := { frames := 3, cells := 0, slots := 0, locals := 65 }
set_option maxHeartbeats 4000000 in
set_option maxRecDepth 100000 in
theorem c_X8_ownLight (l : Launch) (G : qG) (ad : Nat → Nat) (hI : qI W2N ad) (M : qM) (sz : Nat) (x1 : Int32) {P : Int32 → Prop} (h : qOk (kX8_ownLight M x1) P) : Met l yX8_ownLight wsX8_ownLight rm_X8_ownLight (va_Pc [.ref (ad 0), .int x1] (qPre W2N e2 G ad M sz)) (vp_Si P) 0 0 (fun _ => False) := by
  refine Met.ofW (cc := cX8_ownLight) (maxL := 6) (ret := (some .int)) (by decide) rfl ?_
  intro p e s m args below meth c s₁ B hml hv
  obtain ⟨rfl, hsz, hK, hP⟩ := hv
  subst hsz
  have hx := B.exec
  have hb := B.bytes
  have hr := B.returns
  have hts := atoms_spec (ws := wsX8_ownLight) B.pre
  have hown : s.vm.findClass RX8 = some m.cls := findClass_of_methodNamed B.named
  have hlocks := B.notSynchronized
  have hH : qHS W2N e2 G ad M s.heap s.heap [] := ⟨hP, va_S.rf⟩
  have f79 : (Cond.fieldLink RX8 79 "SongLampsModel" "gas" "I").before [.ref (ad 0), .int x1].toArray s = true := hts _ (by decide +kernel)
  have i_X8 : ∀ w ∈ wsX80, w ∈ wsX8_ownLight := fun w hw => List.mem_cons_of_mem _ ((List.mem_append_right _ hw))
  have f13 : (Cond.fieldLink RX8 13 "SongLampsModel" "now" "[I").before [.ref (ad 0), .int x1].toArray s = true := hts _ (by decide +kernel)
  have hl := lv_entry ([.ref (ad 0), .int x1]) (n := 6) (Nat.le_of_ble_eq_true rfl)
  rw [lg_entry_eq]
  generalize (lg_sl ([.ref (ad 0), .int x1]) ++ List.replicate (6 - (lg_sl ([.ref (ad 0), .int x1])).length) Slot.unset).toArray = ls at hl ⊢
  have hl : lv_has ls 6 [(0, .ref (ad 0)), (1, .int x1)] := hl
  have h : qOk (kX8_ownLight M x1) _ := h
  unfold kX8_ownLight at h
  refine lv_iconst (v := 0) hx hb dX8_ownLight_0 (by decide) ?_
  refine lv_istore_n (lv' := [(2, .int 0), (0, .ref (ad 0)), (1, .int x1)]) hx hb dX8_ownLight_1 rfl hl (by decide) rfl (fun ls hl => ?_)
  refine lv_iconst (v := 0) hx hb dX8_ownLight_2 (by decide) ?_
  refine lv_istore_n (lv' := [(3, .int 0), (2, .int 0), (0, .ref (ad 0)), (1, .int x1)]) hx hb dX8_ownLight_3 rfl hl (by decide) rfl (fun ls hl => ?_)
  refine qj1 (G := fun (v3 : Int32) => ∀ ls : Array Slot, lv_has ls 6 [(2, .int v3)] → W p l e (headSpec wsX8_ownLight rm_X8_ownLight).room s m [.ref (ad 0), .int x1].toArray below meth c s.heap [] 0 0 (MQ below (vp_Si P) [.ref (ad 0), .int x1].toArray s 0 0 (fun _ => False)) (F0 m 119 ls [])) h ?_ ?_
  rotate_left
  · intro h
    refine qloop2 (I := fun (v1 : Int32) (v2 : Int32) => ∀ ls : Array Slot, lv_has ls 6 [(0, .ref (ad 0)), (1, .int x1), (2, .int v1), (3, .int v2)] → W p l e (headSpec wsX8_ownLight rm_X8_ownLight).room s m [.ref (ad 0), .int x1].toArray below meth c s.heap [] 0 0 (MQ below (vp_Si P) [.ref (ad 0), .int x1].toArray s 0 0 (fun _ => False)) (F0 m 4 ls [])) ?_ h _ (lv_sub hl [2, 3, 1, 0] rfl)
    intro v1 v2 h ls hl
    have h : qOk (kX8_ownLight_L4 M x1 v1 v2) _ := h
    unfold kX8_ownLight_L4 at h
    refine lv_iload_n hx hb dX8_ownLight_4 rfl (lv_at hl 3 rfl) ?_
    refine lv_bipush (v := 8) hx hb dX8_ownLight_5 (by decide) ?_
    refine lv_icmp_ge (tgt := 119) hx hb dX8_ownLight_7 (by decide) (fun hc => ?_) (fun hc => ?_)
    · have h := qOk.t hc h
      exact qOk.le h _ (lv_sub hl [2] rfl)
    · have h := qOk.f hc h
      refine lv_aload_n hx hb dX8_ownLight_10 rfl (lv_at hl 0 rfl) ?_
      refine lv_iload_n hx hb dX8_ownLight_11 rfl (lv_at hl 3 rfl) ?_
      refine lv_iload_n hx hb dX8_ownLight_12 rfl (lv_at hl 1 rfl) ?_
      refine y_cs (va_runV (As := [.int v2, .int x1]) (rest := []) ⟨hx, hb, hml, hown, hts⟩ (c_X8_sings l G ad hI M _ v2 x1 (qOk.b1 h)) (cwV 2 hts gX8_ownLight_X8_sings rfl rfl rfl (by decide +kernel) ⟨Nat.le_of_ble_eq_true rfl, Nat.le_of_ble_eq_true rfl⟩) ⟨qPre.blind, qrecv hK hH qOb_8 rfl, qPre.at hK hH⟩ rfl rfl hl.1 rfl (lv_room (Nat.le_of_ble_eq_true rfl)) dX8_ownLight_13 ⟨Nat.zero_le _, Nat.zero_le _⟩) (fun v4 h => ?_)
      refine lv_istore (lv' := [(4, .int v4), (0, .ref (ad 0)), (1, .int x1), (2, .int v1), (3, .int v2)]) hx hb dX8_ownLight_16 hl (by decide) rfl (fun ls hl => ?_)
      refine lv_iconst (v := 0) hx hb dX8_ownLight_18 (by decide) ?_
      refine lv_istore (lv' := [(5, .int 0), (4, .int v4), (0, .ref (ad 0)), (1, .int x1), (2, .int v1), (3, .int v2)]) hx hb dX8_ownLight_19 hl (by decide) rfl (fun ls hl => ?_)
      refine qj1 (G := fun (v7 : Int32) => ∀ ls : Array Slot, lv_has ls 6 [(0, .ref (ad 0)), (1, .int x1), (2, .int v1), (3, .int v2), (4, .int v7)] → W p l e (headSpec wsX8_ownLight rm_X8_ownLight).room s m [.ref (ad 0), .int x1].toArray below meth c s.heap [] 0 0 (MQ below (vp_Si P) [.ref (ad 0), .int x1].toArray s 0 0 (fun _ => False)) (F0 m 83 ls [])) h ?_ ?_
      rotate_left
      · intro h
        refine qloop2 (I := fun (v5 : Int32) (v6 : Int32) => ∀ ls : Array Slot, lv_has ls 6 [(0, .ref (ad 0)), (1, .int x1), (2, .int v1), (3, .int v2), (4, .int v5), (5, .int v6)] → W p l e (headSpec wsX8_ownLight rm_X8_ownLight).room s m [.ref (ad 0), .int x1].toArray below meth c s.heap [] 0 0 (MQ below (vp_Si P) [.ref (ad 0), .int x1].toArray s 0 0 (fun _ => False)) (F0 m 21 ls [])) ?_ h _ (lv_sub hl [2, 3, 4, 5, 1, 0] rfl)
        intro v5 v6 h ls hl
        have h : qOk (kX8_ownLight_L21 M x1 v2 v5 v6) _ := h
        unfold kX8_ownLight_L21 at h
        refine lv_iload hx hb dX8_ownLight_21 (lv_at hl 5 rfl) ?_
        refine lv_bipush (v := 8) hx hb dX8_ownLight_23 (by decide) ?_
        refine lv_icmp_ge (tgt := 83) hx hb dX8_ownLight_25 (by decide) (fun hc => ?_) (fun hc => ?_)
        · have h := qOk.t hc h
          exact qOk.le h _ (lv_sub hl [0, 1, 2, 3, 4] rfl)
        · have h := qOk.f hc h
          refine lv_iload hx hb dX8_ownLight_28 (lv_at hl 4 rfl) ?_
          refine lv_if_eq (tgt := 83) hx hb dX8_ownLight_30 (by decide) (fun hc => ?_) (fun hc => ?_)
          · have h := qOk.t hc h
            exact qOk.le h _ (lv_sub hl [0, 1, 2, 3, 4] rfl)
          · have h := qOk.f hc h
            refine lv_aload_n hx hb dX8_ownLight_33 rfl (lv_at hl 0 rfl) ?_
            refine y_get hx hb hts i_X8 hown hK hH qOb_8 rfl 8 (by decide) f79 rfl dX8_ownLight_34 ?_
            refine lv_iload_n hx hb dX8_ownLight_37 rfl (lv_at hl 1 rfl) ?_
            refine y_cs (va_runS (As := [.int (M 0 8), .int x1]) (rest := []) ⟨hx, hb, hml, hown, hts⟩ (c_X8_has l (M 0 8) x1 (qOk.b1 h)) (va_cwS 2 hts gX8_ownLight_X8_has rfl rfl rfl (by decide +kernel) ⟨Nat.le_of_ble_eq_true rfl, Nat.le_of_ble_eq_true rfl⟩) ⟨qPrT.blind, qPrT.at⟩ rfl rfl hl.1 rfl (lv_room (Nat.le_of_ble_eq_true rfl)) dX8_ownLight_38 ⟨Nat.zero_le _, Nat.zero_le _⟩) (fun v8 h => ?_)
            refine qj1 (G := fun (v9 : Int32) => W p l e (headSpec wsX8_ownLight rm_X8_ownLight).room s m [.ref (ad 0), .int x1].toArray below meth c s.heap [] 0 0 (MQ below (vp_Si P) [.ref (ad 0), .int x1].toArray s 0 0 (fun _ => False)) (F0 m 75 ls [.int v9])) h ?_ ?_
            rotate_left
            · intro h
              refine lv_if_eq (tgt := 70) hx hb dX8_ownLight_41 (by decide) (fun hc => ?_) (fun hc => ?_)
              · have h := qOk.t hc h
                refine lv_iconst (v := 1) hx hb dX8_ownLight_70 (by decide) ?_
                refine lv_goto (tgt := 75) hx hb dX8_ownLight_71 (by decide) ?_
                have h := qOk.s h
                exact h
              · have h := qOk.f hc h
                refine lv_iload hx hb dX8_ownLight_44 (lv_at hl 5 rfl) ?_
                refine lv_iload_n hx hb dX8_ownLight_46 rfl (lv_at hl 3 rfl) ?_
                refine lv_icmp_eq (tgt := 70) hx hb dX8_ownLight_47 (by decide) (fun hc => ?_) (fun hc => ?_)
                · have h := qOk.t hc h
                  refine lv_iconst (v := 1) hx hb dX8_ownLight_70 (by decide) ?_
                  refine lv_goto (tgt := 75) hx hb dX8_ownLight_71 (by decide) ?_
                  have h := qOk.s h
                  exact h
                · have h := qOk.f hc h
                  refine lv_aload_n hx hb dX8_ownLight_50 rfl (lv_at hl 0 rfl) ?_
                  refine lv_iload hx hb dX8_ownLight_51 (lv_at hl 5 rfl) ?_
                  refine lv_iload_n hx hb dX8_ownLight_53 rfl (lv_at hl 1 rfl) ?_
                  refine y_cs (va_runV (As := [.int v6, .int x1]) (rest := []) ⟨hx, hb, hml, hown, hts⟩ (c_X8_sings l G ad hI M _ v6 x1 (qOk.b1 h)) (cwV 2 hts gX8_ownLight_X8_sings rfl rfl rfl (by decide +kernel) ⟨Nat.le_of_ble_eq_true rfl, Nat.le_of_ble_eq_true rfl⟩) ⟨qPre.blind, qrecv hK hH qOb_8 rfl, qPre.at hK hH⟩ rfl rfl hl.1 rfl (lv_room (Nat.le_of_ble_eq_true rfl)) dX8_ownLight_54 ⟨Nat.zero_le _, Nat.zero_le _⟩) (fun v10 h => ?_)
                  refine lv_if_eq (tgt := 70) hx hb dX8_ownLight_57 (by decide) (fun hc => ?_) (fun hc => ?_)
                  · have h := qOk.t hc h
                    refine lv_iconst (v := 1) hx hb dX8_ownLight_70 (by decide) ?_
                    refine lv_goto (tgt := 75) hx hb dX8_ownLight_71 (by decide) ?_
                    have h := qOk.s h
                    exact h
                  · have h := qOk.f hc h
                    refine lv_aload_n hx hb dX8_ownLight_60 rfl (lv_at hl 0 rfl) ?_
                    refine lv_iload_n hx hb dX8_ownLight_61 rfl (lv_at hl 3 rfl) ?_
                    refine lv_iload hx hb dX8_ownLight_62 (lv_at hl 5 rfl) ?_
                    refine y_cs (va_runV (As := [.int v2, .int v6]) (rest := []) ⟨hx, hb, hml, hown, hts⟩ (c_X8_areHushed l G ad hI M _ v2 v6 (qOk.b1 h)) (cwV 2 hts gX8_ownLight_X8_areHushed rfl rfl rfl (by decide +kernel) ⟨Nat.le_of_ble_eq_true rfl, Nat.le_of_ble_eq_true rfl⟩) ⟨qPre.blind, qrecv hK hH qOb_8 rfl, qPre.at hK hH⟩ rfl rfl hl.1 rfl (lv_room (Nat.le_of_ble_eq_true rfl)) dX8_ownLight_64 ⟨Nat.zero_le _, Nat.zero_le _⟩) (fun v11 h => ?_)
                    refine lv_if_ne (tgt := 74) hx hb dX8_ownLight_67 (by decide) (fun hc => ?_) (fun hc => ?_)
                    · have h := qOk.f hc h
                      refine lv_iconst (v := 0) hx hb dX8_ownLight_74 (by decide) ?_
                      have h := qOk.s h
                      exact h
                    · have h := qOk.t hc h
                      refine lv_iconst (v := 1) hx hb dX8_ownLight_70 (by decide) ?_
                      refine lv_goto (tgt := 75) hx hb dX8_ownLight_71 (by decide) ?_
                      have h := qOk.s h
                      exact h
            intro v9 h
            refine lv_istore (lv' := [(4, .int v9), (0, .ref (ad 0)), (1, .int x1), (2, .int v1), (3, .int v2), (5, .int v6)]) hx hb dX8_ownLight_75 hl (by decide) rfl (fun ls hl => ?_)
            obtain ⟨v12, ev12⟩ : ∃ y : Int32, y = v6 + 1 := ⟨_, rfl⟩
            have h := qOk.v h ev12
            refine lv_iinc (v := v12) (lv' := [(5, .int v12), (4, .int v9), (0, .ref (ad 0)), (1, .int x1), (2, .int v1), (3, .int v2)]) hx hb dX8_ownLight_77 hl (k := 5) rfl (by rw [ev12]; rfl) (by decide) rfl (fun ls hl => ?_)
            refine lv_goto (tgt := 21) hx hb dX8_ownLight_80 (by decide) ?_
            exact qOk.li h _ (lv_sub hl [2, 3, 4, 5, 1, 0] rfl)
      intro v7 h ls hl
      refine lv_iload hx hb dX8_ownLight_83 (lv_at hl 4 rfl) ?_
      refine qj1 (G := fun (v13 : Int32) => W p l e (headSpec wsX8_ownLight rm_X8_ownLight).room s m [.ref (ad 0), .int x1].toArray below meth c s.heap [] 0 0 (MQ below (vp_Si P) [.ref (ad 0), .int x1].toArray s 0 0 (fun _ => False)) (F0 m 112 ls [.int v13])) h ?_ ?_
      rotate_left
      · intro h
        refine lv_if_eq (tgt := 111) hx hb dX8_ownLight_85 (by decide) (fun hc => ?_) (fun hc => ?_)
        · have h := qOk.t hc h
          refine lv_iload_n hx hb dX8_ownLight_111 rfl (lv_at hl 2 rfl) ?_
          have h := qOk.s h
          exact h
        · have h := qOk.f hc h
          refine lv_aload_n hx hb dX8_ownLight_88 rfl (lv_at hl 0 rfl) ?_
          refine y_get hx hb hts i_X8 hown hK hH qOb_8 rfl 1 (by decide) f13 rfl dX8_ownLight_89 ?_
          refine lv_iload_n hx hb dX8_ownLight_92 rfl (lv_at hl 3 rfl) ?_
          refine y_iald hx hb hK hH qMr_2 h dX8_ownLight_93 (fun v14 h => ?_)
          refine lv_iconst (v := 1) hx hb dX8_ownLight_94 (by decide) ?_
          refine lv_iadd hx hb dX8_ownLight_95 ?_
          refine lv_iload_n hx hb dX8_ownLight_96 rfl (lv_at hl 2 rfl) ?_
          refine lv_icmp_le (tgt := 111) hx hb dX8_ownLight_97 (by decide) (fun hc => ?_) (fun hc => ?_)
          · have h := qOk.t hc h
            refine lv_iload_n hx hb dX8_ownLight_111 rfl (lv_at hl 2 rfl) ?_
            have h := qOk.s h
            exact h
          · have h := qOk.f hc h
            refine lv_aload_n hx hb dX8_ownLight_100 rfl (lv_at hl 0 rfl) ?_
            refine y_get hx hb hts i_X8 hown hK hH qOb_8 rfl 1 (by decide) f13 rfl dX8_ownLight_101 ?_
            refine lv_iload_n hx hb dX8_ownLight_104 rfl (lv_at hl 3 rfl) ?_
            refine y_iald hx hb hK hH qMr_2 h dX8_ownLight_105 (fun v15 h => ?_)
            refine lv_iconst (v := 1) hx hb dX8_ownLight_106 (by decide) ?_
            refine lv_iadd hx hb dX8_ownLight_107 ?_
            refine lv_goto (tgt := 112) hx hb dX8_ownLight_108 (by decide) ?_
            have h := qOk.s h
            exact h
      intro v13 h
      refine lv_istore_n (lv' := [(2, .int v13), (0, .ref (ad 0)), (1, .int x1), (3, .int v2), (4, .int v7)]) hx hb dX8_ownLight_112 rfl hl (by decide) rfl (fun ls hl => ?_)
      obtain ⟨v16, ev16⟩ : ∃ y : Int32, y = v2 + 1 := ⟨_, rfl⟩
      have h := qOk.v h ev16
      refine lv_iinc (v := v16) (lv' := [(3, .int v16), (2, .int v13), (0, .ref (ad 0)), (1, .int x1), (4, .int v7)]) hx hb dX8_ownLight_113 hl (k := 3) rfl (by rw [ev16]; rfl) (by decide) rfl (fun ls hl => ?_)
      refine lv_goto (tgt := 4) hx hb dX8_ownLight_116 (by decide) ?_
      exact qOk.li h _ (lv_sub hl [2, 3, 1, 0] rfl)
  intro v3 h ls hl
  refine lv_iload_n hx hb dX8_ownLight_119 rfl (lv_at hl 0 rfl) ?_
  exact W.iret hx hb hr (fun t ht _ => ⟨_, rfl, qOk.s h, ht⟩) (fun _ hq => by cases hq) dX8_ownLight_120
abbrev rm_X8_lightOf : Room := { frames := 4, cells := 0, slots := 0, locals := 90 }
set_option maxHeartbeats 4000000 in
set_option maxRecDepth 100000 in
theorem c_X8_lightOf (l : Launch) (G : qG) (ad : Nat → Nat) (hI : qI W2N ad) (M : qM) (sz : Nat) (x1 : Int32) {P : Int32 → Prop} (h : qOk (kX8_lightOf M x1) P) : Met l yX8_lightOf wsX8_lightOf rm_X8_lightOf (va_Pc [.ref (ad 0), .int x1] (qPre W2N e2 G ad M sz)) (vp_Si P) 0 0 (fun _ => False) := by
  refine Met.ofW (cc := cX8_lightOf) (maxL := 5) (ret := (some .int)) (by decide) rfl ?_
  intro p e s m args below meth c s₁ B hml hv
  obtain ⟨rfl, hsz, hK, hP⟩ := hv
  subst hsz
  have hx := B.exec
  have hb := B.bytes
  have hr := B.returns
  have hts := atoms_spec (ws := wsX8_lightOf) B.pre
  have hown : s.vm.findClass RX8 = some m.cls := findClass_of_methodNamed B.named
  have hlocks := B.notSynchronized
  have hH : qHS W2N e2 G ad M s.heap s.heap [] := ⟨hP, va_S.rf⟩
  have f28 : (Cond.fieldLink RX8 28 "SongLampsModel" "echo" "[I").before [.ref (ad 0), .int x1].toArray s = true := hts _ (by decide +kernel)
  have i_X8 : ∀ w ∈ wsX80, w ∈ wsX8_lightOf := fun w hw => List.mem_cons_of_mem _ ((List.mem_append_right _ hw))
  have hl := lv_entry ([.ref (ad 0), .int x1]) (n := 5) (Nat.le_of_ble_eq_true rfl)
  rw [lg_entry_eq]
  generalize (lg_sl ([.ref (ad 0), .int x1]) ++ List.replicate (5 - (lg_sl ([.ref (ad 0), .int x1])).length) Slot.unset).toArray = ls at hl ⊢
  have hl : lv_has ls 5 [(0, .ref (ad 0)), (1, .int x1)] := hl
  have h : qOk (kX8_lightOf M x1) _ := h
  unfold kX8_lightOf at h
  refine lv_aload_n hx hb dX8_lightOf_0 rfl (lv_at hl 0 rfl) ?_
  refine lv_iload_n hx hb dX8_lightOf_1 rfl (lv_at hl 1 rfl) ?_
  refine y_cs (va_runV (As := [.int x1]) (rest := []) ⟨hx, hb, hml, hown, hts⟩ (c_X8_ownLight l G ad hI M _ x1 (qOk.b1 h)) (cwV 1 hts gX8_lightOf_X8_ownLight rfl rfl rfl (by decide +kernel) ⟨Nat.le_of_ble_eq_true rfl, Nat.le_of_ble_eq_true rfl⟩) ⟨qPre.blind, qrecv hK hH qOb_8 rfl, qPre.at hK hH⟩ rfl rfl hl.1 rfl (lv_room (Nat.le_of_ble_eq_true rfl)) dX8_lightOf_2 ⟨Nat.zero_le _, Nat.zero_le _⟩) (fun v1 h => ?_)
  refine lv_istore_n (lv' := [(2, .int v1), (0, .ref (ad 0)), (1, .int x1)]) hx hb dX8_lightOf_5 rfl hl (by decide) rfl (fun ls hl => ?_)
  refine lv_iconst (v := 0) hx hb dX8_lightOf_6 (by decide) ?_
  refine lv_istore_n (lv' := [(3, .int 0), (2, .int v1), (0, .ref (ad 0)), (1, .int x1)]) hx hb dX8_lightOf_7 rfl hl (by decide) rfl (fun ls hl => ?_)
  refine qj1 (G := fun (v4 : Int32) => ∀ ls : Array Slot, lv_has ls 5 [(2, .int v4)] → W p l e (headSpec wsX8_lightOf rm_X8_lightOf).room s m [.ref (ad 0), .int x1].toArray below meth c s.heap [] 0 0 (MQ below (vp_Si P) [.ref (ad 0), .int x1].toArray s 0 0 (fun _ => False)) (F0 m 57 ls [])) h ?_ ?_
  rotate_left
  · intro h
    refine qloop2 (I := fun (v2 : Int32) (v3 : Int32) => ∀ ls : Array Slot, lv_has ls 5 [(0, .ref (ad 0)), (1, .int x1), (2, .int v2), (3, .int v3)] → W p l e (headSpec wsX8_lightOf rm_X8_lightOf).room s m [.ref (ad 0), .int x1].toArray below meth c s.heap [] 0 0 (MQ below (vp_Si P) [.ref (ad 0), .int x1].toArray s 0 0 (fun _ => False)) (F0 m 8 ls [])) ?_ h _ (lv_sub hl [2, 3, 1, 0] rfl)
    intro v2 v3 h ls hl
    have h : qOk (kX8_lightOf_L8 x1 M v2 v3) _ := h
    unfold kX8_lightOf_L8 at h
    refine lv_iload_n hx hb dX8_lightOf_8 rfl (lv_at hl 3 rfl) ?_
    refine lv_bipush (v := 10) hx hb dX8_lightOf_9 (by decide) ?_
    refine lv_icmp_ge (tgt := 57) hx hb dX8_lightOf_11 (by decide) (fun hc => ?_) (fun hc => ?_)
    · have h := qOk.t hc h
      exact qOk.le h _ (lv_sub hl [2] rfl)
    · have h := qOk.f hc h
      refine lv_iload_n hx hb dX8_lightOf_14 rfl (lv_at hl 3 rfl) ?_
      refine lv_iload_n hx hb dX8_lightOf_15 rfl (lv_at hl 1 rfl) ?_
      refine qj1 (G := fun (v5 : Int32) => ∀ ls : Array Slot, lv_has ls 5 [(0, .ref (ad 0)), (1, .int x1), (2, .int v5), (3, .int v3)] → W p l e (headSpec wsX8_lightOf rm_X8_lightOf).room s m [.ref (ad 0), .int x1].toArray below meth c s.heap [] 0 0 (MQ below (vp_Si P) [.ref (ad 0), .int x1].toArray s 0 0 (fun _ => False)) (F0 m 51 ls [])) h ?_ ?_
      rotate_left
      · intro h
        refine lv_icmp_eq (tgt := 51) hx hb dX8_lightOf_16 (by decide) (fun hc => ?_) (fun hc => ?_)
        · have h := qOk.t hc h
          have h := qOk.s h
          exact h _ (lv_sub hl [0, 1, 2, 3] rfl)
        · have h := qOk.f hc h
          refine lv_aload_n hx hb dX8_lightOf_19 rfl (lv_at hl 0 rfl) ?_
          refine y_get hx hb hts i_X8 hown hK hH qOb_8 rfl 7 (by decide) f28 rfl dX8_lightOf_20 ?_
          refine lv_iload_n hx hb dX8_lightOf_23 rfl (lv_at hl 3 rfl) ?_
          refine y_iald hx hb hK hH qMr_7 h dX8_lightOf_24 (fun v6 h => ?_)
          refine lv_iload_n hx hb dX8_lightOf_25 rfl (lv_at hl 1 rfl) ?_
          refine lv_icmp_ne (tgt := 51) hx hb dX8_lightOf_26 (by decide) (fun hc => ?_) (fun hc => ?_)
          · have h := qOk.f hc h
            have h := qOk.s h
            exact h _ (lv_sub hl [0, 1, 2, 3] rfl)
          · have h := qOk.t hc h
            refine lv_aload_n hx hb dX8_lightOf_29 rfl (lv_at hl 0 rfl) ?_
            refine lv_iload_n hx hb dX8_lightOf_30 rfl (lv_at hl 3 rfl) ?_
            refine y_cs (va_runV (As := [.int v3]) (rest := []) ⟨hx, hb, hml, hown, hts⟩ (c_X8_ownLight l G ad hI M _ v3 (qOk.b1 h)) (cwV 1 hts gX8_lightOf_X8_ownLight rfl rfl rfl (by decide +kernel) ⟨Nat.le_of_ble_eq_true rfl, Nat.le_of_ble_eq_true rfl⟩) ⟨qPre.blind, qrecv hK hH qOb_8 rfl, qPre.at hK hH⟩ rfl rfl hl.1 rfl (lv_room (Nat.le_of_ble_eq_true rfl)) dX8_lightOf_31 ⟨Nat.zero_le _, Nat.zero_le _⟩) (fun v7 h => ?_)
            refine lv_iconst (v := 2) hx hb dX8_lightOf_34 (by decide) ?_
            refine lv_idiv hx hb dX8_lightOf_35 (by decide) ?_
            refine lv_topi (fun v8 ev8 => ?_)
            have h := qOk.v h ev8
            refine lv_istore (lv' := [(4, .int v8), (0, .ref (ad 0)), (1, .int x1), (2, .int v2), (3, .int v3)]) hx hb dX8_lightOf_36 hl (by decide) rfl (fun ls hl => ?_)
            refine lv_iload hx hb dX8_lightOf_38 (lv_at hl 0 rfl) ?_
            refine lv_iload_n hx hb dX8_lightOf_40 rfl (lv_at hl 3 rfl) ?_
            refine qj1 (G := fun (v9 : Int32) => W p l e (headSpec wsX8_lightOf rm_X8_lightOf).room s m [.ref (ad 0), .int x1].toArray below meth c s.heap [] 0 0 (MQ below (vp_Si P) [.ref (ad 0), .int x1].toArray s 0 0 (fun _ => False)) (F0 m 50 ls [.int v9])) h ?_ ?_
            rotate_left
            · intro h
              refine lv_icmp_le (tgt := 49) hx hb dX8_lightOf_41 (by decide) (fun hc => ?_) (fun hc => ?_)
              · have h := qOk.t hc h
                refine lv_iload_n hx hb dX8_lightOf_49 rfl (lv_at hl 3 rfl) ?_
                have h := qOk.s h
                exact h
              · have h := qOk.f hc h
                refine lv_iload hx hb dX8_lightOf_44 (lv_at hl 0 rfl) ?_
                refine lv_goto (tgt := 50) hx hb dX8_lightOf_46 (by decide) ?_
                have h := qOk.s h
                exact h
            intro v9 h
            refine lv_istore_n (lv' := [(2, .int v9), (4, .int v8), (0, .ref (ad 0)), (1, .int x1), (3, .int v3)]) hx hb dX8_lightOf_50 rfl hl (by decide) rfl (fun ls hl => ?_)
            have h := qOk.s h
            exact h _ (lv_sub hl [2, 3, 0, 4] rfl)
      intro v5 h ls hl
      obtain ⟨v10, ev10⟩ : ∃ y : Int32, y = v3 + 1 := ⟨_, rfl⟩
      have h := qOk.v h ev10
      refine lv_iinc (v := v10) (lv' := [(3, .int v10), (0, .ref (ad 0)), (1, .int x1), (2, .int v5)]) hx hb dX8_lightOf_51 hl (k := 3) rfl (by rw [ev10]; rfl) (by decide) rfl (fun ls hl => ?_)
      refine lv_goto (tgt := 8) hx hb dX8_lightOf_54 (by decide) ?_
      exact qOk.li h _ (lv_sub hl [1, 2, 3, 0] rfl)
  intro v4 h ls hl
  refine lv_iload_n hx hb dX8_lightOf_57 rfl (lv_at hl 0 rfl) ?_
  exact W.iret hx hb hr (fun t ht _ => ⟨_, rfl, qOk.s h, ht⟩) (fun _ hq => by cases hq) dX8_lightOf_58
abbrev rm_X8_lamps : Room := { frames := 5, cells := 0, slots := 0, locals := 114 }
set_option maxHeartbeats 4000000 in
set_option maxRecDepth 100000 in
theorem c_X8_lamps (l : Launch) (G : qG) (ad : Nat → Nat) (hI : qI W2N ad) (M : qM) (sz : Nat) {P : Int32 → Prop} (h : qOk (kX8_lamps M) P) : Met l yX8_lamps wsX8_lamps rm_X8_lamps (va_Pc [.ref (ad 0)] (qPre W2N e2 G ad M sz)) (vp_Si P) 0 0 (fun _ => False) := by
  refine Met.ofW (cc := cX8_lamps) (maxL := 3) (ret := (some .int)) (by decide) rfl ?_
  intro p e s m args below meth c s₁ B hml hv
  obtain ⟨rfl, hsz, hK, hP⟩ := hv
  subst hsz
  have hx := B.exec
  have hb := B.bytes
  have hr := B.returns
  have hts := atoms_spec (ws := wsX8_lamps) B.pre
  have hown : s.vm.findClass RX8 = some m.cls := findClass_of_methodNamed B.named
  have hlocks := B.notSynchronized
  have hH : qHS W2N e2 G ad M s.heap s.heap [] := ⟨hP, va_S.rf⟩
  have hl := lv_entry ([.ref (ad 0)]) (n := 3) (Nat.le_of_ble_eq_true rfl)
  rw [lg_entry_eq]
  generalize (lg_sl ([.ref (ad 0)]) ++ List.replicate (3 - (lg_sl ([.ref (ad 0)])).length) Slot.unset).toArray = ls at hl ⊢
  have hl : lv_has ls 3 [(0, .ref (ad 0))] := hl
  have h : qOk (kX8_lamps M) _ := h
  unfold kX8_lamps at h
  refine lv_iconst (v := 0) hx hb dX8_lamps_0 (by decide) ?_
  refine lv_istore_n (lv' := [(1, .int 0), (0, .ref (ad 0))]) hx hb dX8_lamps_1 rfl hl (by decide) rfl (fun ls hl => ?_)
  refine lv_iconst (v := 0) hx hb dX8_lamps_2 (by decide) ?_
  refine lv_istore_n (lv' := [(2, .int 0), (1, .int 0), (0, .ref (ad 0))]) hx hb dX8_lamps_3 rfl hl (by decide) rfl (fun ls hl => ?_)
  refine qj1 (G := fun (v3 : Int32) => ∀ ls : Array Slot, lv_has ls 3 [(1, .int v3)] → W p l e (headSpec wsX8_lamps rm_X8_lamps).room s m [.ref (ad 0)].toArray below meth c s.heap [] 0 0 (MQ below (vp_Si P) [.ref (ad 0)].toArray s 0 0 (fun _ => False)) (F0 m 34 ls [])) h ?_ ?_
  rotate_left
  · intro h
    refine qloop2 (I := fun (v1 : Int32) (v2 : Int32) => ∀ ls : Array Slot, lv_has ls 3 [(0, .ref (ad 0)), (1, .int v1), (2, .int v2)] → W p l e (headSpec wsX8_lamps rm_X8_lamps).room s m [.ref (ad 0)].toArray below meth c s.heap [] 0 0 (MQ below (vp_Si P) [.ref (ad 0)].toArray s 0 0 (fun _ => False)) (F0 m 4 ls [])) ?_ h _ (lv_sub hl [2, 1, 0] rfl)
    intro v1 v2 h ls hl
    have h : qOk (kX8_lamps_L4 M v1 v2) _ := h
    unfold kX8_lamps_L4 at h
    refine lv_iload_n hx hb dX8_lamps_4 rfl (lv_at hl 2 rfl) ?_
    refine lv_bipush (v := 10) hx hb dX8_lamps_5 (by decide) ?_
    refine lv_icmp_ge (tgt := 34) hx hb dX8_lamps_7 (by decide) (fun hc => ?_) (fun hc => ?_)
    · have h := qOk.t hc h
      exact qOk.le h _ (lv_sub hl [1] rfl)
    · have h := qOk.f hc h
      refine lv_iload_n hx hb dX8_lamps_10 rfl (lv_at hl 1 rfl) ?_
      refine lv_aload_n hx hb dX8_lamps_11 rfl (lv_at hl 0 rfl) ?_
      refine lv_iload_n hx hb dX8_lamps_12 rfl (lv_at hl 2 rfl) ?_
      refine y_cs (va_runV (As := [.int v2]) (rest := [.int v1]) ⟨hx, hb, hml, hown, hts⟩ (c_X8_lightOf l G ad hI M _ v2 (qOk.b1 h)) (cwV 1 hts gX8_lamps_X8_lightOf rfl rfl rfl (by decide +kernel) ⟨Nat.le_of_ble_eq_true rfl, Nat.le_of_ble_eq_true rfl⟩) ⟨qPre.blind, qrecv hK hH qOb_8 rfl, qPre.at hK hH⟩ rfl rfl hl.1 rfl (lv_room (Nat.le_of_ble_eq_true rfl)) dX8_lamps_13 ⟨Nat.zero_le _, Nat.zero_le _⟩) (fun v4 h => ?_)
      refine qj1 (G := fun (v5 : Int32) => W p l e (headSpec wsX8_lamps rm_X8_lamps).room s m [.ref (ad 0)].toArray below meth c s.heap [] 0 0 (MQ below (vp_Si P) [.ref (ad 0)].toArray s 0 0 (fun _ => False)) (F0 m 26 ls [.int v5, .int v1])) h ?_ ?_
      rotate_left
      · intro h
        refine lv_if_le (tgt := 25) hx hb dX8_lamps_16 (by decide) (fun hc => ?_) (fun hc => ?_)
        · have h := qOk.t hc h
          refine lv_iconst (v := 0) hx hb dX8_lamps_25 (by decide) ?_
          have h := qOk.s h
          exact h
        · have h := qOk.f hc h
          refine lv_iconst (v := 1) hx hb dX8_lamps_19 (by decide) ?_
          refine lv_iload_n hx hb dX8_lamps_20 rfl (lv_at hl 2 rfl) ?_
          refine lv_ishl hx hb dX8_lamps_21 ?_
          refine lv_goto (tgt := 26) hx hb dX8_lamps_22 (by decide) ?_
          have h := qOk.s h
          exact h
      intro v5 h
      refine lv_ior hx hb dX8_lamps_26 ?_
      refine lv_topi (fun v6 ev6 => ?_)
      have h := qOk.v h ev6
      refine lv_istore_n (lv' := [(1, .int v6), (0, .ref (ad 0)), (2, .int v2)]) hx hb dX8_lamps_27 rfl hl (by decide) rfl (fun ls hl => ?_)
      obtain ⟨v7, ev7⟩ : ∃ y : Int32, y = v2 + 1 := ⟨_, rfl⟩
      have h := qOk.v h ev7
      refine lv_iinc (v := v7) (lv' := [(2, .int v7), (1, .int v6), (0, .ref (ad 0))]) hx hb dX8_lamps_28 hl (k := 2) rfl (by rw [ev7]; rfl) (by decide) rfl (fun ls hl => ?_)
      refine lv_goto (tgt := 4) hx hb dX8_lamps_31 (by decide) ?_
      exact qOk.li h _ (lv_sub hl [2, 1, 0] rfl)
  intro v3 h ls hl
  refine lv_iload_n hx hb dX8_lamps_34 rfl (lv_at hl 0 rfl) ?_
  exact W.iret hx hb hr (fun t ht _ => ⟨_, rfl, qOk.s h, ht⟩) (fun _ hq => by cases hq) dX8_lamps_35
abbrev rm_X8_asNow : Room := { frames := 0, cells := 0, slots := 0, locals := 0 }
set_option maxHeartbeats 4000000 in
set_option maxRecDepth 100000 in
theorem c_X8_asNow (l : Launch) (G : qG) (ad : Nat → Nat) (hI : qI W2N ad) (M : qM) (sz : Nat) {P : qM → Prop} (h : qOk (kX8_asNow M) P) : Met l yX8_asNow wsX8_asNow rm_X8_asNow (va_Pc [.ref (ad 0)] (qPre W2N e2 G ad M sz)) (va_Qv P (fun u t => qHp W2N e2 G ad u t.heap) (qA W2N ad sz)) 0 0 (qA W2N ad sz) := by
  refine Met.ofW (cc := cX8_asNow) (maxL := 2) (ret := none) (by decide) rfl ?_
  intro p e s m args below meth c s₁ B hml hv
  obtain ⟨rfl, hsz, hK, hP⟩ := hv
  subst hsz
  have hx := B.exec
  have hb := B.bytes
  have hr := B.returns
  have hts := atoms_spec (ws := wsX8_asNow) B.pre
  have hown : s.vm.findClass RX8 = some m.cls := findClass_of_methodNamed B.named
  have hlocks := B.notSynchronized
  have hH : qHS W2N e2 G ad M s.heap s.heap [] := ⟨hP, va_S.rf⟩
  have f13 : (Cond.fieldLink RX8 13 "SongLampsModel" "now" "[I").before [.ref (ad 0)].toArray s = true := hts _ (by decide +kernel)
  have i_X8 : ∀ w ∈ wsX80, w ∈ wsX8_asNow := fun w hw => List.mem_cons_of_mem _ ((List.mem_append_right _ hw))
  have f7 : (Cond.fieldLink RX8 7 "SongLampsModel" "book" "[I").before [.ref (ad 0)].toArray s = true := hts _ (by decide +kernel)
  have f104 : (Cond.fieldLink RX8 104 "SongLampsModel" "darkAt" "I").before [.ref (ad 0)].toArray s = true := hts _ (by decide +kernel)
  have f107 : (Cond.fieldLink RX8 107 "SongLampsModel" "darkWho" "I").before [.ref (ad 0)].toArray s = true := hts _ (by decide +kernel)
  have hl := lv_entry ([.ref (ad 0)]) (n := 2) (Nat.le_of_ble_eq_true rfl)
  rw [lg_entry_eq]
  generalize (lg_sl ([.ref (ad 0)]) ++ List.replicate (2 - (lg_sl ([.ref (ad 0)])).length) Slot.unset).toArray = ls at hl ⊢
  have hl : lv_has ls 2 [(0, .ref (ad 0))] := hl
  have h : qOk (kX8_asNow M) _ := h
  unfold kX8_asNow at h
  refine lv_iconst (v := 0) hx hb dX8_asNow_0 (by decide) ?_
  refine lv_istore_n (lv' := [(1, .int 0), (0, .ref (ad 0))]) hx hb dX8_asNow_1 rfl hl (by decide) rfl (fun ls hl => ?_)
  refine qj1 (G := fun (M3 : qM) => ∀ (H : Heap) (locs : List Loc), qHS W2N e2 G ad M3 s.heap H locs → ∀ ls : Array Slot, lv_has ls 2 [(0, .ref (ad 0))] → W p l e (headSpec wsX8_asNow rm_X8_asNow).room s m [.ref (ad 0)].toArray below meth c H locs 0 0 (MQ below (va_Qv P (fun u t => qHp W2N e2 G ad u t.heap) (qA W2N ad s.heap.size)) [.ref (ad 0)].toArray s 0 0 (qA W2N ad s.heap.size)) (F0 m 26 ls [])) h ?_ ?_
  rotate_left
  · intro h
    refine qloop2 (I := fun (v1 : Int32) (M2 : qM) => ∀ (H : Heap) (locs : List Loc), qHS W2N e2 G ad M2 s.heap H locs → ∀ ls : Array Slot, lv_has ls 2 [(0, .ref (ad 0)), (1, .int v1)] → W p l e (headSpec wsX8_asNow rm_X8_asNow).room s m [.ref (ad 0)].toArray below meth c H locs 0 0 (MQ below (va_Qv P (fun u t => qHp W2N e2 G ad u t.heap) (qA W2N ad s.heap.size)) [.ref (ad 0)].toArray s 0 0 (qA W2N ad s.heap.size)) (F0 m 2 ls [])) ?_ h _ _ hH _ (lv_sub hl [1, 0] rfl)
    intro v1 M2 h H locs hH ls hl
    have h : qOk (kX8_asNow_L2 v1 M2) _ := h
    unfold kX8_asNow_L2 at h
    refine lv_iload_n hx hb dX8_asNow_2 rfl (lv_at hl 1 rfl) ?_
    refine lv_bipush (v := 36) hx hb dX8_asNow_3 (by decide) ?_
    refine lv_icmp_ge (tgt := 26) hx hb dX8_asNow_5 (by decide) (fun hc => ?_) (fun hc => ?_)
    · have h := qOk.t hc h
      exact qOk.le h _ _ hH _ (lv_sub hl [0] rfl)
    · have h := qOk.f hc h
      refine lv_aload_n hx hb dX8_asNow_8 rfl (lv_at hl 0 rfl) ?_
      refine y_get hx hb hts i_X8 hown hK hH qOb_8 rfl 1 (by decide) f13 rfl dX8_asNow_9 ?_
      refine lv_iload_n hx hb dX8_asNow_12 rfl (lv_at hl 1 rfl) ?_
      refine lv_aload_n hx hb dX8_asNow_13 rfl (lv_at hl 0 rfl) ?_
      refine y_get hx hb hts i_X8 hown hK hH qOb_8 rfl 0 (by decide) f7 rfl dX8_asNow_14 ?_
      refine lv_iload_n hx hb dX8_asNow_17 rfl (lv_at hl 1 rfl) ?_
      refine y_iald hx hb hK hH qMr_1 h dX8_asNow_18 (fun v4 h => ?_)
      refine y_iast hx hb hK hI hH qMr_2 h dX8_asNow_19 (fun M5 H locs hH h => ?_)
      obtain ⟨v6, ev6⟩ : ∃ y : Int32, y = v1 + 1 := ⟨_, rfl⟩
      have h := qOk.v h ev6
      refine lv_iinc (v := v6) (lv' := [(1, .int v6), (0, .ref (ad 0))]) hx hb dX8_asNow_20 hl (k := 1) rfl (by rw [ev6]; rfl) (by decide) rfl (fun ls hl => ?_)
      refine lv_goto (tgt := 2) hx hb dX8_asNow_23 (by decide) ?_
      exact qOk.li h _ _ hH _ (lv_sub hl [1, 0] rfl)
  intro M3 h H locs hH ls hl
  refine lv_aload_n hx hb dX8_asNow_26 rfl (lv_at hl 0 rfl) ?_
  refine lv_bipush (v := (-6)) hx hb dX8_asNow_27 (by decide) ?_
  refine y_put hx hb hts i_X8 tyX8 tyX8_ok nmX8 hown hK hI hH qOb_8 rfl 13 (by decide) f104 rfl (by decide +kernel) (Nat.le_of_ble_eq_true rfl) (fun _ => rfl) h dX8_asNow_29 (fun M7 H locs hH h => ?_)
  refine lv_aload_n hx hb dX8_asNow_32 rfl (lv_at hl 0 rfl) ?_
  refine lv_bipush (v := (-6)) hx hb dX8_asNow_33 (by decide) ?_
  refine y_put hx hb hts i_X8 tyX8 tyX8_ok nmX8 hown hK hI hH qOb_8 rfl 14 (by decide) f107 rfl (by decide +kernel) (Nat.le_of_ble_eq_true rfl) (fun _ => rfl) h dX8_asNow_35 (fun M8 H locs hH h => ?_)
  exact W.vret hx hb hr (fun t ht _ => ⟨⟨_, rfl, qOk.s h, qHpt ht hH.1⟩, hH.2.F ht⟩) hH.2.2.2 dX8_asNow_38
abbrev rm_X8_sing : Room := { frames := 2, cells := 0, slots := 0, locals := 43 }
set_option maxHeartbeats 4000000 in
set_option maxRecDepth 100000 in
theorem c_X8_sing (l : Launch) (G : qG) (ad : Nat → Nat) (hI : qI W2N ad) (M : qM) (sz : Nat) (x1 : Int32) (x2 : Int32) {P : Int32 → qM → Prop} (h : qOk2 (kX8_sing M x1 x2) P) : Met l yX8_sing wsX8_sing rm_X8_sing (va_Pc [.ref (ad 0), .int x1, .int x2] (qPre W2N e2 G ad M sz)) (va_Qi P (fun u t => qHp W2N e2 G ad u t.heap) (qA W2N ad sz)) 0 0 (qA W2N ad sz) := by
  refine Met.ofW (cc := cX8_sing) (maxL := 3) (ret := (some .int)) (by decide) rfl ?_
  intro p e s m args below meth c s₁ B hml hv
  obtain ⟨rfl, hsz, hK, hP⟩ := hv
  subst hsz
  have hx := B.exec
  have hb := B.bytes
  have hr := B.returns
  have hts := atoms_spec (ws := wsX8_sing) B.pre
  have hown : s.vm.findClass RX8 = some m.cls := findClass_of_methodNamed B.named
  have hlocks := B.notSynchronized
  have hH : qHS W2N e2 G ad M s.heap s.heap [] := ⟨hP, va_S.rf⟩
  have f16 : (Cond.fieldLink RX8 16 "SongLampsModel" "low" "[I").before [.ref (ad 0), .int x1, .int x2].toArray s = true := hts _ (by decide +kernel)
  have i_X8 : ∀ w ∈ wsX80, w ∈ wsX8_sing := fun w hw => List.mem_cons_of_mem _ ((List.mem_append_right _ hw))
  have f19 : (Cond.fieldLink RX8 19 "SongLampsModel" "high" "[I").before [.ref (ad 0), .int x1, .int x2].toArray s = true := hts _ (by decide +kernel)
  have f13 : (Cond.fieldLink RX8 13 "SongLampsModel" "now" "[I").before [.ref (ad 0), .int x1, .int x2].toArray s = true := hts _ (by decide +kernel)
  have hl := lv_entry ([.ref (ad 0), .int x1, .int x2]) (n := 3) (Nat.le_of_ble_eq_true rfl)
  rw [lg_entry_eq]
  generalize (lg_sl ([.ref (ad 0), .int x1, .int x2]) ++ List.replicate (3 - (lg_sl ([.ref (ad 0), .int x1, .int x2])).length) Slot.unset).toArray = ls at hl ⊢
  have hl : lv_has ls 3 [(0, .ref (ad 0)), (1, .int x1), (2, .int x2)] := hl
  have h : qOk (kX8_sing M x1 x2) _ := h
  unfold kX8_sing at h
  refine lv_aload_n hx hb dX8_sing_0 rfl (lv_at hl 0 rfl) ?_
  refine lv_iload_n hx hb dX8_sing_1 rfl (lv_at hl 1 rfl) ?_
  refine y_cs (va_runV (As := [.int x1]) (rest := []) ⟨hx, hb, hml, hown, hts⟩ (c_X8_isThere l G ad hI M _ x1 (qOk.b1 h)) (cwV 1 hts gX8_sing_X8_isThere rfl rfl rfl (by decide +kernel) ⟨Nat.le_of_ble_eq_true rfl, Nat.le_of_ble_eq_true rfl⟩) ⟨qPre.blind, qrecv hK hH qOb_8 rfl, qPre.at hK hH⟩ rfl rfl hl.1 rfl (lv_room (Nat.le_of_ble_eq_true rfl)) dX8_sing_2 ⟨Nat.zero_le _, Nat.zero_le _⟩) (fun v1 h => ?_)
  refine lv_if_ne (tgt := 10) hx hb dX8_sing_5 (by decide) (fun hc => ?_) (fun hc => ?_)
  · have h := qOk.f hc h
    refine lv_iload_n hx hb dX8_sing_10 rfl (lv_at hl 2 rfl) ?_
    refine lv_aload_n hx hb dX8_sing_11 rfl (lv_at hl 0 rfl) ?_
    refine y_get hx hb hts i_X8 hown hK hH qOb_8 rfl 3 (by decide) f16 rfl dX8_sing_12 ?_
    refine lv_iload_n hx hb dX8_sing_15 rfl (lv_at hl 1 rfl) ?_
    refine y_iald hx hb hK hH qMr_3 h dX8_sing_16 (fun v2 h => ?_)
    refine lv_aload_n hx hb dX8_sing_17 rfl (lv_at hl 0 rfl) ?_
    refine y_get hx hb hts i_X8 hown hK hH qOb_8 rfl 4 (by decide) f19 rfl dX8_sing_18 ?_
    refine lv_iload_n hx hb dX8_sing_21 rfl (lv_at hl 1 rfl) ?_
    refine y_iald hx hb hK hH qMr_4 h dX8_sing_22 (fun v3 h => ?_)
    refine y_cs (va_runS (As := [.int x2, .int v2, .int v3]) (rest := []) ⟨hx, hb, hml, hown, hts⟩ (c_X8_in l x2 v2 v3 (qOk.b1 h)) (va_cwS 3 hts gX8_sing_X8_in rfl rfl rfl (by decide +kernel) ⟨Nat.le_of_ble_eq_true rfl, Nat.le_of_ble_eq_true rfl⟩) ⟨qPrT.blind, qPrT.at⟩ rfl rfl hl.1 rfl (lv_room (Nat.le_of_ble_eq_true rfl)) dX8_sing_23 ⟨Nat.zero_le _, Nat.zero_le _⟩) (fun v4 h => ?_)
    refine lv_if_ne (tgt := 31) hx hb dX8_sing_26 (by decide) (fun hc => ?_) (fun hc => ?_)
    · have h := qOk.f hc h
      refine lv_aload_n hx hb dX8_sing_31 rfl (lv_at hl 0 rfl) ?_
      refine y_get hx hb hts i_X8 hown hK hH qOb_8 rfl 1 (by decide) f13 rfl dX8_sing_32 ?_
      refine lv_iload_n hx hb dX8_sing_35 rfl (lv_at hl 1 rfl) ?_
      refine y_iald hx hb hK hH qMr_2 h dX8_sing_36 (fun v5 h => ?_)
      refine lv_iload_n hx hb dX8_sing_37 rfl (lv_at hl 2 rfl) ?_
      refine lv_icmp_ne (tgt := 43) hx hb dX8_sing_38 (by decide) (fun hc => ?_) (fun hc => ?_)
      · have h := qOk.f hc h
        refine lv_aload_n hx hb dX8_sing_43 rfl (lv_at hl 0 rfl) ?_
        refine y_get hx hb hts i_X8 hown hK hH qOb_8 rfl 1 (by decide) f13 rfl dX8_sing_44 ?_
        refine lv_bipush (v := 8) hx hb dX8_sing_47 (by decide) ?_
        refine lv_iload_n hx hb dX8_sing_49 rfl (lv_at hl 1 rfl) ?_
        refine lv_iadd hx hb dX8_sing_50 ?_
        refine y_iald hx hb hK hH qMr_2 h dX8_sing_51 (fun v6 h => ?_)
        refine lv_if_ne (tgt := 57) hx hb dX8_sing_52 (by decide) (fun hc => ?_) (fun hc => ?_)
        · have h := qOk.f hc h
          refine lv_aload_n hx hb dX8_sing_57 rfl (lv_at hl 0 rfl) ?_
          refine y_get hx hb hts i_X8 hown hK hH qOb_8 rfl 1 (by decide) f13 rfl dX8_sing_58 ?_
          refine lv_iload_n hx hb dX8_sing_61 rfl (lv_at hl 1 rfl) ?_
          refine lv_iload_n hx hb dX8_sing_62 rfl (lv_at hl 2 rfl) ?_
          refine y_iast hx hb hK hI hH qMr_2 h dX8_sing_63 (fun M7 H locs hH h => ?_)
          refine lv_iconst (v := 0) hx hb dX8_sing_64 (by decide) ?_
          exact W.iret hx hb hr (fun t ht _ => ⟨⟨_, _, rfl, qOk2.s h, qHpt ht hH.1⟩, hH.2.F ht⟩) hH.2.2.2 dX8_sing_65
        · have h := qOk.t hc h
          refine lv_iconst (v := 4) hx hb dX8_sing_55 (by decide) ?_
          exact W.iret hx hb hr (fun t ht _ => ⟨⟨_, _, rfl, qOk2.s h, qHpt ht hH.1⟩, hH.2.F ht⟩) hH.2.2.2 dX8_sing_56
      · have h := qOk.t hc h
        refine lv_iconst (v := 3) hx hb dX8_sing_41 (by decide) ?_
        exact W.iret hx hb hr (fun t ht _ => ⟨⟨_, _, rfl, qOk2.s h, qHpt ht hH.1⟩, hH.2.F ht⟩) hH.2.2.2 dX8_sing_42
    · have h := qOk.t hc h
      refine lv_iconst (v := 2) hx hb dX8_sing_29 (by decide) ?_
      exact W.iret hx hb hr (fun t ht _ => ⟨⟨_, _, rfl, qOk2.s h, qHpt ht hH.1⟩, hH.2.F ht⟩) hH.2.2.2 dX8_sing_30
  · have h := qOk.t hc h
    refine lv_iconst (v := 1) hx hb dX8_sing_8 (by decide) ?_
    exact W.iret hx hb hr (fun t ht _ => ⟨⟨_, _, rfl, qOk2.s h, qHpt ht hH.1⟩, hH.2.F ht⟩) hH.2.2.2 dX8_sing_9
abbrev rm_X8_hush : Room := { frames := 2, cells := 0, slots := 0, locals := 43 }
set_option maxHeartbeats 4000000 in
set_option maxRecDepth 100000 in
theorem c_X8_hush (l : Launch) (G : qG) (ad : Nat → Nat) (hI : qI W2N ad) (M : qM) (sz : Nat) (x1 : Int32) {P : Int32 → qM → Prop} (h : qOk2 (kX8_hush M x1) P) : Met l yX8_hush wsX8_hush rm_X8_hush (va_Pc [.ref (ad 0), .int x1] (qPre W2N e2 G ad M sz)) (va_Qi P (fun u t => qHp W2N e2 G ad u t.heap) (qA W2N ad sz)) 0 0 (qA W2N ad sz) := by
  refine Met.ofW (cc := cX8_hush) (maxL := 2) (ret := (some .int)) (by decide) rfl ?_
  intro p e s m args below meth c s₁ B hml hv
  obtain ⟨rfl, hsz, hK, hP⟩ := hv
  subst hsz
  have hx := B.exec
  have hb := B.bytes
  have hr := B.returns
  have hts := atoms_spec (ws := wsX8_hush) B.pre
  have hown : s.vm.findClass RX8 = some m.cls := findClass_of_methodNamed B.named
  have hlocks := B.notSynchronized
  have hH : qHS W2N e2 G ad M s.heap s.heap [] := ⟨hP, va_S.rf⟩
  have f13 : (Cond.fieldLink RX8 13 "SongLampsModel" "now" "[I").before [.ref (ad 0), .int x1].toArray s = true := hts _ (by decide +kernel)
  have i_X8 : ∀ w ∈ wsX80, w ∈ wsX8_hush := fun w hw => List.mem_cons_of_mem _ ((List.mem_append_right _ hw))
  have hl := lv_entry ([.ref (ad 0), .int x1]) (n := 2) (Nat.le_of_ble_eq_true rfl)
  rw [lg_entry_eq]
  generalize (lg_sl ([.ref (ad 0), .int x1]) ++ List.replicate (2 - (lg_sl ([.ref (ad 0), .int x1])).length) Slot.unset).toArray = ls at hl ⊢
  have hl : lv_has ls 2 [(0, .ref (ad 0)), (1, .int x1)] := hl
  have h : qOk (kX8_hush M x1) _ := h
  unfold kX8_hush at h
  refine lv_aload_n hx hb dX8_hush_0 rfl (lv_at hl 0 rfl) ?_
  refine lv_iload_n hx hb dX8_hush_1 rfl (lv_at hl 1 rfl) ?_
  refine y_cs (va_runV (As := [.int x1]) (rest := []) ⟨hx, hb, hml, hown, hts⟩ (c_X8_isThere l G ad hI M _ x1 (qOk.b1 h)) (cwV 1 hts gX8_hush_X8_isThere rfl rfl rfl (by decide +kernel) ⟨Nat.le_of_ble_eq_true rfl, Nat.le_of_ble_eq_true rfl⟩) ⟨qPre.blind, qrecv hK hH qOb_8 rfl, qPre.at hK hH⟩ rfl rfl hl.1 rfl (lv_room (Nat.le_of_ble_eq_true rfl)) dX8_hush_2 ⟨Nat.zero_le _, Nat.zero_le _⟩) (fun v1 h => ?_)
  refine lv_if_ne (tgt := 10) hx hb dX8_hush_5 (by decide) (fun hc => ?_) (fun hc => ?_)
  · have h := qOk.f hc h
    refine lv_aload_n hx hb dX8_hush_10 rfl (lv_at hl 0 rfl) ?_
    refine y_get hx hb hts i_X8 hown hK hH qOb_8 rfl 1 (by decide) f13 rfl dX8_hush_11 ?_
    refine lv_iload_n hx hb dX8_hush_14 rfl (lv_at hl 1 rfl) ?_
    refine y_iald hx hb hK hH qMr_2 h dX8_hush_15 (fun v2 h => ?_)
    refine lv_if_ge (tgt := 21) hx hb dX8_hush_16 (by decide) (fun hc => ?_) (fun hc => ?_)
    · have h := qOk.t hc h
      refine lv_aload_n hx hb dX8_hush_21 rfl (lv_at hl 0 rfl) ?_
      refine y_get hx hb hts i_X8 hown hK hH qOb_8 rfl 1 (by decide) f13 rfl dX8_hush_22 ?_
      refine lv_iload_n hx hb dX8_hush_25 rfl (lv_at hl 1 rfl) ?_
      refine lv_bipush (v := (-6)) hx hb dX8_hush_26 (by decide) ?_
      refine y_iast hx hb hK hI hH qMr_2 h dX8_hush_28 (fun M3 H locs hH h => ?_)
      refine lv_iconst (v := 0) hx hb dX8_hush_29 (by decide) ?_
      exact W.iret hx hb hr (fun t ht _ => ⟨⟨_, _, rfl, qOk2.s h, qHpt ht hH.1⟩, hH.2.F ht⟩) hH.2.2.2 dX8_hush_30
    · have h := qOk.f hc h
      refine lv_iconst (v := 3) hx hb dX8_hush_19 (by decide) ?_
      exact W.iret hx hb hr (fun t ht _ => ⟨⟨_, _, rfl, qOk2.s h, qHpt ht hH.1⟩, hH.2.F ht⟩) hH.2.2.2 dX8_hush_20
  · have h := qOk.t hc h
    refine lv_iconst (v := 1) hx hb dX8_hush_8 (by decide) ?_
    exact W.iret hx hb hr (fun t ht _ => ⟨⟨_, _, rfl, qOk2.s h, qHpt ht hH.1⟩, hH.2.F ht⟩) hH.2.2.2 dX8_hush_9
abbrev rm_X8_go : Room := { frames := 2, cells := 0, slots := 0, locals := 43 }
set_option maxHeartbeats 4000000 in
set_option maxRecDepth 100000 in
theorem c_X8_go (l : Launch) (G : qG) (ad : Nat → Nat) (hI : qI W2N ad) (M : qM) (sz : Nat) (x1 : Int32) (x2 : Int32) {P : Int32 → qM → Prop} (h : qOk2 (kX8_go M x1 x2) P) : Met l yX8_go wsX8_go rm_X8_go (va_Pc [.ref (ad 0), .int x1, .int x2] (qPre W2N e2 G ad M sz)) (va_Qi P (fun u t => qHp W2N e2 G ad u t.heap) (qA W2N ad sz)) 0 0 (qA W2N ad sz) := by
  refine Met.ofW (cc := cX8_go) (maxL := 4) (ret := (some .int)) (by decide) rfl ?_
  intro p e s m args below meth c s₁ B hml hv
  obtain ⟨rfl, hsz, hK, hP⟩ := hv
  subst hsz
  have hx := B.exec
  have hb := B.bytes
  have hr := B.returns
  have hts := atoms_spec (ws := wsX8_go) B.pre
  have hown : s.vm.findClass RX8 = some m.cls := findClass_of_methodNamed B.named
  have hlocks := B.notSynchronized
  have hH : qHS W2N e2 G ad M s.heap s.heap [] := ⟨hP, va_S.rf⟩
  have f13 : (Cond.fieldLink RX8 13 "SongLampsModel" "now" "[I").before [.ref (ad 0), .int x1, .int x2].toArray s = true := hts _ (by decide +kernel)
  have i_X8 : ∀ w ∈ wsX80, w ∈ wsX8_go := fun w hw => List.mem_cons_of_mem _ ((List.mem_append_right _ hw))
  have f25 : (Cond.fieldLink RX8 25 "SongLampsModel" "passages" "[I").before [.ref (ad 0), .int x1, .int x2].toArray s = true := hts _ (by decide +kernel)
  have hl := lv_entry ([.ref (ad 0), .int x1, .int x2]) (n := 4) (Nat.le_of_ble_eq_true rfl)
  rw [lg_entry_eq]
  generalize (lg_sl ([.ref (ad 0), .int x1, .int x2]) ++ List.replicate (4 - (lg_sl ([.ref (ad 0), .int x1, .int x2])).length) Slot.unset).toArray = ls at hl ⊢
  have hl : lv_has ls 4 [(0, .ref (ad 0)), (1, .int x1), (2, .int x2)] := hl
  have h : qOk (kX8_go M x1 x2) _ := h
  unfold kX8_go at h
  refine lv_aload_n hx hb dX8_go_0 rfl (lv_at hl 0 rfl) ?_
  refine lv_iload_n hx hb dX8_go_1 rfl (lv_at hl 1 rfl) ?_
  refine y_cs (va_runV (As := [.int x1]) (rest := []) ⟨hx, hb, hml, hown, hts⟩ (c_X8_isThere l G ad hI M _ x1 (qOk.b1 h)) (cwV 1 hts gX8_go_X8_isThere rfl rfl rfl (by decide +kernel) ⟨Nat.le_of_ble_eq_true rfl, Nat.le_of_ble_eq_true rfl⟩) ⟨qPre.blind, qrecv hK hH qOb_8 rfl, qPre.at hK hH⟩ rfl rfl hl.1 rfl (lv_room (Nat.le_of_ble_eq_true rfl)) dX8_go_2 ⟨Nat.zero_le _, Nat.zero_le _⟩) (fun v1 h => ?_)
  refine lv_if_ne (tgt := 10) hx hb dX8_go_5 (by decide) (fun hc => ?_) (fun hc => ?_)
  · have h := qOk.f hc h
    refine lv_aload_n hx hb dX8_go_10 rfl (lv_at hl 0 rfl) ?_
    refine y_get hx hb hts i_X8 hown hK hH qOb_8 rfl 1 (by decide) f13 rfl dX8_go_11 ?_
    refine lv_bipush (v := 16) hx hb dX8_go_14 (by decide) ?_
    refine lv_iload_n hx hb dX8_go_16 rfl (lv_at hl 1 rfl) ?_
    refine lv_iadd hx hb dX8_go_17 ?_
    refine y_iald hx hb hK hH qMr_2 h dX8_go_18 (fun v2 h => ?_)
    refine lv_istore_n (lv' := [(3, .int v2), (0, .ref (ad 0)), (1, .int x1), (2, .int x2)]) hx hb dX8_go_19 rfl hl (by decide) rfl (fun ls hl => ?_)
    refine lv_aload_n hx hb dX8_go_20 rfl (lv_at hl 1 rfl) ?_
    refine y_get hx hb hts i_X8 hown hK hH qOb_8 rfl 6 (by decide) f25 rfl dX8_go_21 ?_
    refine lv_iload_n hx hb dX8_go_24 rfl (lv_at hl 0 rfl) ?_
    refine y_iald hx hb hK hH qMr_6 h dX8_go_25 (fun v3 h => ?_)
    refine lv_iload_n hx hb dX8_go_26 rfl (lv_at hl 3 rfl) ?_
    refine y_cs (va_runS (As := [.int v3, .int x2]) (rest := []) ⟨hx, hb, hml, hown, hts⟩ (c_X8_has l v3 x2 (qOk.b1 h)) (va_cwS 2 hts gX8_go_X8_has rfl rfl rfl (by decide +kernel) ⟨Nat.le_of_ble_eq_true rfl, Nat.le_of_ble_eq_true rfl⟩) ⟨qPrT.blind, qPrT.at⟩ rfl rfl hl.1 rfl (lv_room (Nat.le_of_ble_eq_true rfl)) dX8_go_27 ⟨Nat.zero_le _, Nat.zero_le _⟩) (fun v4 h => ?_)
    refine lv_if_ne (tgt := 35) hx hb dX8_go_30 (by decide) (fun hc => ?_) (fun hc => ?_)
    · have h := qOk.f hc h
      refine lv_aload_n hx hb dX8_go_35 rfl (lv_at hl 1 rfl) ?_
      refine y_get hx hb hts i_X8 hown hK hH qOb_8 rfl 1 (by decide) f13 rfl dX8_go_36 ?_
      refine lv_bipush (v := 34) hx hb dX8_go_39 (by decide) ?_
      refine y_iald hx hb hK hH qMr_2 h dX8_go_41 (fun v5 h => ?_)
      refine lv_iload_n hx hb dX8_go_42 rfl (lv_at hl 0 rfl) ?_
      refine y_cs (va_runS (As := [.int v5, .int v2]) (rest := []) ⟨hx, hb, hml, hown, hts⟩ (c_X8_has l v5 v2 (qOk.b1 h)) (va_cwS 2 hts gX8_go_X8_has rfl rfl rfl (by decide +kernel) ⟨Nat.le_of_ble_eq_true rfl, Nat.le_of_ble_eq_true rfl⟩) ⟨qPrT.blind, qPrT.at⟩ rfl rfl hl.1 rfl (lv_room (Nat.le_of_ble_eq_true rfl)) dX8_go_43 ⟨Nat.zero_le _, Nat.zero_le _⟩) (fun v6 h => ?_)
      refine lv_if_ne (tgt := 63) hx hb dX8_go_46 (by decide) (fun hc => ?_) (fun hc => ?_)
      · have h := qOk.f hc h
        refine lv_bipush (v := 6) hx hb dX8_go_63 (by decide) ?_
        exact W.iret hx hb hr (fun t ht _ => ⟨⟨_, _, rfl, qOk2.s h, qHpt ht hH.1⟩, hH.2.F ht⟩) hH.2.2.2 dX8_go_65
      · have h := qOk.t hc h
        refine lv_aload_n hx hb dX8_go_49 rfl (lv_at hl 1 rfl) ?_
        refine y_get hx hb hts i_X8 hown hK hH qOb_8 rfl 1 (by decide) f13 rfl dX8_go_50 ?_
        refine lv_bipush (v := 34) hx hb dX8_go_53 (by decide) ?_
        refine y_iald hx hb hK hH qMr_2 h dX8_go_55 (fun v7 h => ?_)
        refine lv_iload_n hx hb dX8_go_56 rfl (lv_at hl 3 rfl) ?_
        refine y_cs (va_runS (As := [.int v7, .int x2]) (rest := []) ⟨hx, hb, hml, hown, hts⟩ (c_X8_has l v7 x2 (qOk.b1 h)) (va_cwS 2 hts gX8_go_X8_has rfl rfl rfl (by decide +kernel) ⟨Nat.le_of_ble_eq_true rfl, Nat.le_of_ble_eq_true rfl⟩) ⟨qPrT.blind, qPrT.at⟩ rfl rfl hl.1 rfl (lv_room (Nat.le_of_ble_eq_true rfl)) dX8_go_57 ⟨Nat.zero_le _, Nat.zero_le _⟩) (fun v8 h => ?_)
        refine lv_if_eq (tgt := 66) hx hb dX8_go_60 (by decide) (fun hc => ?_) (fun hc => ?_)
        · have h := qOk.t hc h
          refine lv_aload_n hx hb dX8_go_66 rfl (lv_at hl 1 rfl) ?_
          refine y_get hx hb hts i_X8 hown hK hH qOb_8 rfl 1 (by decide) f13 rfl dX8_go_67 ?_
          refine lv_bipush (v := 16) hx hb dX8_go_70 (by decide) ?_
          refine lv_iload_n hx hb dX8_go_72 rfl (lv_at hl 2 rfl) ?_
          refine lv_iadd hx hb dX8_go_73 ?_
          refine lv_iload_n hx hb dX8_go_74 rfl (lv_at hl 3 rfl) ?_
          refine y_iast hx hb hK hI hH qMr_2 h dX8_go_75 (fun M9 H locs hH h => ?_)
          refine lv_iconst (v := 0) hx hb dX8_go_76 (by decide) ?_
          exact W.iret hx hb hr (fun t ht _ => ⟨⟨_, _, rfl, qOk2.s h, qHpt ht hH.1⟩, hH.2.F ht⟩) hH.2.2.2 dX8_go_77
        · have h := qOk.f hc h
          refine lv_bipush (v := 6) hx hb dX8_go_63 (by decide) ?_
          exact W.iret hx hb hr (fun t ht _ => ⟨⟨_, _, rfl, qOk2.s h, qHpt ht hH.1⟩, hH.2.F ht⟩) hH.2.2.2 dX8_go_65
    · have h := qOk.t hc h
      refine lv_iconst (v := 5) hx hb dX8_go_33 (by decide) ?_
      exact W.iret hx hb hr (fun t ht _ => ⟨⟨_, _, rfl, qOk2.s h, qHpt ht hH.1⟩, hH.2.F ht⟩) hH.2.2.2 dX8_go_34
  · have h := qOk.t hc h
    refine lv_iconst (v := 1) hx hb dX8_go_8 (by decide) ?_
    exact W.iret hx hb hr (fun t ht _ => ⟨⟨_, _, rfl, qOk2.s h, qHpt ht hH.1⟩, hH.2.F ht⟩) hH.2.2.2 dX8_go_9
