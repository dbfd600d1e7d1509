abbrev rm_X7_restore : Room := { frames := 2, cells := 0, slots := 0, locals := 47 }
set_option maxHeartbeats 4000000 in
set_option maxRecDepth 100000 in
theorem c_X7_restore (l : Launch) (G : qG) (ad : Nat → Nat) (hI : qI W1N ad) (M : qM) (sz : Nat) (x1 : Int32) {P : Int32 → qM → Prop} (h : qOk2 (kX7_restore M x1) P) : Met l yX7_restore wsX7_restore rm_X7_restore (va_Pc [.ref (ad 0), .int x1] (qPre W1N e1 G ad M sz)) (va_Qi P (fun u t => qHp W1N e1 G ad u t.heap) (qA W1N ad sz)) 0 0 (qA W1N ad sz) := by
  refine Met.ofW (cc := cX7_restore) (maxL := 2) (ret := (some .int)) (by decide) rfl ?_
  intro p e s m args below meth c s₁ B hml hv
  obtain ⟨rfl, hsz, hK, hP⟩ := hv
  subst hsz
  have hx := B.exec
  have hb := B.bytes
  have hr := B.returns
  have hts := atoms_spec (ws := wsX7_restore) B.pre
  have hown : s.vm.findClass RX7 = some m.cls := findClass_of_methodNamed B.named
  have hlocks := B.notSynchronized
  have hH : qHS W1N e1 G ad M s.heap s.heap [] := ⟨hP, va_S.rf⟩
  have f20 : (Cond.fieldLink RX7 20 "SongLamps" "kept" "[Z").before [.ref (ad 0), .int x1].toArray s = true := hts _ (by decide +kernel)
  have i_X7 : ∀ w ∈ wsX70, w ∈ wsX7_restore := fun w hw => List.mem_cons_of_mem _ ((List.mem_append_left _ (List.mem_append_right _ hw)))
  have f10 : (Cond.fieldLink RX7 10 "SongLamps" "now" "LSongLamps$Mine;").before [.ref (ad 0), .int x1].toArray s = true := hts _ (by decide +kernel)
  have f16 : (Cond.fieldLink RX7 16 "SongLamps" "images" "[LSongLamps$Mine;").before [.ref (ad 0), .int x1].toArray s = true := hts _ (by decide +kernel)
  have hl := lv_entry ([.ref (ad 0), .int x1]) (n := 2) (Nat.le_of_ble_eq_true rfl)
  rw [lg_entry_eq]
  generalize (lg_sl ([.ref (ad 0), .int x1]) ++ List.replicate (2 - (lg_sl ([.ref (ad 0), .int x1])).length) Slot.unset).toArray = ls at hl ⊢
  have hl : lv_has ls 2 [(0, .ref (ad 0)), (1, .int x1)] := hl
  have h : qOk (kX7_restore M x1) _ := h
  unfold kX7_restore at h
  refine lv_iload_n hx hb dX7_restore_0 rfl (lv_at hl 1 rfl) ?_
  refine lv_if_lt (tgt := 9) hx hb dX7_restore_1 (by decide) (fun hc => ?_) (fun hc => ?_)
  · have h := qOk.t hc h
    refine lv_bipush (v := (-2)) hx hb dX7_restore_9 (by decide) ?_
    exact W.iret hx hb hr (fun t ht _ => ⟨⟨_, _, rfl, qOk2.s h, qHpt ht hH.1⟩, hH.2.F ht⟩) hH.2.2.2 dX7_restore_11
  · have h := qOk.f hc h
    refine lv_iload_n hx hb dX7_restore_4 rfl (lv_at hl 1 rfl) ?_
    refine lv_iconst (v := 2) hx hb dX7_restore_5 (by decide) ?_
    refine lv_icmp_lt (tgt := 12) hx hb dX7_restore_6 (by decide) (fun hc => ?_) (fun hc => ?_)
    · have h := qOk.t hc h
      refine lv_aload_n hx hb dX7_restore_12 rfl (lv_at hl 0 rfl) ?_
      refine y_get hx hb hts i_X7 hown hK hH qOb_7 rfl 2 (by decide) f20 rfl dX7_restore_13 ?_
      refine lv_iload_n hx hb dX7_restore_16 rfl (lv_at hl 1 rfl) ?_
      refine y_zald hx hb hK hH qAz_38 h dX7_restore_17 (fun v1 h => ?_)
      refine lv_if_ne (tgt := 24) hx hb dX7_restore_18 (by decide) (fun hc => ?_) (fun hc => ?_)
      · have h := qOk.f hc h
        refine lv_aload_n hx hb dX7_restore_24 rfl (lv_at hl 0 rfl) ?_
        refine y_get hx hb hts i_X7 hown hK hH qOb_7 rfl 0 (by decide) f10 rfl dX7_restore_25 ?_
        refine lv_aload_n hx hb dX7_restore_28 rfl (lv_at hl 0 rfl) ?_
        refine y_get hx hb hts i_X7 hown hK hH qOb_7 rfl 1 (by decide) f16 rfl dX7_restore_29 ?_
        refine lv_iload_n hx hb dX7_restore_32 rfl (lv_at hl 1 rfl) ?_
        refine y_aald hx hb hK hH qAo_13 h dX7_restore_33 (fun h => ?_)
        refine y_cv hH (va_runV (As := [.ref (ad (qIm (x1 : Int32).toNatClampNeg))]) (rest := []) ⟨hx, hb, hml, hown, hts⟩ (c_X1_become l G ad hI M _ qMi_1 (qMi_im _) (qOk.b1 h)) (cwV 1 hts gX7_restore_X1_become rfl rfl rfl (by decide +kernel) ⟨Nat.le_of_ble_eq_true rfl, Nat.le_of_ble_eq_true rfl⟩) ⟨qPre.blind, qrecv hK hH (qMi_ob qMi_1) rfl, qPre.at hK hH⟩ rfl rfl hl.1 rfl (lv_room (Nat.le_of_ble_eq_true rfl)) dX7_restore_34 ⟨Nat.zero_le _, Nat.zero_le _⟩) (fun M2 H locs hH h => ?_)
        refine lv_iconst (v := 1) hx hb dX7_restore_37 (by decide) ?_
        exact W.iret hx hb hr (fun t ht _ => ⟨⟨_, _, rfl, qOk2.s h, qHpt ht hH.1⟩, hH.2.F ht⟩) hH.2.2.2 dX7_restore_38
      · have h := qOk.t hc h
        refine lv_bipush (v := (-3)) hx hb dX7_restore_21 (by decide) ?_
        exact W.iret hx hb hr (fun t ht _ => ⟨⟨_, _, rfl, qOk2.s h, qHpt ht hH.1⟩, hH.2.F ht⟩) hH.2.2.2 dX7_restore_23
    · have h := qOk.f hc h
      refine lv_bipush (v := (-2)) hx hb dX7_restore_9 (by decide) ?_
      exact W.iret hx hb hr (fun t ht _ => ⟨⟨_, _, rfl, qOk2.s h, qHpt ht hH.1⟩, hH.2.F ht⟩) hH.2.2.2 dX7_restore_11
abbrev rm_X7_toldOfGallery : Room := { frames := 1, cells := 0, slots := 0, locals := 20 }
set_option maxHeartbeats 4000000 in
set_option maxRecDepth 100000 in
theorem c_X7_toldOfGallery (l : Launch) (G : qG) (ad : Nat → Nat) (hI : qI W1N ad) (M : qM) (sz : Nat) (x1 : Int32) (x2 : Int32) {P : Int32 → Prop} (h : qOk (kX7_toldOfGallery M x1 x2) P) : Met l yX7_toldOfGallery wsX7_toldOfGallery rm_X7_toldOfGallery (va_Pc [.ref (ad 0), .int x1, .int x2] (qPre W1N e1 G ad M sz)) (vp_Si P) 0 0 (fun _ => False) := by
  refine Met.ofW (cc := cX7_toldOfGallery) (maxL := 3) (ret := (some .int)) (by decide) rfl ?_
  intro p e s m args below meth c s₁ B hml hv
  obtain ⟨rfl, hsz, hK, hP⟩ := hv
  subst hsz
  have hx := B.exec
  have hb := B.bytes
  have hr := B.returns
  have hts := atoms_spec (ws := wsX7_toldOfGallery) B.pre
  have hown : s.vm.findClass RX7 = some m.cls := findClass_of_methodNamed B.named
  have hlocks := B.notSynchronized
  have hH : qHS W1N e1 G ad M s.heap s.heap [] := ⟨hP, va_S.rf⟩
  have f10 : (Cond.fieldLink RX7 10 "SongLamps" "now" "LSongLamps$Mine;").before [.ref (ad 0), .int x1, .int x2].toArray s = true := hts _ (by decide +kernel)
  have i_X7 : ∀ w ∈ wsX70, w ∈ wsX7_toldOfGallery := fun w hw => List.mem_cons_of_mem _ ((List.mem_append_left _ (List.mem_append_right _ hw)))
  have f78 : (Cond.fieldLink RX7 78 "SongLamps$Mine" "echo" "[I").before [.ref (ad 0), .int x1, .int x2].toArray s = true := hts _ (by decide +kernel)
  have i_X1 : ∀ w ∈ wsX10, w ∈ wsX7_toldOfGallery := fun w hw => List.mem_cons_of_mem _ ((List.mem_append_right _ hw))
  have f155 : (Cond.fieldLink RX7 155 "SongLamps$Mine" "coal" "[I").before [.ref (ad 0), .int x1, .int x2].toArray s = true := hts _ (by decide +kernel)
  have f183 : (Cond.fieldLink RX7 183 "SongLamps$Mine" "passages" "[I").before [.ref (ad 0), .int x1, .int x2].toArray s = true := hts _ (by decide +kernel)
  have hl := lv_entry ([.ref (ad 0), .int x1, .int x2]) (n := 3) (Nat.le_of_ble_eq_true rfl)
  rw [lg_entry_eq]
  generalize (lg_sl ([.ref (ad 0), .int x1, .int x2]) ++ List.replicate (3 - (lg_sl ([.ref (ad 0), .int x1, .int x2])).length) Slot.unset).toArray = ls at hl ⊢
  have hl : lv_has ls 3 [(0, .ref (ad 0)), (1, .int x1), (2, .int x2)] := hl
  have h : qOk (kX7_toldOfGallery M x1 x2) _ := h
  unfold kX7_toldOfGallery at h
  refine lv_iload_n hx hb dX7_toldOfGallery_0 rfl (lv_at hl 1 rfl) ?_
  refine y_cs (va_runS (As := [.int x1]) (rest := []) ⟨hx, hb, hml, hown, hts⟩ (c_X7_isGallery l x1 (qOk.b1 h)) (va_cwS 1 hts gX7_toldOfGallery_X7_isGallery rfl rfl rfl (by decide +kernel) ⟨Nat.le_of_ble_eq_true rfl, Nat.le_of_ble_eq_true rfl⟩) ⟨qPrT.blind, qPrT.at⟩ rfl rfl hl.1 rfl (lv_room (Nat.le_of_ble_eq_true rfl)) dX7_toldOfGallery_1 ⟨Nat.zero_le _, Nat.zero_le _⟩) (fun v1 h => ?_)
  refine lv_if_ne (tgt := 10) hx hb dX7_toldOfGallery_4 (by decide) (fun hc => ?_) (fun hc => ?_)
  · have h := qOk.f hc h
    refine lv_iload_n hx hb dX7_toldOfGallery_10 rfl (lv_at hl 2 rfl) ?_
    by_cases c0 : x2 = 0
    · have h := qOk.t c0 h
      refine lv_tableIn (tgt := 36) hx hb dX7_toldOfGallery_11 (by rw [c0]; decide) (by rw [c0]; decide) (by rw [c0]; rfl) (by decide) ?_
      refine lv_aload_n hx hb dX7_toldOfGallery_36 rfl (lv_at hl 0 rfl) ?_
      refine y_get hx hb hts i_X7 hown hK hH qOb_7 rfl 0 (by decide) f10 rfl dX7_toldOfGallery_37 ?_
      refine y_get hx hb hts i_X1 hown hK hH (qMi_ob qMi_1) rfl 1 (by decide) f78 rfl dX7_toldOfGallery_40 ?_
      refine lv_iload_n hx hb dX7_toldOfGallery_43 rfl (lv_at hl 1 rfl) ?_
      refine y_iald hx hb hK hH (qMi_a2 qMi_1) h dX7_toldOfGallery_44 (fun v2 h => ?_)
      exact W.iret hx hb hr (fun t ht _ => ⟨_, rfl, qOk.s h, ht⟩) (fun _ hq => by cases hq) dX7_toldOfGallery_45
    have h := qOk.f c0 h
    by_cases c1 : x2 = 1
    · have h := qOk.t c1 h
      refine lv_tableIn (tgt := 46) hx hb dX7_toldOfGallery_11 (by rw [c1]; decide) (by rw [c1]; decide) (by rw [c1]; rfl) (by decide) ?_
      refine lv_aload_n hx hb dX7_toldOfGallery_46 rfl (lv_at hl 0 rfl) ?_
      refine y_get hx hb hts i_X7 hown hK hH qOb_7 rfl 0 (by decide) f10 rfl dX7_toldOfGallery_47 ?_
      refine y_get hx hb hts i_X1 hown hK hH (qMi_ob qMi_1) rfl 2 (by decide) f155 rfl dX7_toldOfGallery_50 ?_
      refine lv_iload_n hx hb dX7_toldOfGallery_53 rfl (lv_at hl 1 rfl) ?_
      refine y_iald hx hb hK hH (qMi_a3 qMi_1) h dX7_toldOfGallery_54 (fun v3 h => ?_)
      exact W.iret hx hb hr (fun t ht _ => ⟨_, rfl, qOk.s h, ht⟩) (fun _ hq => by cases hq) dX7_toldOfGallery_55
    have h := qOk.f c1 h
    by_cases c2 : x2 = 2
    · have h := qOk.t c2 h
      refine lv_tableIn (tgt := 56) hx hb dX7_toldOfGallery_11 (by rw [c2]; decide) (by rw [c2]; decide) (by rw [c2]; rfl) (by decide) ?_
      refine lv_aload_n hx hb dX7_toldOfGallery_56 rfl (lv_at hl 0 rfl) ?_
      refine y_get hx hb hts i_X7 hown hK hH qOb_7 rfl 0 (by decide) f10 rfl dX7_toldOfGallery_57 ?_
      refine y_get hx hb hts i_X1 hown hK hH (qMi_ob qMi_1) rfl 0 (by decide) f183 rfl dX7_toldOfGallery_60 ?_
      refine lv_iload_n hx hb dX7_toldOfGallery_63 rfl (lv_at hl 1 rfl) ?_
      refine y_iald hx hb hK hH (qMi_a1 qMi_1) h dX7_toldOfGallery_64 (fun v4 h => ?_)
      exact W.iret hx hb hr (fun t ht _ => ⟨_, rfl, qOk.s h, ht⟩) (fun _ hq => by cases hq) dX7_toldOfGallery_65
    have h := qOk.f c2 h
    have n0 := lv_neT c0 (a := 0) rfl
    have n1 := lv_neT c1 (a := 1) rfl
    have n2 := lv_neT c2 (a := 2) rfl
    refine lv_tableOut (tgt := 66) hx hb dX7_toldOfGallery_11 (by omega) (by decide) ?_
    refine lv_bipush (v := (-2)) hx hb dX7_toldOfGallery_66 (by decide) ?_
    exact W.iret hx hb hr (fun t ht _ => ⟨_, rfl, qOk.s h, ht⟩) (fun _ hq => by cases hq) dX7_toldOfGallery_68
  · have h := qOk.t hc h
    refine lv_bipush (v := (-2)) hx hb dX7_toldOfGallery_7 (by decide) ?_
    exact W.iret hx hb hr (fun t ht _ => ⟨_, rfl, qOk.s h, ht⟩) (fun _ hq => by cases hq) dX7_toldOfGallery_9
abbrev rm_X7_toldOfVoice : Room := { frames := 2, cells := 0, slots := 0, locals := 42 }
set_option maxHeartbeats 4000000 in
set_option maxRecDepth 100000 in
theorem c_X7_toldOfVoice (l : Launch) (G : qG) (ad : Nat → Nat) (hI : qI W1N ad) (M : qM) (sz : Nat) (x1 : Int32) (x2 : Int32) {P : Int32 → Prop} (h : qOk (kX7_toldOfVoice M x1 x2) P) : Met l yX7_toldOfVoice wsX7_toldOfVoice rm_X7_toldOfVoice (va_Pc [.ref (ad 0), .int x1, .int x2] (qPre W1N e1 G ad M sz)) (vp_Si P) 0 0 (fun _ => False) := by
  refine Met.ofW (cc := cX7_toldOfVoice) (maxL := 3) (ret := (some .int)) (by decide) rfl ?_
  intro p e s m args below meth c s₁ B hml hv
  obtain ⟨rfl, hsz, hK, hP⟩ := hv
  subst hsz
  have hx := B.exec
  have hb := B.bytes
  have hr := B.returns
  have hts := atoms_spec (ws := wsX7_toldOfVoice) B.pre
  have hown : s.vm.findClass RX7 = some m.cls := findClass_of_methodNamed B.named
  have hlocks := B.notSynchronized
  have hH : qHS W1N e1 G ad M s.heap s.heap [] := ⟨hP, va_S.rf⟩
  have f10 : (Cond.fieldLink RX7 10 "SongLamps" "now" "LSongLamps$Mine;").before [.ref (ad 0), .int x1, .int x2].toArray s = true := hts _ (by decide +kernel)
  have i_X7 : ∀ w ∈ wsX70, w ∈ wsX7_toldOfVoice := fun w hw => List.mem_cons_of_mem _ ((List.mem_append_left _ (List.mem_append_right _ hw)))
  have f92 : (Cond.fieldLink RX7 92 "SongLamps$Mine" "low" "[I").before [.ref (ad 0), .int x1, .int x2].toArray s = true := hts _ (by decide +kernel)
  have i_X1 : ∀ w ∈ wsX10, w ∈ wsX7_toldOfVoice := fun w hw => List.mem_cons_of_mem _ ((List.mem_append_right _ hw))
  have f95 : (Cond.fieldLink RX7 95 "SongLamps$Mine" "high" "[I").before [.ref (ad 0), .int x1, .int x2].toArray s = true := hts _ (by decide +kernel)
  have f101 : (Cond.fieldLink RX7 101 "SongLamps$Mine" "breath" "[I").before [.ref (ad 0), .int x1, .int x2].toArray s = true := hts _ (by decide +kernel)
  have f98 : (Cond.fieldLink RX7 98 "SongLamps$Mine" "lungs" "[I").before [.ref (ad 0), .int x1, .int x2].toArray s = true := hts _ (by decide +kernel)
  have f104 : (Cond.fieldLink RX7 104 "SongLamps$Mine" "place" "[I").before [.ref (ad 0), .int x1, .int x2].toArray s = true := hts _ (by decide +kernel)
  have hl := lv_entry ([.ref (ad 0), .int x1, .int x2]) (n := 3) (Nat.le_of_ble_eq_true rfl)
  rw [lg_entry_eq]
  generalize (lg_sl ([.ref (ad 0), .int x1, .int x2]) ++ List.replicate (3 - (lg_sl ([.ref (ad 0), .int x1, .int x2])).length) Slot.unset).toArray = ls at hl ⊢
  have hl : lv_has ls 3 [(0, .ref (ad 0)), (1, .int x1), (2, .int x2)] := hl
  have h : qOk (kX7_toldOfVoice M x1 x2) _ := h
  unfold kX7_toldOfVoice at h
  refine lv_aload_n hx hb dX7_toldOfVoice_0 rfl (lv_at hl 0 rfl) ?_
  refine y_get hx hb hts i_X7 hown hK hH qOb_7 rfl 0 (by decide) f10 rfl dX7_toldOfVoice_1 ?_
  refine lv_iload_n hx hb dX7_toldOfVoice_4 rfl (lv_at hl 1 rfl) ?_
  refine y_cs (va_runV (As := [.int x1]) (rest := []) ⟨hx, hb, hml, hown, hts⟩ (c_X1_isThere l G ad hI M _ qMi_1 x1 (qOk.b1 h)) (cwV 1 hts gX7_toldOfVoice_X1_isThere rfl rfl rfl (by decide +kernel) ⟨Nat.le_of_ble_eq_true rfl, Nat.le_of_ble_eq_true rfl⟩) ⟨qPre.blind, qrecv hK hH (qMi_ob qMi_1) rfl, qPre.at hK hH⟩ rfl rfl hl.1 rfl (lv_room (Nat.le_of_ble_eq_true rfl)) dX7_toldOfVoice_5 ⟨Nat.zero_le _, Nat.zero_le _⟩) (fun v1 h => ?_)
  refine lv_if_ne (tgt := 14) hx hb dX7_toldOfVoice_8 (by decide) (fun hc => ?_) (fun hc => ?_)
  · have h := qOk.f hc h
    refine lv_iload_n hx hb dX7_toldOfVoice_14 rfl (lv_at hl 2 rfl) ?_
    by_cases c0 : x2 = 0
    · have h := qOk.t c0 h
      refine lv_tableIn (tgt := 52) hx hb dX7_toldOfVoice_15 (by rw [c0]; decide) (by rw [c0]; decide) (by rw [c0]; rfl) (by decide) ?_
      refine lv_aload_n hx hb dX7_toldOfVoice_52 rfl (lv_at hl 0 rfl) ?_
      refine y_get hx hb hts i_X7 hown hK hH qOb_7 rfl 0 (by decide) f10 rfl dX7_toldOfVoice_53 ?_
      refine y_get hx hb hts i_X1 hown hK hH (qMi_ob qMi_1) rfl 8 (by decide) f92 rfl dX7_toldOfVoice_56 ?_
      refine lv_iload_n hx hb dX7_toldOfVoice_59 rfl (lv_at hl 1 rfl) ?_
      refine y_iald hx hb hK hH (qMi_a4 qMi_1) h dX7_toldOfVoice_60 (fun v2 h => ?_)
      exact W.iret hx hb hr (fun t ht _ => ⟨_, rfl, qOk.s h, ht⟩) (fun _ hq => by cases hq) dX7_toldOfVoice_61
    have h := qOk.f c0 h
    by_cases c1 : x2 = 1
    · have h := qOk.t c1 h
      refine lv_tableIn (tgt := 62) hx hb dX7_toldOfVoice_15 (by rw [c1]; decide) (by rw [c1]; decide) (by rw [c1]; rfl) (by decide) ?_
      refine lv_aload_n hx hb dX7_toldOfVoice_62 rfl (lv_at hl 0 rfl) ?_
      refine y_get hx hb hts i_X7 hown hK hH qOb_7 rfl 0 (by decide) f10 rfl dX7_toldOfVoice_63 ?_
      refine y_get hx hb hts i_X1 hown hK hH (qMi_ob qMi_1) rfl 9 (by decide) f95 rfl dX7_toldOfVoice_66 ?_
      refine lv_iload_n hx hb dX7_toldOfVoice_69 rfl (lv_at hl 1 rfl) ?_
      refine y_iald hx hb hK hH (qMi_a5 qMi_1) h dX7_toldOfVoice_70 (fun v3 h => ?_)
      exact W.iret hx hb hr (fun t ht _ => ⟨_, rfl, qOk.s h, ht⟩) (fun _ hq => by cases hq) dX7_toldOfVoice_71
    have h := qOk.f c1 h
    by_cases c2 : x2 = 2
    · have h := qOk.t c2 h
      refine lv_tableIn (tgt := 72) hx hb dX7_toldOfVoice_15 (by rw [c2]; decide) (by rw [c2]; decide) (by rw [c2]; rfl) (by decide) ?_
      refine lv_aload_n hx hb dX7_toldOfVoice_72 rfl (lv_at hl 0 rfl) ?_
      refine y_get hx hb hts i_X7 hown hK hH qOb_7 rfl 0 (by decide) f10 rfl dX7_toldOfVoice_73 ?_
      refine y_get hx hb hts i_X1 hown hK hH (qMi_ob qMi_1) rfl 11 (by decide) f101 rfl dX7_toldOfVoice_76 ?_
      refine lv_iload_n hx hb dX7_toldOfVoice_79 rfl (lv_at hl 1 rfl) ?_
      refine y_iald hx hb hK hH (qMi_a7 qMi_1) h dX7_toldOfVoice_80 (fun v4 h => ?_)
      exact W.iret hx hb hr (fun t ht _ => ⟨_, rfl, qOk.s h, ht⟩) (fun _ hq => by cases hq) dX7_toldOfVoice_81
    have h := qOk.f c2 h
    by_cases c3 : x2 = 3
    · have h := qOk.t c3 h
      refine lv_tableIn (tgt := 82) hx hb dX7_toldOfVoice_15 (by rw [c3]; decide) (by rw [c3]; decide) (by rw [c3]; rfl) (by decide) ?_
      refine lv_aload_n hx hb dX7_toldOfVoice_82 rfl (lv_at hl 0 rfl) ?_
      refine y_get hx hb hts i_X7 hown hK hH qOb_7 rfl 0 (by decide) f10 rfl dX7_toldOfVoice_83 ?_
      refine y_get hx hb hts i_X1 hown hK hH (qMi_ob qMi_1) rfl 10 (by decide) f98 rfl dX7_toldOfVoice_86 ?_
      refine lv_iload_n hx hb dX7_toldOfVoice_89 rfl (lv_at hl 1 rfl) ?_
      refine y_iald hx hb hK hH (qMi_a6 qMi_1) h dX7_toldOfVoice_90 (fun v5 h => ?_)
      exact W.iret hx hb hr (fun t ht _ => ⟨_, rfl, qOk.s h, ht⟩) (fun _ hq => by cases hq) dX7_toldOfVoice_91
    have h := qOk.f c3 h
    by_cases c4 : x2 = 4
    · have h := qOk.t c4 h
      refine lv_tableIn (tgt := 92) hx hb dX7_toldOfVoice_15 (by rw [c4]; decide) (by rw [c4]; decide) (by rw [c4]; rfl) (by decide) ?_
      refine lv_aload_n hx hb dX7_toldOfVoice_92 rfl (lv_at hl 0 rfl) ?_
      refine y_get hx hb hts i_X7 hown hK hH qOb_7 rfl 0 (by decide) f10 rfl dX7_toldOfVoice_93 ?_
      refine y_get hx hb hts i_X1 hown hK hH (qMi_ob qMi_1) rfl 12 (by decide) f104 rfl dX7_toldOfVoice_96 ?_
      refine lv_iload_n hx hb dX7_toldOfVoice_99 rfl (lv_at hl 1 rfl) ?_
      refine y_iald hx hb hK hH (qMi_a8 qMi_1) h dX7_toldOfVoice_100 (fun v6 h => ?_)
      exact W.iret hx hb hr (fun t ht _ => ⟨_, rfl, qOk.s h, ht⟩) (fun _ hq => by cases hq) dX7_toldOfVoice_101
    have h := qOk.f c4 h
    by_cases c5 : x2 = 5
    · have h := qOk.t c5 h
      refine lv_tableIn (tgt := 102) hx hb dX7_toldOfVoice_15 (by rw [c5]; decide) (by rw [c5]; decide) (by rw [c5]; rfl) (by decide) ?_
      refine lv_aload_n hx hb dX7_toldOfVoice_102 rfl (lv_at hl 0 rfl) ?_
      refine y_get hx hb hts i_X7 hown hK hH qOb_7 rfl 0 (by decide) f10 rfl dX7_toldOfVoice_103 ?_
      refine lv_iload_n hx hb dX7_toldOfVoice_106 rfl (lv_at hl 1 rfl) ?_
      refine y_cs (va_runV (As := [.int x1]) (rest := []) ⟨hx, hb, hml, hown, hts⟩ (c_X1_noteOrNone l G ad hI M _ qMi_1 x1 (qOk.b1 h)) (cwV 1 hts gX7_toldOfVoice_X1_noteOrNone rfl rfl rfl (by decide +kernel) ⟨Nat.le_of_ble_eq_true rfl, Nat.le_of_ble_eq_true rfl⟩) ⟨qPre.blind, qrecv hK hH (qMi_ob qMi_1) rfl, qPre.at hK hH⟩ rfl rfl hl.1 rfl (lv_room (Nat.le_of_ble_eq_true rfl)) dX7_toldOfVoice_107 ⟨Nat.zero_le _, Nat.zero_le _⟩) (fun v7 h => ?_)
      exact W.iret hx hb hr (fun t ht _ => ⟨_, rfl, qOk.s h, ht⟩) (fun _ hq => by cases hq) dX7_toldOfVoice_110
    have h := qOk.f c5 h
    have n0 := lv_neT c0 (a := 0) rfl
    have n1 := lv_neT c1 (a := 1) rfl
    have n2 := lv_neT c2 (a := 2) rfl
    have n3 := lv_neT c3 (a := 3) rfl
    have n4 := lv_neT c4 (a := 4) rfl
    have n5 := lv_neT c5 (a := 5) rfl
    refine lv_tableOut (tgt := 111) hx hb dX7_toldOfVoice_15 (by omega) (by decide) ?_
    refine lv_bipush (v := (-2)) hx hb dX7_toldOfVoice_111 (by decide) ?_
    exact W.iret hx hb hr (fun t ht _ => ⟨_, rfl, qOk.s h, ht⟩) (fun _ hq => by cases hq) dX7_toldOfVoice_113
  · have h := qOk.t hc h
    refine lv_bipush (v := (-2)) hx hb dX7_toldOfVoice_11 (by decide) ?_
    exact W.iret hx hb hr (fun t ht _ => ⟨_, rfl, qOk.s h, ht⟩) (fun _ hq => by cases hq) dX7_toldOfVoice_13
abbrev rm_X7_toldOfAll : Room := { frames := 4, cells := 0, slots := 0, locals := 90 }
set_option maxHeartbeats 4000000 in
set_option maxRecDepth 100000 in
theorem c_X7_toldOfAll (l : Launch) (G : qG) (ad : Nat → Nat) (hI : qI W1N ad) (M : qM) (sz : Nat) (x1 : Int32) {P : Int32 → qM → Prop} (h : qOk2 (kX7_toldOfAll M x1) P) : Met l yX7_toldOfAll wsX7_toldOfAll rm_X7_toldOfAll (va_Pc [.ref (ad 0), .int x1] (qPre W1N e1 G ad M sz)) (va_Qi P (fun u t => qHp W1N e1 G ad u t.heap) (qA W1N ad sz)) 0 0 (qA W1N ad sz) := by
  refine Met.ofW (cc := cX7_toldOfAll) (maxL := 2) (ret := (some .int)) (by decide) rfl ?_
  intro p e s m args below meth c s₁ B hml hv
  obtain ⟨rfl, hsz, hK, hP⟩ := hv
  subst hsz
  have hx := B.exec
  have hb := B.bytes
  have hr := B.returns
  have hts := atoms_spec (ws := wsX7_toldOfAll) B.pre
  have hown : s.vm.findClass RX7 = some m.cls := findClass_of_methodNamed B.named
  have hlocks := B.notSynchronized
  have hH : qHS W1N e1 G ad M s.heap s.heap [] := ⟨hP, va_S.rf⟩
  have f27 : (Cond.fieldLink RX7 27 "SongLamps" "pad" "LSongLamps$Pad;").before [.ref (ad 0), .int x1].toArray s = true := hts _ (by decide +kernel)
  have i_X7 : ∀ w ∈ wsX70, w ∈ wsX7_toldOfAll := fun w hw => List.mem_cons_of_mem _ ((List.mem_append_left _ (List.mem_append_left _ (List.mem_append_left _ (List.mem_append_right _ hw)))))
  have f119 : (Cond.fieldLink RX7 119 "SongLamps$Pad" "size" "I").before [.ref (ad 0), .int x1].toArray s = true := hts _ (by decide +kernel)
  have i_X2 : ∀ w ∈ wsX20, w ∈ wsX7_toldOfAll := fun w hw => List.mem_cons_of_mem _ ((List.mem_append_left _ (List.mem_append_left _ (List.mem_append_right _ hw))))
  have f10 : (Cond.fieldLink RX7 10 "SongLamps" "now" "LSongLamps$Mine;").before [.ref (ad 0), .int x1].toArray s = true := hts _ (by decide +kernel)
  have f89 : (Cond.fieldLink RX7 89 "SongLamps$Mine" "there" "I").before [.ref (ad 0), .int x1].toArray s = true := hts _ (by decide +kernel)
  have i_X1 : ∀ w ∈ wsX10, w ∈ wsX7_toldOfAll := fun w hw => List.mem_cons_of_mem _ ((List.mem_append_left _ (List.mem_append_right _ hw)))
  have f34 : (Cond.fieldLink RX7 34 "SongLamps" "lamps" "LSongLamps$Lamps;").before [.ref (ad 0), .int x1].toArray s = true := hts _ (by decide +kernel)
  have f164 : (Cond.fieldLink RX7 164 "SongLamps$Lamps" "burning" "I").before [.ref (ad 0), .int x1].toArray s = true := hts _ (by decide +kernel)
  have i_X0 : ∀ w ∈ wsX00, w ∈ wsX7_toldOfAll := fun w hw => List.mem_cons_of_mem _ ((List.mem_append_right _ hw))
  have f167 : (Cond.fieldLink RX7 167 "SongLamps$Mine" "beat" "I").before [.ref (ad 0), .int x1].toArray s = true := hts _ (by decide +kernel)
  have f186 : (Cond.fieldLink RX7 186 "SongLamps$Mine" "closed" "I").before [.ref (ad 0), .int x1].toArray s = true := hts _ (by decide +kernel)
  have f82 : (Cond.fieldLink RX7 82 "SongLamps$Mine" "gas" "I").before [.ref (ad 0), .int x1].toArray s = true := hts _ (by decide +kernel)
  have f220 : (Cond.fieldLink RX7 220 "SongLamps$Mine" "sights" "I").before [.ref (ad 0), .int x1].toArray s = true := hts _ (by decide +kernel)
  have hl := lv_entry ([.ref (ad 0), .int x1]) (n := 2) (Nat.le_of_ble_eq_true rfl)
  rw [lg_entry_eq]
  generalize (lg_sl ([.ref (ad 0), .int x1]) ++ List.replicate (2 - (lg_sl ([.ref (ad 0), .int x1])).length) Slot.unset).toArray = ls at hl ⊢
  have hl : lv_has ls 2 [(0, .ref (ad 0)), (1, .int x1)] := hl
  have h : qOk (kX7_toldOfAll M x1) _ := h
  unfold kX7_toldOfAll at h
  refine lv_iload_n hx hb dX7_toldOfAll_0 rfl (lv_at hl 1 rfl) ?_
  by_cases c0 : x1 = 0
  · have h := qOk.t c0 h
    refine lv_tableIn (tgt := 44) hx hb dX7_toldOfAll_1 (by rw [c0]; decide) (by rw [c0]; decide) (by rw [c0]; rfl) (by decide) ?_
    refine lv_aload_n hx hb dX7_toldOfAll_44 rfl (lv_at hl 0 rfl) ?_
    refine y_get hx hb hts i_X7 hown hK hH qOb_7 rfl 3 (by decide) f27 rfl dX7_toldOfAll_45 ?_
    refine y_get hx hb hts i_X2 hown hK hH qOb_2 rfl 1 (by decide) f119 rfl dX7_toldOfAll_48 ?_
    exact W.iret hx hb hr (fun t ht _ => ⟨⟨_, _, rfl, qOk2.s h, qHpt ht hH.1⟩, hH.2.F ht⟩) hH.2.2.2 dX7_toldOfAll_51
  have h := qOk.f c0 h
  by_cases c1 : x1 = 1
  · have h := qOk.t c1 h
    refine lv_tableIn (tgt := 52) hx hb dX7_toldOfAll_1 (by rw [c1]; decide) (by rw [c1]; decide) (by rw [c1]; rfl) (by decide) ?_
    refine lv_aload_n hx hb dX7_toldOfAll_52 rfl (lv_at hl 0 rfl) ?_
    refine y_get hx hb hts i_X7 hown hK hH qOb_7 rfl 0 (by decide) f10 rfl dX7_toldOfAll_53 ?_
    refine y_get hx hb hts i_X1 hown hK hH (qMi_ob qMi_1) rfl 5 (by decide) f89 rfl dX7_toldOfAll_56 ?_
    exact W.iret hx hb hr (fun t ht _ => ⟨⟨_, _, rfl, qOk2.s h, qHpt ht hH.1⟩, hH.2.F ht⟩) hH.2.2.2 dX7_toldOfAll_59
  have h := qOk.f c1 h
  by_cases c2 : x1 = 2
  · have h := qOk.t c2 h
    refine lv_tableIn (tgt := 60) hx hb dX7_toldOfAll_1 (by rw [c2]; decide) (by rw [c2]; decide) (by rw [c2]; rfl) (by decide) ?_
    refine lv_aload_n hx hb dX7_toldOfAll_60 rfl (lv_at hl 0 rfl) ?_
    refine y_get hx hb hts i_X7 hown hK hH qOb_7 rfl 4 (by decide) f34 rfl dX7_toldOfAll_61 ?_
    refine lv_aload_n hx hb dX7_toldOfAll_64 rfl (lv_at hl 0 rfl) ?_
    refine y_get hx hb hts i_X7 hown hK hH qOb_7 rfl 0 (by decide) f10 rfl dX7_toldOfAll_65 ?_
    refine y_cv hH (va_runV (As := [.ref (ad 1)]) (rest := []) ⟨hx, hb, hml, hown, hts⟩ (c_X0_shineOn l G ad hI M _ qLa_44 qMi_1 (qOk.b1 h)) (cwV 1 hts gX7_toldOfAll_X0_shineOn rfl rfl rfl (by decide +kernel) ⟨Nat.le_of_ble_eq_true rfl, Nat.le_of_ble_eq_true rfl⟩) ⟨qPre.blind, qrecv hK hH (qLa_ob qLa_44) rfl, qPre.at hK hH⟩ rfl rfl hl.1 rfl (lv_room (Nat.le_of_ble_eq_true rfl)) dX7_toldOfAll_68 ⟨Nat.zero_le _, Nat.zero_le _⟩) (fun M1 H locs hH h => ?_)
    refine lv_aload_n hx hb dX7_toldOfAll_71 rfl (lv_at hl 0 rfl) ?_
    refine y_get hx hb hts i_X7 hown hK hH qOb_7 rfl 4 (by decide) f34 rfl dX7_toldOfAll_72 ?_
    refine y_get hx hb hts i_X0 hown hK hH (qLa_ob qLa_44) rfl 2 (by decide) f164 rfl dX7_toldOfAll_75 ?_
    exact W.iret hx hb hr (fun t ht _ => ⟨⟨_, _, rfl, qOk2.s h, qHpt ht hH.1⟩, hH.2.F ht⟩) hH.2.2.2 dX7_toldOfAll_78
  have h := qOk.f c2 h
  by_cases c3 : x1 = 3
  · have h := qOk.t c3 h
    refine lv_tableIn (tgt := 79) hx hb dX7_toldOfAll_1 (by rw [c3]; decide) (by rw [c3]; decide) (by rw [c3]; rfl) (by decide) ?_
    refine lv_aload_n hx hb dX7_toldOfAll_79 rfl (lv_at hl 0 rfl) ?_
    refine y_get hx hb hts i_X7 hown hK hH qOb_7 rfl 0 (by decide) f10 rfl dX7_toldOfAll_80 ?_
    refine y_get hx hb hts i_X1 hown hK hH (qMi_ob qMi_1) rfl 6 (by decide) f167 rfl dX7_toldOfAll_83 ?_
    exact W.iret hx hb hr (fun t ht _ => ⟨⟨_, _, rfl, qOk2.s h, qHpt ht hH.1⟩, hH.2.F ht⟩) hH.2.2.2 dX7_toldOfAll_86
  have h := qOk.f c3 h
  by_cases c4 : x1 = 4
  · have h := qOk.t c4 h
    refine lv_tableIn (tgt := 87) hx hb dX7_toldOfAll_1 (by rw [c4]; decide) (by rw [c4]; decide) (by rw [c4]; rfl) (by decide) ?_
    refine lv_aload_n hx hb dX7_toldOfAll_87 rfl (lv_at hl 0 rfl) ?_
    refine y_get hx hb hts i_X7 hown hK hH qOb_7 rfl 0 (by decide) f10 rfl dX7_toldOfAll_88 ?_
    refine y_get hx hb hts i_X1 hown hK hH (qMi_ob qMi_1) rfl 4 (by decide) f186 rfl dX7_toldOfAll_91 ?_
    exact W.iret hx hb hr (fun t ht _ => ⟨⟨_, _, rfl, qOk2.s h, qHpt ht hH.1⟩, hH.2.F ht⟩) hH.2.2.2 dX7_toldOfAll_94
  have h := qOk.f c4 h
  by_cases c5 : x1 = 5
  · have h := qOk.t c5 h
    refine lv_tableIn (tgt := 95) hx hb dX7_toldOfAll_1 (by rw [c5]; decide) (by rw [c5]; decide) (by rw [c5]; rfl) (by decide) ?_
    refine lv_aload_n hx hb dX7_toldOfAll_95 rfl (lv_at hl 0 rfl) ?_
    refine y_get hx hb hts i_X7 hown hK hH qOb_7 rfl 0 (by decide) f10 rfl dX7_toldOfAll_96 ?_
    refine y_get hx hb hts i_X1 hown hK hH (qMi_ob qMi_1) rfl 3 (by decide) f82 rfl dX7_toldOfAll_99 ?_
    exact W.iret hx hb hr (fun t ht _ => ⟨⟨_, _, rfl, qOk2.s h, qHpt ht hH.1⟩, hH.2.F ht⟩) hH.2.2.2 dX7_toldOfAll_102
  have h := qOk.f c5 h
  by_cases c6 : x1 = 6
  · have h := qOk.t c6 h
    refine lv_tableIn (tgt := 103) hx hb dX7_toldOfAll_1 (by rw [c6]; decide) (by rw [c6]; decide) (by rw [c6]; rfl) (by decide) ?_
    refine lv_aload_n hx hb dX7_toldOfAll_103 rfl (lv_at hl 0 rfl) ?_
    refine y_get hx hb hts i_X7 hown hK hH qOb_7 rfl 0 (by decide) f10 rfl dX7_toldOfAll_104 ?_
    refine y_get hx hb hts i_X1 hown hK hH (qMi_ob qMi_1) rfl 7 (by decide) f220 rfl dX7_toldOfAll_107 ?_
    exact W.iret hx hb hr (fun t ht _ => ⟨⟨_, _, rfl, qOk2.s h, qHpt ht hH.1⟩, hH.2.F ht⟩) hH.2.2.2 dX7_toldOfAll_110
  have h := qOk.f c6 h
  have n0 := lv_neT c0 (a := 0) rfl
  have n1 := lv_neT c1 (a := 1) rfl
  have n2 := lv_neT c2 (a := 2) rfl
  have n3 := lv_neT c3 (a := 3) rfl
  have n4 := lv_neT c4 (a := 4) rfl
  have n5 := lv_neT c5 (a := 5) rfl
  have n6 := lv_neT c6 (a := 6) rfl
  refine lv_tableOut (tgt := 111) hx hb dX7_toldOfAll_1 (by omega) (by decide) ?_
  refine lv_bipush (v := (-2)) hx hb dX7_toldOfAll_111 (by decide) ?_
  exact W.iret hx hb hr (fun t ht _ => ⟨⟨_, _, rfl, qOk2.s h, qHpt ht hH.1⟩, hH.2.F ht⟩) hH.2.2.2 dX7_toldOfAll_113
abbrev rm_X7_told : Room := { frames := 5, cells := 0, slots := 0, locals := 111 }
set_option maxHeartbeats 4000000 in
set_option maxRecDepth 100000 in
theorem c_X7_told (l : Launch) (G : qG) (ad : Nat → Nat) (hI : qI W1N ad) (M : qM) (sz : Nat) (x1 : Int32) {P : Int32 → qM → Prop} (h : qOk2 (kX7_told M x1) P) : Met l yX7_told wsX7_told rm_X7_told (va_Pc [.ref (ad 0), .int x1] (qPre W1N e1 G ad M sz)) (va_Qi P (fun u t => qHp W1N e1 G ad u t.heap) (qA W1N ad sz)) 0 0 (qA W1N ad sz) := by
  refine Met.ofW (cc := cX7_told) (maxL := 2) (ret := (some .int)) (by decide) rfl ?_
  intro p e s m args below meth c s₁ B hml hv
  obtain ⟨rfl, hsz, hK, hP⟩ := hv
  subst hsz
  have hx := B.exec
  have hb := B.bytes
  have hr := B.returns
  have hts := atoms_spec (ws := wsX7_told) B.pre
  have hown : s.vm.findClass RX7 = some m.cls := findClass_of_methodNamed B.named
  have hlocks := B.notSynchronized
  have hH : qHS W1N e1 G ad M s.heap s.heap [] := ⟨hP, va_S.rf⟩
  have hl := lv_entry ([.ref (ad 0), .int x1]) (n := 2) (Nat.le_of_ble_eq_true rfl)
  rw [lg_entry_eq]
  generalize (lg_sl ([.ref (ad 0), .int x1]) ++ List.replicate (2 - (lg_sl ([.ref (ad 0), .int x1])).length) Slot.unset).toArray = ls at hl ⊢
  have hl : lv_has ls 2 [(0, .ref (ad 0)), (1, .int x1)] := hl
  have h : qOk (kX7_told M x1) _ := h
  unfold kX7_told at h
  refine lv_iload_n hx hb dX7_told_0 rfl (lv_at hl 1 rfl) ?_
  refine lv_if_lt (tgt := 11) hx hb dX7_told_1 (by decide) (fun hc => ?_) (fun hc => ?_)
  · have h := qOk.t hc h
    refine lv_bipush (v := (-2)) hx hb dX7_told_11 (by decide) ?_
    exact W.iret hx hb hr (fun t ht _ => ⟨⟨_, _, rfl, qOk2.s h, qHpt ht hH.1⟩, hH.2.F ht⟩) hH.2.2.2 dX7_told_13
  · have h := qOk.f hc h
    refine lv_iload_n hx hb dX7_told_4 rfl (lv_at hl 1 rfl) ?_
    refine lv_sipush (v := 200) hx hb dX7_told_5 (by decide) ?_
    refine lv_icmp_lt (tgt := 14) hx hb dX7_told_8 (by decide) (fun hc => ?_) (fun hc => ?_)
    · have h := qOk.t hc h
      refine lv_iload_n hx hb dX7_told_14 rfl (lv_at hl 1 rfl) ?_
      refine lv_bipush (v := 100) hx hb dX7_told_15 (by decide) ?_
      refine lv_icmp_lt (tgt := 36) hx hb dX7_told_17 (by decide) (fun hc => ?_) (fun hc => ?_)
      · have h := qOk.t hc h
        refine lv_iload_n hx hb dX7_told_36 rfl (lv_at hl 1 rfl) ?_
        refine lv_bipush (v := 10) hx hb dX7_told_37 (by decide) ?_
        refine lv_icmp_lt (tgt := 57) hx hb dX7_told_39 (by decide) (fun hc => ?_) (fun hc => ?_)
        · have h := qOk.t hc h
          refine lv_aload_n hx hb dX7_told_57 rfl (lv_at hl 0 rfl) ?_
          refine lv_iload_n hx hb dX7_told_58 rfl (lv_at hl 1 rfl) ?_
          refine y_ci hH (va_runV (As := [.int x1]) (rest := []) ⟨hx, hb, hml, hown, hts⟩ (c_X7_toldOfAll l G ad hI M _ x1 (qOk.b2 h)) (cwV 1 hts gX7_told_X7_toldOfAll rfl rfl rfl (by decide +kernel) ⟨Nat.le_of_ble_eq_true rfl, Nat.le_of_ble_eq_true rfl⟩) ⟨qPre.blind, qrecv hK hH qOb_7 rfl, qPre.at hK hH⟩ rfl rfl hl.1 rfl (lv_room (Nat.le_of_ble_eq_true rfl)) dX7_told_59 ⟨Nat.zero_le _, Nat.zero_le _⟩) (fun v2 M1 H locs hH h => ?_)
          exact W.iret hx hb hr (fun t ht _ => ⟨⟨_, _, rfl, qOk2.s h, qHpt ht hH.1⟩, hH.2.F ht⟩) hH.2.2.2 dX7_told_62
        · have h := qOk.f hc h
          refine lv_aload_n hx hb dX7_told_42 rfl (lv_at hl 0 rfl) ?_
          refine lv_iload_n hx hb dX7_told_43 rfl (lv_at hl 1 rfl) ?_
          refine lv_bipush (v := 10) hx hb dX7_told_44 (by decide) ?_
          refine lv_idiv hx hb dX7_told_46 (by decide) ?_
          refine lv_iconst (v := 1) hx hb dX7_told_47 (by decide) ?_
          refine lv_isub hx hb dX7_told_48 ?_
          refine lv_iload_n hx hb dX7_told_49 rfl (lv_at hl 1 rfl) ?_
          refine lv_bipush (v := 10) hx hb dX7_told_50 (by decide) ?_
          refine lv_irem hx hb dX7_told_52 (by decide) ?_
          refine y_cs (va_runV (As := [.int ((x1 / 10) - 1), .int (x1 - x1 / 10 * 10)]) (rest := []) ⟨hx, hb, hml, hown, hts⟩ (c_X7_toldOfVoice l G ad hI M _ ((x1 / 10) - 1) (x1 - x1 / 10 * 10) (qOk.b1 h)) (cwV 2 hts gX7_told_X7_toldOfVoice rfl rfl rfl (by decide +kernel) ⟨Nat.le_of_ble_eq_true rfl, Nat.le_of_ble_eq_true rfl⟩) ⟨qPre.blind, qrecv hK hH qOb_7 rfl, qPre.at hK hH⟩ rfl rfl hl.1 rfl (lv_room (Nat.le_of_ble_eq_true rfl)) dX7_told_53 ⟨Nat.zero_le _, Nat.zero_le _⟩) (fun v3 h => ?_)
          exact W.iret hx hb hr (fun t ht _ => ⟨⟨_, _, rfl, qOk2.s h, qHpt ht hH.1⟩, hH.2.F ht⟩) hH.2.2.2 dX7_told_56
      · have h := qOk.f hc h
        refine lv_aload_n hx hb dX7_told_20 rfl (lv_at hl 0 rfl) ?_
        refine lv_iload_n hx hb dX7_told_21 rfl (lv_at hl 1 rfl) ?_
        refine lv_bipush (v := 100) hx hb dX7_told_22 (by decide) ?_
        refine lv_isub hx hb dX7_told_24 ?_
        refine lv_bipush (v := 10) hx hb dX7_told_25 (by decide) ?_
        refine lv_idiv hx hb dX7_told_27 (by decide) ?_
        refine lv_iload_n hx hb dX7_told_28 rfl (lv_at hl 1 rfl) ?_
        refine lv_bipush (v := 10) hx hb dX7_told_29 (by decide) ?_
        refine lv_irem hx hb dX7_told_31 (by decide) ?_
        refine y_cs (va_runV (As := [.int ((x1 - 100) / 10), .int (x1 - x1 / 10 * 10)]) (rest := []) ⟨hx, hb, hml, hown, hts⟩ (c_X7_toldOfGallery l G ad hI M _ ((x1 - 100) / 10) (x1 - x1 / 10 * 10) (qOk.b1 h)) (cwV 2 hts gX7_told_X7_toldOfGallery rfl rfl rfl (by decide +kernel) ⟨Nat.le_of_ble_eq_true rfl, Nat.le_of_ble_eq_true rfl⟩) ⟨qPre.blind, qrecv hK hH qOb_7 rfl, qPre.at hK hH⟩ rfl rfl hl.1 rfl (lv_room (Nat.le_of_ble_eq_true rfl)) dX7_told_32 ⟨Nat.zero_le _, Nat.zero_le _⟩) (fun v4 h => ?_)
        exact W.iret hx hb hr (fun t ht _ => ⟨⟨_, _, rfl, qOk2.s h, qHpt ht hH.1⟩, hH.2.F ht⟩) hH.2.2.2 dX7_told_35
    · have h := qOk.f hc h
      refine lv_bipush (v := (-2)) hx hb dX7_told_11 (by decide) ?_
      exact W.iret hx hb hr (fun t ht _ => ⟨⟨_, _, rfl, qOk2.s h, qHpt ht hH.1⟩, hH.2.F ht⟩) hH.2.2.2 dX7_told_13
abbrev rm_X8_in : Room := { frames := 0, cells := 0, slots := 0, locals := 0 }
set_option maxHeartbeats 4000000 in
set_option maxRecDepth 100000 in
theorem c_X8_in (l : Launch) (x0 : Int32) (x1 : Int32) (x2 : Int32) {P : Int32 → Prop} (h : qOk (kX8_in x0 x1 x2) P) : Met l yX8_in wsX8_in rm_X8_in (va_Pc [.int x0, .int x1, .int x2] (fun _ => True)) (vp_Si P) 0 0 (fun _ => False) := by
  refine Met.ofW (cc := cX8_in) (maxL := 3) (ret := (some .boolean)) (by decide) rfl ?_
  intro p e s m args below meth c s₁ B hml hv
  obtain ⟨rfl, -⟩ := hv
  have hx := B.exec
  have hb := B.bytes
  have hr := B.returns
  have hts := atoms_spec (ws := wsX8_in) B.pre
  have hown : s.vm.findClass RX8 = some m.cls := findClass_of_methodNamed B.named
  have hlocks := B.notSynchronized
  have hl := lv_entry ([.int x0, .int x1, .int x2]) (n := 3) (Nat.le_of_ble_eq_true rfl)
  rw [lg_entry_eq]
  generalize (lg_sl ([.int x0, .int x1, .int x2]) ++ List.replicate (3 - (lg_sl ([.int x0, .int x1, .int x2])).length) Slot.unset).toArray = ls at hl ⊢
  have hl : lv_has ls 3 [(0, .int x0), (1, .int x1), (2, .int x2)] := hl
  have h : qOk (kX8_in x0 x1 x2) _ := h
  unfold kX8_in at h
  refine lv_iload_n hx hb dX8_in_0 rfl (lv_at hl 0 rfl) ?_
  refine lv_iload_n hx hb dX8_in_1 rfl (lv_at hl 1 rfl) ?_
  refine qj1 (G := fun (v1 : Int32) => W p l e (headSpec wsX8_in rm_X8_in).room s m [.int x0, .int x1, .int x2].toArray below meth c s.heap [] 0 0 (MQ below (vp_Si P) [.int x0, .int x1, .int x2].toArray s 0 0 (fun _ => False)) (F0 m 15 ls [.int v1])) h ?_ ?_
  rotate_left
  · intro h
    refine lv_icmp_lt (tgt := 14) hx hb dX8_in_2 (by decide) (fun hc => ?_) (fun hc => ?_)
    · have h := qOk.t hc h
      refine lv_iconst (v := 0) hx hb dX8_in_14 (by decide) ?_
      have h := qOk.s h
      exact h
    · have h := qOk.f hc h
      refine lv_iload_n hx hb dX8_in_5 rfl (lv_at hl 0 rfl) ?_
      refine lv_iload_n hx hb dX8_in_6 rfl (lv_at hl 2 rfl) ?_
      refine lv_icmp_gt (tgt := 14) hx hb dX8_in_7 (by decide) (fun hc => ?_) (fun hc => ?_)
      · have h := qOk.t hc h
        refine lv_iconst (v := 0) hx hb dX8_in_14 (by decide) ?_
        have h := qOk.s h
        exact h
      · have h := qOk.f hc h
        refine lv_iconst (v := 1) hx hb dX8_in_10 (by decide) ?_
        refine lv_goto (tgt := 15) hx hb dX8_in_11 (by decide) ?_
        have h := qOk.s h
        exact h
  intro v1 h
  obtain ⟨hbn, h⟩ := qOk.bl h
  exact W.zret hx hb hr (qnarb hbn) (fun t ht _ => ⟨_, rfl, qOk.s h, ht⟩) (fun _ hq => by cases hq) dX8_in_15
abbrev rm_X8_has : Room := { frames := 0, cells := 0, slots := 0, locals := 0 }
set_option maxHeartbeats 4000000 in
set_option maxRecDepth 100000 in
theorem c_X8_has (l : Launch) (x0 : Int32) (x1 : Int32) {P : Int32 → Prop} (h : qOk (kX8_has x0 x1) P) : Met l yX8_has wsX8_has rm_X8_has (va_Pc [.int x0, .int x1] (fun _ => True)) (vp_Si P) 0 0 (fun _ => False) := by
  refine Met.ofW (cc := cX8_has) (maxL := 2) (ret := (some .boolean)) (by decide) rfl ?_
  intro p e s m args below meth c s₁ B hml hv
  obtain ⟨rfl, -⟩ := hv
  have hx := B.exec
  have hb := B.bytes
  have hr := B.returns
  have hts := atoms_spec (ws := wsX8_has) B.pre
  have hown : s.vm.findClass RX8 = some m.cls := findClass_of_methodNamed B.named
  have hlocks := B.notSynchronized
  have hl := lv_entry ([.int x0, .int x1]) (n := 2) (Nat.le_of_ble_eq_true rfl)
  rw [lg_entry_eq]
  generalize (lg_sl ([.int x0, .int x1]) ++ List.replicate (2 - (lg_sl ([.int x0, .int x1])).length) Slot.unset).toArray = ls at hl ⊢
  have hl : lv_has ls 2 [(0, .int x0), (1, .int x1)] := hl
  have h : qOk (kX8_has x0 x1) _ := h
  unfold kX8_has at h
  refine lv_iload_n hx hb dX8_has_0 rfl (lv_at hl 0 rfl) ?_
  refine lv_iload_n hx hb dX8_has_1 rfl (lv_at hl 1 rfl) ?_
  refine lv_ishr hx hb dX8_has_2 ?_
  refine lv_iconst (v := 1) hx hb dX8_has_3 (by decide) ?_
  refine lv_iand hx hb dX8_has_4 ?_
  refine lv_iconst (v := 1) hx hb dX8_has_5 (by decide) ?_
  refine qj1 (G := fun (v1 : Int32) => W p l e (headSpec wsX8_has rm_X8_has).room s m [.int x0, .int x1].toArray below meth c s.heap [] 0 0 (MQ below (vp_Si P) [.int x0, .int x1].toArray s 0 0 (fun _ => False)) (F0 m 14 ls [.int v1])) h ?_ ?_
  rotate_left
  · intro h
    refine lv_icmp_ne (tgt := 13) hx hb dX8_has_6 (by decide) (fun hc => ?_) (fun hc => ?_)
    · have h := qOk.f hc h
      refine lv_iconst (v := 0) hx hb dX8_has_13 (by decide) ?_
      have h := qOk.s h
      exact h
    · have h := qOk.t hc h
      refine lv_iconst (v := 1) hx hb dX8_has_9 (by decide) ?_
      refine lv_goto (tgt := 14) hx hb dX8_has_10 (by decide) ?_
      have h := qOk.s h
      exact h
  intro v1 h
  obtain ⟨hbn, h⟩ := qOk.bl h
  exact W.zret hx hb hr (qnarb hbn) (fun t ht _ => ⟨_, rfl, qOk.s h, ht⟩) (fun _ hq => by cases hq) dX8_has_14
abbrev rm_X8_bits : Room := { frames := 0, cells := 0, slots := 0, locals := 0 }
set_option maxHeartbeats 4000000 in
set_option maxRecDepth 100000 in
theorem c_X8_bits (l : Launch) (x0 : Int32) {P : Int32 → Prop} (h : qOk (kX8_bits x0) P) : Met l yX8_bits wsX8_bits rm_X8_bits (va_Pc [.int x0] (fun _ => True)) (vp_Si P) 0 0 (fun _ => False) := by
  refine Met.ofW (cc := cX8_bits) (maxL := 3) (ret := (some .int)) (by decide) rfl ?_
  intro p e s m args below meth c s₁ B hml hv
  obtain ⟨rfl, -⟩ := hv
  have hx := B.exec
  have hb := B.bytes
  have hr := B.returns
  have hts := atoms_spec (ws := wsX8_bits) B.pre
  have hown : s.vm.findClass RX8 = some m.cls := findClass_of_methodNamed B.named
  have hlocks := B.notSynchronized
  have hl := lv_entry ([.int x0]) (n := 3) (Nat.le_of_ble_eq_true rfl)
  rw [lg_entry_eq]
  generalize (lg_sl ([.int x0]) ++ List.replicate (3 - (lg_sl ([.int x0])).length) Slot.unset).toArray = ls at hl ⊢
  have hl : lv_has ls 3 [(0, .int x0)] := hl
  have h : qOk (kX8_bits x0) _ := h
  unfold kX8_bits at h
  refine lv_iconst (v := 0) hx hb dX8_bits_0 (by decide) ?_
  refine lv_istore_n (lv' := [(1, .int 0), (0, .int x0)]) hx hb dX8_bits_1 rfl hl (by decide) rfl (fun ls hl => ?_)
  refine lv_iconst (v := 0) hx hb dX8_bits_2 (by decide) ?_
  refine lv_istore_n (lv' := [(2, .int 0), (1, .int 0), (0, .int x0)]) hx hb dX8_bits_3 rfl hl (by decide) rfl (fun ls hl => ?_)
  refine qj1 (G := fun (v3 : Int32) => ∀ ls : Array Slot, lv_has ls 3 [(1, .int v3)] → W p l e (headSpec wsX8_bits rm_X8_bits).room s m [.int x0].toArray below meth c s.heap [] 0 0 (MQ below (vp_Si P) [.int x0].toArray s 0 0 (fun _ => False)) (F0 m 24 ls [])) h ?_ ?_
  rotate_left
  · intro h
    refine qloop2 (I := fun (v1 : Int32) (v2 : Int32) => ∀ ls : Array Slot, lv_has ls 3 [(0, .int x0), (1, .int v1), (2, .int v2)] → W p l e (headSpec wsX8_bits rm_X8_bits).room s m [.int x0].toArray below meth c s.heap [] 0 0 (MQ below (vp_Si P) [.int x0].toArray s 0 0 (fun _ => False)) (F0 m 4 ls [])) ?_ h _ (lv_sub hl [2, 1, 0] rfl)
    intro v1 v2 h ls hl
    have h : qOk (kX8_bits_L4 x0 v1 v2) _ := h
    unfold kX8_bits_L4 at h
    refine lv_iload_n hx hb dX8_bits_4 rfl (lv_at hl 2 rfl) ?_
    refine lv_bipush (v := 10) hx hb dX8_bits_5 (by decide) ?_
    refine lv_icmp_ge (tgt := 24) hx hb dX8_bits_7 (by decide) (fun hc => ?_) (fun hc => ?_)
    · have h := qOk.t hc h
      exact qOk.le h _ (lv_sub hl [1] rfl)
    · have h := qOk.f hc h
      refine lv_iload_n hx hb dX8_bits_10 rfl (lv_at hl 1 rfl) ?_
      refine lv_iload_n hx hb dX8_bits_11 rfl (lv_at hl 0 rfl) ?_
      refine lv_iload_n hx hb dX8_bits_12 rfl (lv_at hl 2 rfl) ?_
      refine lv_ishr hx hb dX8_bits_13 ?_
      refine lv_iconst (v := 1) hx hb dX8_bits_14 (by decide) ?_
      refine lv_iand hx hb dX8_bits_15 ?_
      refine lv_iadd hx hb dX8_bits_16 ?_
      refine lv_topi (fun v4 ev4 => ?_)
      have h := qOk.v h ev4
      refine lv_istore_n (lv' := [(1, .int v4), (0, .int x0), (2, .int v2)]) hx hb dX8_bits_17 rfl hl (by decide) rfl (fun ls hl => ?_)
      obtain ⟨v5, ev5⟩ : ∃ y : Int32, y = v2 + 1 := ⟨_, rfl⟩
      have h := qOk.v h ev5
      refine lv_iinc (v := v5) (lv' := [(2, .int v5), (1, .int v4), (0, .int x0)]) hx hb dX8_bits_18 hl (k := 2) rfl (by rw [ev5]; rfl) (by decide) rfl (fun ls hl => ?_)
      refine lv_goto (tgt := 4) hx hb dX8_bits_21 (by decide) ?_
      exact qOk.li h _ (lv_sub hl [2, 1, 0] rfl)
  intro v3 h ls hl
  refine lv_iload_n hx hb dX8_bits_24 rfl (lv_at hl 0 rfl) ?_
  exact W.iret hx hb hr (fun t ht _ => ⟨_, rfl, qOk.s h, ht⟩) (fun _ hq => by cases hq) dX8_bits_25
abbrev rm_X8_isGallery : Room := { frames := 1, cells := 0, slots := 0, locals := 22 }
set_option maxHeartbeats 4000000 in
set_option maxRecDepth 100000 in
theorem c_X8_isGallery (l : Launch) (x0 : Int32) {P : Int32 → Prop} (h : qOk (kX8_isGallery x0) P) : Met l yX8_isGallery wsX8_isGallery rm_X8_isGallery (va_Pc [.int x0] (fun _ => True)) (vp_Si P) 0 0 (fun _ => False) := by
  refine Met.ofW (cc := cX8_isGallery) (maxL := 1) (ret := (some .boolean)) (by decide) rfl ?_
  intro p e s m args below meth c s₁ B hml hv
  obtain ⟨rfl, -⟩ := hv
  have hx := B.exec
  have hb := B.bytes
  have hr := B.returns
  have hts := atoms_spec (ws := wsX8_isGallery) B.pre
  have hown : s.vm.findClass RX8 = some m.cls := findClass_of_methodNamed B.named
  have hlocks := B.notSynchronized
  have hl := lv_entry ([.int x0]) (n := 1) (Nat.le_of_ble_eq_true rfl)
  rw [lg_entry_eq]
  generalize (lg_sl ([.int x0]) ++ List.replicate (1 - (lg_sl ([.int x0])).length) Slot.unset).toArray = ls at hl ⊢
  have hl : lv_has ls 1 [(0, .int x0)] := hl
  have h : qOk (kX8_isGallery x0) _ := h
  unfold kX8_isGallery at h
  refine lv_iload_n hx hb dX8_isGallery_0 rfl (lv_at hl 0 rfl) ?_
  refine lv_iconst (v := 0) hx hb dX8_isGallery_1 (by decide) ?_
  refine lv_bipush (v := 9) hx hb dX8_isGallery_2 (by decide) ?_
  refine y_cs (va_runS (As := [.int x0, .int 0, .int 9]) (rest := []) ⟨hx, hb, hml, hown, hts⟩ (c_X8_in l x0 0 9 (qOk.b1 h)) (va_cwS 3 hts gX8_isGallery_X8_in rfl rfl rfl (by decide +kernel) ⟨Nat.le_of_ble_eq_true rfl, Nat.le_of_ble_eq_true rfl⟩) ⟨qPrT.blind, qPrT.at⟩ rfl rfl hl.1 rfl (lv_room (Nat.le_of_ble_eq_true rfl)) dX8_isGallery_4 ⟨Nat.zero_le _, Nat.zero_le _⟩) (fun v1 h => ?_)
  obtain ⟨hbn, h⟩ := qOk.bl h
  exact W.zret hx hb hr (qnarb hbn) (fun t ht _ => ⟨_, rfl, qOk.s h, ht⟩) (fun _ hq => by cases hq) dX8_isGallery_7
abbrev rm_X8_isThere : Room := { frames := 1, cells := 0, slots := 0, locals := 22 }
set_option maxHeartbeats 4000000 in
set_option maxRecDepth 100000 in
theorem c_X8_isThere (l : Launch) (G : qG) (ad : Nat → Nat) (hI : qI W2N ad) (M : qM) (sz : Nat) (x1 : Int32) {P : Int32 → Prop} (h : qOk (kX8_isThere M x1) P) : Met l yX8_isThere wsX8_isThere rm_X8_isThere (va_Pc [.ref (ad 0), .int x1] (qPre W2N e2 G ad M sz)) (vp_Si P) 0 0 (fun _ => False) := by
  refine Met.ofW (cc := cX8_isThere) (maxL := 2) (ret := (some .boolean)) (by decide) rfl ?_
  intro p e s m args below meth c s₁ B hml hv
  obtain ⟨rfl, hsz, hK, hP⟩ := hv
  subst hsz
  have hx := B.exec
  have hb := B.bytes
  have hr := B.returns
  have hts := atoms_spec (ws := wsX8_isThere) B.pre
  have hown : s.vm.findClass RX8 = some m.cls := findClass_of_methodNamed B.named
  have hlocks := B.notSynchronized
  have hH : qHS W2N e2 G ad M s.heap s.heap [] := ⟨hP, va_S.rf⟩
  have f63 : (Cond.fieldLink RX8 63 "SongLampsModel" "there" "I").before [.ref (ad 0), .int x1].toArray s = true := hts _ (by decide +kernel)
  have i_X8 : ∀ w ∈ wsX80, w ∈ wsX8_isThere := fun w hw => List.mem_cons_of_mem _ ((List.mem_append_right _ hw))
  have hl := lv_entry ([.ref (ad 0), .int x1]) (n := 2) (Nat.le_of_ble_eq_true rfl)
  rw [lg_entry_eq]
  generalize (lg_sl ([.ref (ad 0), .int x1]) ++ List.replicate (2 - (lg_sl ([.ref (ad 0), .int x1])).length) Slot.unset).toArray = ls at hl ⊢
  have hl : lv_has ls 2 [(0, .ref (ad 0)), (1, .int x1)] := hl
  have h : qOk (kX8_isThere M x1) _ := h
  unfold kX8_isThere at h
  refine lv_iload_n hx hb dX8_isThere_0 rfl (lv_at hl 1 rfl) ?_
  refine lv_iconst (v := 0) hx hb dX8_isThere_1 (by decide) ?_
  refine lv_bipush (v := 7) hx hb dX8_isThere_2 (by decide) ?_
  refine y_cs (va_runS (As := [.int x1, .int 0, .int 7]) (rest := []) ⟨hx, hb, hml, hown, hts⟩ (c_X8_in l x1 0 7 (qOk.b1 h)) (va_cwS 3 hts gX8_isThere_X8_in rfl rfl rfl (by decide +kernel) ⟨Nat.le_of_ble_eq_true rfl, Nat.le_of_ble_eq_true rfl⟩) ⟨qPrT.blind, qPrT.at⟩ rfl rfl hl.1 rfl (lv_room (Nat.le_of_ble_eq_true rfl)) dX8_isThere_4 ⟨Nat.zero_le _, Nat.zero_le _⟩) (fun v1 h => ?_)
  refine qj1 (G := fun (v2 : Int32) => W p l e (headSpec wsX8_isThere rm_X8_isThere).room s m [.ref (ad 0), .int x1].toArray below meth c s.heap [] 0 0 (MQ below (vp_Si P) [.ref (ad 0), .int x1].toArray s 0 0 (fun _ => False)) (F0 m 26 ls [.int v2])) h ?_ ?_
  rotate_left
  · intro h
    refine lv_if_eq (tgt := 25) hx hb dX8_isThere_7 (by decide) (fun hc => ?_) (fun hc => ?_)
    · have h := qOk.t hc h
      refine lv_iconst (v := 0) hx hb dX8_isThere_25 (by decide) ?_
      have h := qOk.s h
      exact h
    · have h := qOk.f hc h
      refine lv_aload_n hx hb dX8_isThere_10 rfl (lv_at hl 0 rfl) ?_
      refine y_get hx hb hts i_X8 hown hK hH qOb_8 rfl 2 (by decide) f63 rfl dX8_isThere_11 ?_
      refine lv_iload_n hx hb dX8_isThere_14 rfl (lv_at hl 1 rfl) ?_
      refine y_cs (va_runS (As := [.int (M 0 2), .int x1]) (rest := []) ⟨hx, hb, hml, hown, hts⟩ (c_X8_has l (M 0 2) x1 (qOk.b1 h)) (va_cwS 2 hts gX8_isThere_X8_has rfl rfl rfl (by decide +kernel) ⟨Nat.le_of_ble_eq_true rfl, Nat.le_of_ble_eq_true rfl⟩) ⟨qPrT.blind, qPrT.at⟩ rfl rfl hl.1 rfl (lv_room (Nat.le_of_ble_eq_true rfl)) dX8_isThere_15 ⟨Nat.zero_le _, Nat.zero_le _⟩) (fun v3 h => ?_)
      refine lv_if_eq (tgt := 25) hx hb dX8_isThere_18 (by decide) (fun hc => ?_) (fun hc => ?_)
      · have h := qOk.t hc h
        refine lv_iconst (v := 0) hx hb dX8_isThere_25 (by decide) ?_
        have h := qOk.s h
        exact h
      · have h := qOk.f hc h
        refine lv_iconst (v := 1) hx hb dX8_isThere_21 (by decide) ?_
        refine lv_goto (tgt := 26) hx hb dX8_isThere_22 (by decide) ?_
        have h := qOk.s h
        exact h
  intro v2 h
  obtain ⟨hbn, h⟩ := qOk.bl h
  exact W.zret hx hb hr (qnarb hbn) (fun t ht _ => ⟨_, rfl, qOk.s h, ht⟩) (fun _ hq => by cases hq) dX8_isThere_26
abbrev rm_X8_passage : Room := { frames := 2, cells := 0, slots := 0, locals := 42 }
set_option maxHeartbeats 4000000 in
set_option maxRecDepth 100000 in
theorem c_X8_passage (l : Launch) (G : qG) (ad : Nat → Nat) (hI : qI W2N ad) (M : qM) (sz : Nat) (x1 : Int32) (x2 : Int32) (x3 : Int32) {P : Int32 → qM → Prop} (h : qOk2 (kX8_passage M x1 x2 x3) P) : Met l yX8_passage wsX8_passage rm_X8_passage (va_Pc [.ref (ad 0), .int x1, .int x2, .int x3] (qPre W2N e2 G ad M sz)) (va_Qi P (fun u t => qHp W2N e2 G ad u t.heap) (qA W2N ad sz)) 0 0 (qA W2N ad sz) := by
  refine Met.ofW (cc := cX8_passage) (maxL := 6) (ret := (some .int)) (by decide) rfl ?_
  intro p e s m args below meth c s₁ B hml hv
  obtain ⟨rfl, hsz, hK, hP⟩ := hv
  subst hsz
  have hx := B.exec
  have hb := B.bytes
  have hr := B.returns
  have hts := atoms_spec (ws := wsX8_passage) B.pre
  have hown : s.vm.findClass RX8 = some m.cls := findClass_of_methodNamed B.named
  have hlocks := B.notSynchronized
  have hH : qHS W2N e2 G ad M s.heap s.heap [] := ⟨hP, va_S.rf⟩
  have f25 : (Cond.fieldLink RX8 25 "SongLampsModel" "passages" "[I").before [.ref (ad 0), .int x1, .int x2, .int x3].toArray s = true := hts _ (by decide +kernel)
  have i_X8 : ∀ w ∈ wsX80, w ∈ wsX8_passage := fun w hw => List.mem_cons_of_mem _ ((List.mem_append_right _ hw))
  have hl := lv_entry ([.ref (ad 0), .int x1, .int x2, .int x3]) (n := 6) (Nat.le_of_ble_eq_true rfl)
  rw [lg_entry_eq]
  generalize (lg_sl ([.ref (ad 0), .int x1, .int x2, .int x3]) ++ List.replicate (6 - (lg_sl ([.ref (ad 0), .int x1, .int x2, .int x3])).length) Slot.unset).toArray = ls at hl ⊢
  have hl : lv_has ls 6 [(0, .ref (ad 0)), (1, .int x1), (2, .int x2), (3, .int x3)] := hl
  have h : qOk (kX8_passage M x1 x2 x3) _ := h
  unfold kX8_passage at h
  refine lv_iload_n hx hb dX8_passage_0 rfl (lv_at hl 1 rfl) ?_
  refine y_cs (va_runS (As := [.int x1]) (rest := []) ⟨hx, hb, hml, hown, hts⟩ (c_X8_isGallery l x1 (qOk.b1 h)) (va_cwS 1 hts gX8_passage_X8_isGallery rfl rfl rfl (by decide +kernel) ⟨Nat.le_of_ble_eq_true rfl, Nat.le_of_ble_eq_true rfl⟩) ⟨qPrT.blind, qPrT.at⟩ rfl rfl hl.1 rfl (lv_room (Nat.le_of_ble_eq_true rfl)) dX8_passage_1 ⟨Nat.zero_le _, Nat.zero_le _⟩) (fun v1 h => ?_)
  refine lv_if_eq (tgt := 19) hx hb dX8_passage_4 (by decide) (fun hc => ?_) (fun hc => ?_)
  · have h := qOk.t hc h
    refine lv_iconst (v := (-1)) hx hb dX8_passage_19 (by decide) ?_
    exact W.iret hx hb hr (fun t ht _ => ⟨⟨_, _, rfl, qOk2.s h, qHpt ht hH.1⟩, hH.2.F ht⟩) hH.2.2.2 dX8_passage_20
  · have h := qOk.f hc h
    refine lv_iload_n hx hb dX8_passage_7 rfl (lv_at hl 2 rfl) ?_
    refine y_cs (va_runS (As := [.int x2]) (rest := []) ⟨hx, hb, hml, hown, hts⟩ (c_X8_isGallery l x2 (qOk.b1 h)) (va_cwS 1 hts gX8_passage_X8_isGallery rfl rfl rfl (by decide +kernel) ⟨Nat.le_of_ble_eq_true rfl, Nat.le_of_ble_eq_true rfl⟩) ⟨qPrT.blind, qPrT.at⟩ rfl rfl hl.1 rfl (lv_room (Nat.le_of_ble_eq_true rfl)) dX8_passage_8 ⟨Nat.zero_le _, Nat.zero_le _⟩) (fun v2 h => ?_)
    refine lv_if_eq (tgt := 19) hx hb dX8_passage_11 (by decide) (fun hc => ?_) (fun hc => ?_)
    · have h := qOk.t hc h
      refine lv_iconst (v := (-1)) hx hb dX8_passage_19 (by decide) ?_
      exact W.iret hx hb hr (fun t ht _ => ⟨⟨_, _, rfl, qOk2.s h, qHpt ht hH.1⟩, hH.2.F ht⟩) hH.2.2.2 dX8_passage_20
    · have h := qOk.f hc h
      refine lv_iload_n hx hb dX8_passage_14 rfl (lv_at hl 1 rfl) ?_
      refine lv_iload_n hx hb dX8_passage_15 rfl (lv_at hl 2 rfl) ?_
      refine lv_icmp_ne (tgt := 21) hx hb dX8_passage_16 (by decide) (fun hc => ?_) (fun hc => ?_)
      · have h := qOk.f hc h
        refine lv_aload_n hx hb dX8_passage_21 rfl (lv_at hl 0 rfl) ?_
        refine y_get hx hb hts i_X8 hown hK hH qOb_8 rfl 6 (by decide) f25 rfl dX8_passage_22 ?_
        refine lv_iload_n hx hb dX8_passage_25 rfl (lv_at hl 1 rfl) ?_
        refine lv_dup2_11 hx hb dX8_passage_26 rfl rfl ?_
        refine y_iald hx hb hK hH qMr_6 h dX8_passage_27 (fun v3 h => ?_)
        refine lv_iconst (v := 1) hx hb dX8_passage_28 (by decide) ?_
        refine lv_iload_n hx hb dX8_passage_29 rfl (lv_at hl 2 rfl) ?_
        refine lv_ishl hx hb dX8_passage_30 ?_
        refine lv_iconst (v := (-1)) hx hb dX8_passage_31 (by decide) ?_
        refine lv_ixor hx hb dX8_passage_32 ?_
        refine lv_iand hx hb dX8_passage_33 ?_
        refine y_iast hx hb hK hI hH qMr_6 h dX8_passage_34 (fun M4 H locs hH h => ?_)
        refine lv_aload_n hx hb dX8_passage_35 rfl (lv_at hl 0 rfl) ?_
        refine y_get hx hb hts i_X8 hown hK hH qOb_8 rfl 6 (by decide) f25 rfl dX8_passage_36 ?_
        refine lv_iload_n hx hb dX8_passage_39 rfl (lv_at hl 2 rfl) ?_
        refine lv_dup2_11 hx hb dX8_passage_40 rfl rfl ?_
        refine y_iald hx hb hK hH qMr_6 h dX8_passage_41 (fun v5 h => ?_)
        refine lv_iconst (v := 1) hx hb dX8_passage_42 (by decide) ?_
        refine lv_iload_n hx hb dX8_passage_43 rfl (lv_at hl 1 rfl) ?_
        refine lv_ishl hx hb dX8_passage_44 ?_
        refine lv_iconst (v := (-1)) hx hb dX8_passage_45 (by decide) ?_
        refine lv_ixor hx hb dX8_passage_46 ?_
        refine lv_iand hx hb dX8_passage_47 ?_
        refine y_iast hx hb hK hI hH qMr_6 h dX8_passage_48 (fun M6 H locs hH h => ?_)
        refine lv_aload_n hx hb dX8_passage_49 rfl (lv_at hl 0 rfl) ?_
        refine y_get hx hb hts i_X8 hown hK hH qOb_8 rfl 6 (by decide) f25 rfl dX8_passage_50 ?_
        refine lv_iload_n hx hb dX8_passage_53 rfl (lv_at hl 1 rfl) ?_
        refine lv_dup2_11 hx hb dX8_passage_54 rfl rfl ?_
        refine y_iald hx hb hK hH qMr_6 h dX8_passage_55 (fun v7 h => ?_)
        refine lv_iload_n hx hb dX8_passage_56 rfl (lv_at hl 3 rfl) ?_
        refine qj1 (G := fun (v8 : Int32) => W p l e (headSpec wsX8_passage rm_X8_passage).room s m [.ref (ad 0), .int x1, .int x2, .int x3].toArray below meth c H locs 0 0 (MQ below (va_Qi P (fun u t => qHp W2N e2 G ad u t.heap) (qA W2N ad s.heap.size)) [.ref (ad 0), .int x1, .int x2, .int x3].toArray s 0 0 (qA W2N ad s.heap.size)) (F0 m 67 ls [.int v8, .int v7, .int x1, .ref (ad 6)])) h ?_ ?_
        rotate_left
        · intro h
          refine lv_if_eq (tgt := 66) hx hb dX8_passage_57 (by decide) (fun hc => ?_) (fun hc => ?_)
          · have h := qOk.t hc h
            refine lv_iconst (v := 0) hx hb dX8_passage_66 (by decide) ?_
            have h := qOk.s h
            exact h
          · have h := qOk.f hc h
            refine lv_iconst (v := 1) hx hb dX8_passage_60 (by decide) ?_
            refine lv_iload_n hx hb dX8_passage_61 rfl (lv_at hl 2 rfl) ?_
            refine lv_ishl hx hb dX8_passage_62 ?_
            refine lv_goto (tgt := 67) hx hb dX8_passage_63 (by decide) ?_
            have h := qOk.s h
            exact h
        intro v8 h
        refine lv_ior hx hb dX8_passage_67 ?_
        refine y_iast hx hb hK hI hH qMr_6 h dX8_passage_68 (fun M9 H locs hH h => ?_)
        refine lv_aload_n hx hb dX8_passage_69 rfl (lv_at hl 0 rfl) ?_
        refine y_get hx hb hts i_X8 hown hK hH qOb_8 rfl 6 (by decide) f25 rfl dX8_passage_70 ?_
        refine lv_iload_n hx hb dX8_passage_73 rfl (lv_at hl 2 rfl) ?_
        refine lv_dup2_11 hx hb dX8_passage_74 rfl rfl ?_
        refine y_iald hx hb hK hH qMr_6 h dX8_passage_75 (fun v10 h => ?_)
        refine lv_iload_n hx hb dX8_passage_76 rfl (lv_at hl 3 rfl) ?_
        refine qj1 (G := fun (v11 : Int32) => W p l e (headSpec wsX8_passage rm_X8_passage).room s m [.ref (ad 0), .int x1, .int x2, .int x3].toArray below meth c H locs 0 0 (MQ below (va_Qi P (fun u t => qHp W2N e2 G ad u t.heap) (qA W2N ad s.heap.size)) [.ref (ad 0), .int x1, .int x2, .int x3].toArray s 0 0 (qA W2N ad s.heap.size)) (F0 m 87 ls [.int v11, .int v10, .int x2, .ref (ad 6)])) h ?_ ?_
        rotate_left
        · intro h
          refine lv_if_eq (tgt := 86) hx hb dX8_passage_77 (by decide) (fun hc => ?_) (fun hc => ?_)
          · have h := qOk.t hc h
            refine lv_iconst (v := 0) hx hb dX8_passage_86 (by decide) ?_
            have h := qOk.s h
            exact h
          · have h := qOk.f hc h
            refine lv_iconst (v := 1) hx hb dX8_passage_80 (by decide) ?_
            refine lv_iload_n hx hb dX8_passage_81 rfl (lv_at hl 1 rfl) ?_
            refine lv_ishl hx hb dX8_passage_82 ?_
            refine lv_goto (tgt := 87) hx hb dX8_passage_83 (by decide) ?_
            have h := qOk.s h
            exact h
        intro v11 h
        refine lv_ior hx hb dX8_passage_87 ?_
        refine y_iast hx hb hK hI hH qMr_6 h dX8_passage_88 (fun M12 H locs hH h => ?_)
        refine lv_iconst (v := 0) hx hb dX8_passage_89 (by decide) ?_
        refine lv_istore (lv' := [(4, .int 0), (0, .ref (ad 0)), (1, .int x1), (2, .int x2), (3, .int x3)]) hx hb dX8_passage_90 hl (by decide) rfl (fun ls hl => ?_)
        refine lv_iconst (v := 0) hx hb dX8_passage_92 (by decide) ?_
        refine lv_istore (lv' := [(5, .int 0), (4, .int 0), (0, .ref (ad 0)), (1, .int x1), (2, .int x2), (3, .int x3)]) hx hb dX8_passage_93 hl (by decide) rfl (fun ls hl => ?_)
        refine qj1 (G := fun (v15 : Int32) => ∀ ls : Array Slot, lv_has ls 6 [(4, .int v15)] → W p l e (headSpec wsX8_passage rm_X8_passage).room s m [.ref (ad 0), .int x1, .int x2, .int x3].toArray below meth c H locs 0 0 (MQ below (va_Qi P (fun u t => qHp W2N e2 G ad u t.heap) (qA W2N ad s.heap.size)) [.ref (ad 0), .int x1, .int x2, .int x3].toArray s 0 0 (qA W2N ad s.heap.size)) (F0 m 123 ls [])) h ?_ ?_
        rotate_left
        · intro h
          refine qloop2 (I := fun (v13 : Int32) (v14 : Int32) => ∀ ls : Array Slot, lv_has ls 6 [(0, .ref (ad 0)), (4, .int v13), (5, .int v14)] → W p l e (headSpec wsX8_passage rm_X8_passage).room s m [.ref (ad 0), .int x1, .int x2, .int x3].toArray below meth c H locs 0 0 (MQ below (va_Qi P (fun u t => qHp W2N e2 G ad u t.heap) (qA W2N ad s.heap.size)) [.ref (ad 0), .int x1, .int x2, .int x3].toArray s 0 0 (qA W2N ad s.heap.size)) (F0 m 95 ls [])) ?_ h _ (lv_sub hl [2, 1, 0] rfl)
          intro v13 v14 h ls hl
          have h : qOk (kX8_passage_L95 M12 v13 v14) _ := h
          unfold kX8_passage_L95 at h
          refine lv_iload hx hb dX8_passage_95 (lv_at hl 2 rfl) ?_
          refine lv_bipush (v := 10) hx hb dX8_passage_97 (by decide) ?_
          refine lv_icmp_ge (tgt := 123) hx hb dX8_passage_99 (by decide) (fun hc => ?_) (fun hc => ?_)
          · have h := qOk.t hc h
            exact qOk.le h _ (lv_sub hl [1] rfl)
          · have h := qOk.f hc h
            refine lv_iload hx hb dX8_passage_102 (lv_at hl 1 rfl) ?_
            refine lv_aload_n hx hb dX8_passage_104 rfl (lv_at hl 0 rfl) ?_
            refine y_get hx hb hts i_X8 hown hK hH qOb_8 rfl 6 (by decide) f25 rfl dX8_passage_105 ?_
            refine lv_iload hx hb dX8_passage_108 (lv_at hl 2 rfl) ?_
            refine y_iald hx hb hK hH qMr_6 h dX8_passage_110 (fun v16 h => ?_)
            refine y_cs (va_runS (As := [.int v16]) (rest := [.int v13]) ⟨hx, hb, hml, hown, hts⟩ (c_X8_bits l v16 (qOk.b1 h)) (va_cwS 1 hts gX8_passage_X8_bits rfl rfl rfl (by decide +kernel) ⟨Nat.le_of_ble_eq_true rfl, Nat.le_of_ble_eq_true rfl⟩) ⟨qPrT.blind, qPrT.at⟩ rfl rfl hl.1 rfl (lv_room (Nat.le_of_ble_eq_true rfl)) dX8_passage_111 ⟨Nat.zero_le _, Nat.zero_le _⟩) (fun v17 h => ?_)
            refine lv_iadd hx hb dX8_passage_114 ?_
            refine lv_topi (fun v18 ev18 => ?_)
            have h := qOk.v h ev18
            refine lv_istore (lv' := [(4, .int v18), (0, .ref (ad 0)), (5, .int v14)]) hx hb dX8_passage_115 hl (by decide) rfl (fun ls hl => ?_)
            obtain ⟨v19, ev19⟩ : ∃ y : Int32, y = v14 + 1 := ⟨_, rfl⟩
            have h := qOk.v h ev19
            refine lv_iinc (v := v19) (lv' := [(5, .int v19), (4, .int v18), (0, .ref (ad 0))]) hx hb dX8_passage_117 hl (k := 2) rfl (by rw [ev19]; rfl) (by decide) rfl (fun ls hl => ?_)
            refine lv_goto (tgt := 95) hx hb dX8_passage_120 (by decide) ?_
            exact qOk.li h _ (lv_sub hl [2, 1, 0] rfl)
        intro v15 h ls hl
        refine lv_iload hx hb dX8_passage_123 (lv_at hl 0 rfl) ?_
        refine lv_iconst (v := 2) hx hb dX8_passage_125 (by decide) ?_
        refine lv_idiv hx hb dX8_passage_126 (by decide) ?_
        exact W.iret hx hb hr (fun t ht _ => ⟨⟨_, _, rfl, qOk2.s h, qHpt ht hH.1⟩, hH.2.F ht⟩) hH.2.2.2 dX8_passage_127
      · have h := qOk.t hc h
        refine lv_iconst (v := (-1)) hx hb dX8_passage_19 (by decide) ?_
        exact W.iret hx hb hr (fun t ht _ => ⟨⟨_, _, rfl, qOk2.s h, qHpt ht hH.1⟩, hH.2.F ht⟩) hH.2.2.2 dX8_passage_20
abbrev rm_X8_gallery : Room := { frames := 2, cells := 0, slots := 0, locals := 42 }
set_option maxHeartbeats 4000000 in
set_option maxRecDepth 100000 in
theorem c_X8_gallery (l : Launch) (G : qG) (ad : Nat → Nat) (hI : qI W2N ad) (M : qM) (sz : Nat) (x1 : Int32) (x2 : Int32) (x3 : Int32) {P : Int32 → qM → Prop} (h : qOk2 (kX8_gallery M x1 x2 x3) P) : Met l yX8_gallery wsX8_gallery rm_X8_gallery (va_Pc [.ref (ad 0), .int x1, .int x2, .int x3] (qPre W2N e2 G ad M sz)) (va_Qi P (fun u t => qHp W2N e2 G ad u t.heap) (qA W2N ad sz)) 0 0 (qA W2N ad sz) := by
  refine Met.ofW (cc := cX8_gallery) (maxL := 5) (ret := (some .int)) (by decide) rfl ?_
  intro p e s m args below meth c s₁ B hml hv
  obtain ⟨rfl, hsz, hK, hP⟩ := hv
  subst hsz
  have hx := B.exec
  have hb := B.bytes
  have hr := B.returns
  have hts := atoms_spec (ws := wsX8_gallery) B.pre
  have hown : s.vm.findClass RX8 = some m.cls := findClass_of_methodNamed B.named
  have hlocks := B.notSynchronized
  have hH : qHS W2N e2 G ad M s.heap s.heap [] := ⟨hP, va_S.rf⟩
  have f28 : (Cond.fieldLink RX8 28 "SongLampsModel" "echo" "[I").before [.ref (ad 0), .int x1, .int x2, .int x3].toArray s = true := hts _ (by decide +kernel)
  have i_X8 : ∀ w ∈ wsX80, w ∈ wsX8_gallery := fun w hw => List.mem_cons_of_mem _ ((List.mem_append_right _ hw))
  have f79 : (Cond.fieldLink RX8 79 "SongLampsModel" "gas" "I").before [.ref (ad 0), .int x1, .int x2, .int x3].toArray s = true := hts _ (by decide +kernel)
  have hl := lv_entry ([.ref (ad 0), .int x1, .int x2, .int x3]) (n := 5) (Nat.le_of_ble_eq_true rfl)
  rw [lg_entry_eq]
  generalize (lg_sl ([.ref (ad 0), .int x1, .int x2, .int x3]) ++ List.replicate (5 - (lg_sl ([.ref (ad 0), .int x1, .int x2, .int x3])).length) Slot.unset).toArray = ls at hl ⊢
  have hl : lv_has ls 5 [(0, .ref (ad 0)), (1, .int x1), (2, .int x2), (3, .int x3)] := hl
  have h : qOk (kX8_gallery M x1 x2 x3) _ := h
  unfold kX8_gallery at h
  refine lv_iload_n hx hb dX8_gallery_0 rfl (lv_at hl 1 rfl) ?_
  refine y_cs (va_runS (As := [.int x1]) (rest := []) ⟨hx, hb, hml, hown, hts⟩ (c_X8_isGallery l x1 (qOk.b1 h)) (va_cwS 1 hts gX8_gallery_X8_isGallery rfl rfl rfl (by decide +kernel) ⟨Nat.le_of_ble_eq_true rfl, Nat.le_of_ble_eq_true rfl⟩) ⟨qPrT.blind, qPrT.at⟩ rfl rfl hl.1 rfl (lv_room (Nat.le_of_ble_eq_true rfl)) dX8_gallery_1 ⟨Nat.zero_le _, Nat.zero_le _⟩) (fun v1 h => ?_)
  refine lv_if_eq (tgt := 14) hx hb dX8_gallery_4 (by decide) (fun hc => ?_) (fun hc => ?_)
  · have h := qOk.t hc h
    refine lv_iconst (v := (-1)) hx hb dX8_gallery_14 (by decide) ?_
    exact W.iret hx hb hr (fun t ht _ => ⟨⟨_, _, rfl, qOk2.s h, qHpt ht hH.1⟩, hH.2.F ht⟩) hH.2.2.2 dX8_gallery_15
  · have h := qOk.f hc h
    refine lv_iload_n hx hb dX8_gallery_7 rfl (lv_at hl 2 rfl) ?_
    refine y_cs (va_runS (As := [.int x2]) (rest := []) ⟨hx, hb, hml, hown, hts⟩ (c_X8_isGallery l x2 (qOk.b1 h)) (va_cwS 1 hts gX8_gallery_X8_isGallery rfl rfl rfl (by decide +kernel) ⟨Nat.le_of_ble_eq_true rfl, Nat.le_of_ble_eq_true rfl⟩) ⟨qPrT.blind, qPrT.at⟩ rfl rfl hl.1 rfl (lv_room (Nat.le_of_ble_eq_true rfl)) dX8_gallery_8 ⟨Nat.zero_le _, Nat.zero_le _⟩) (fun v2 h => ?_)
    refine lv_if_ne (tgt := 16) hx hb dX8_gallery_11 (by decide) (fun hc => ?_) (fun hc => ?_)
    · have h := qOk.f hc h
      refine lv_aload_n hx hb dX8_gallery_16 rfl (lv_at hl 0 rfl) ?_
      refine y_get hx hb hts i_X8 hown hK hH qOb_8 rfl 7 (by decide) f28 rfl dX8_gallery_17 ?_
      refine lv_iload_n hx hb dX8_gallery_20 rfl (lv_at hl 1 rfl) ?_
      refine y_iald hx hb hK hH qMr_7 h dX8_gallery_21 (fun v3 h => ?_)
      refine lv_istore (lv' := [(4, .int v3), (0, .ref (ad 0)), (1, .int x1), (2, .int x2), (3, .int x3)]) hx hb dX8_gallery_22 hl (by decide) rfl (fun ls hl => ?_)
      refine lv_aload_n hx hb dX8_gallery_24 rfl (lv_at hl 1 rfl) ?_
      refine y_get hx hb hts i_X8 hown hK hH qOb_8 rfl 7 (by decide) f28 rfl dX8_gallery_25 ?_
      refine lv_iload_n hx hb dX8_gallery_28 rfl (lv_at hl 2 rfl) ?_
      refine lv_iload_n hx hb dX8_gallery_29 rfl (lv_at hl 3 rfl) ?_
      refine y_iast hx hb hK hI hH qMr_7 h dX8_gallery_30 (fun M4 H locs hH h => ?_)
      refine lv_aload_n hx hb dX8_gallery_31 rfl (lv_at hl 1 rfl) ?_
      refine lv_dup hx hb dX8_gallery_32 rfl ?_
      refine y_get hx hb hts i_X8 hown hK hH qOb_8 rfl 8 (by decide) f79 rfl dX8_gallery_33 ?_
      refine lv_iconst (v := 1) hx hb dX8_gallery_36 (by decide) ?_
      refine lv_iload_n hx hb dX8_gallery_37 rfl (lv_at hl 2 rfl) ?_
      refine lv_ishl hx hb dX8_gallery_38 ?_
      refine lv_iconst (v := (-1)) hx hb dX8_gallery_39 (by decide) ?_
      refine lv_ixor hx hb dX8_gallery_40 ?_
      refine lv_iand hx hb dX8_gallery_41 ?_
      refine y_put hx hb hts i_X8 tyX8 tyX8_ok nmX8 hown hK hI hH qOb_8 rfl 8 (by decide) f79 rfl (by decide +kernel) (Nat.le_of_ble_eq_true rfl) (fun _ => rfl) h dX8_gallery_42 (fun M5 H locs hH h => ?_)
      refine lv_aload_n hx hb dX8_gallery_45 rfl (lv_at hl 1 rfl) ?_
      refine lv_dup hx hb dX8_gallery_46 rfl ?_
      refine y_get hx hb hts i_X8 hown hK hH qOb_8 rfl 8 (by decide) f79 rfl dX8_gallery_47 ?_
      refine lv_iload_n hx hb dX8_gallery_50 rfl (lv_at hl 4 rfl) ?_
      refine qj1 (G := fun (v6 : Int32) => W p l e (headSpec wsX8_gallery rm_X8_gallery).room s m [.ref (ad 0), .int x1, .int x2, .int x3].toArray below meth c H locs 0 0 (MQ below (va_Qi P (fun u t => qHp W2N e2 G ad u t.heap) (qA W2N ad s.heap.size)) [.ref (ad 0), .int x1, .int x2, .int x3].toArray s 0 0 (qA W2N ad s.heap.size)) (F0 m 61 ls [.int v6, .int (M5 0 8), .ref (ad 0)])) h ?_ ?_
      rotate_left
      · intro h
        refine lv_if_eq (tgt := 60) hx hb dX8_gallery_51 (by decide) (fun hc => ?_) (fun hc => ?_)
        · have h := qOk.t hc h
          refine lv_iconst (v := 0) hx hb dX8_gallery_60 (by decide) ?_
          have h := qOk.s h
          exact h
        · have h := qOk.f hc h
          refine lv_iconst (v := 1) hx hb dX8_gallery_54 (by decide) ?_
          refine lv_iload_n hx hb dX8_gallery_55 rfl (lv_at hl 2 rfl) ?_
          refine lv_ishl hx hb dX8_gallery_56 ?_
          refine lv_goto (tgt := 61) hx hb dX8_gallery_57 (by decide) ?_
          have h := qOk.s h
          exact h
      intro v6 h
      refine lv_ior hx hb dX8_gallery_61 ?_
      refine y_put hx hb hts i_X8 tyX8 tyX8_ok nmX8 hown hK hI hH qOb_8 rfl 8 (by decide) f79 rfl (by decide +kernel) (Nat.le_of_ble_eq_true rfl) (fun _ => rfl) h dX8_gallery_62 (fun M7 H locs hH h => ?_)
      refine lv_iload hx hb dX8_gallery_65 (lv_at hl 0 rfl) ?_
      exact W.iret hx hb hr (fun t ht _ => ⟨⟨_, _, rfl, qOk2.s h, qHpt ht hH.1⟩, hH.2.F ht⟩) hH.2.2.2 dX8_gallery_67
    · have h := qOk.t hc h
      refine lv_iconst (v := (-1)) hx hb dX8_gallery_14 (by decide) ?_
      exact W.iret hx hb hr (fun t ht _ => ⟨⟨_, _, rfl, qOk2.s h, qHpt ht hH.1⟩, hH.2.F ht⟩) hH.2.2.2 dX8_gallery_15
abbrev rm_X8_voice : Room := { frames := 2, cells := 0, slots := 0, locals := 42 }
set_option maxHeartbeats 4000000 in
set_option maxRecDepth 100000 in
theorem c_X8_voice (l : Launch) (G : qG) (ad : Nat → Nat) (hI : qI W2N ad) (M : qM) (sz : Nat) (x1 : Int32) (x2 : Int32) (x3 : Int32) (x4 : Int32) (x5 : Int32) {P : Int32 → qM → Prop} (h : qOk2 (kX8_voice M x1 x2 x3 x4 x5) P) : Met l yX8_voice wsX8_voice rm_X8_voice (va_Pc [.ref (ad 0), .int x1, .int x2, .int x3, .int x4, .int x5] (qPre W2N e2 G ad M sz)) (va_Qi P (fun u t => qHp W2N e2 G ad u t.heap) (qA W2N ad sz)) 0 0 (qA W2N ad sz) := by
  refine Met.ofW (cc := cX8_voice) (maxL := 6) (ret := (some .int)) (by decide) rfl ?_
  intro p e s m args below meth c s₁ B hml hv
  obtain ⟨rfl, hsz, hK, hP⟩ := hv
  subst hsz
  have hx := B.exec
  have hb := B.bytes
  have hr := B.returns
  have hts := atoms_spec (ws := wsX8_voice) B.pre
  have hown : s.vm.findClass RX8 = some m.cls := findClass_of_methodNamed B.named
  have hlocks := B.notSynchronized
  have hH : qHS W2N e2 G ad M s.heap s.heap [] := ⟨hP, va_S.rf⟩
  have f63 : (Cond.fieldLink RX8 63 "SongLampsModel" "there" "I").before [.ref (ad 0), .int x1, .int x2, .int x3, .int x4, .int x5].toArray s = true := hts _ (by decide +kernel)
  have i_X8 : ∀ w ∈ wsX80, w ∈ wsX8_voice := fun w hw => List.mem_cons_of_mem _ ((List.mem_append_right _ hw))
  have f16 : (Cond.fieldLink RX8 16 "SongLampsModel" "low" "[I").before [.ref (ad 0), .int x1, .int x2, .int x3, .int x4, .int x5].toArray s = true := hts _ (by decide +kernel)
  have f19 : (Cond.fieldLink RX8 19 "SongLampsModel" "high" "[I").before [.ref (ad 0), .int x1, .int x2, .int x3, .int x4, .int x5].toArray s = true := hts _ (by decide +kernel)
  have f22 : (Cond.fieldLink RX8 22 "SongLampsModel" "lungs" "[I").before [.ref (ad 0), .int x1, .int x2, .int x3, .int x4, .int x5].toArray s = true := hts _ (by decide +kernel)
  have f7 : (Cond.fieldLink RX8 7 "SongLampsModel" "book" "[I").before [.ref (ad 0), .int x1, .int x2, .int x3, .int x4, .int x5].toArray s = true := hts _ (by decide +kernel)
  have hl := lv_entry ([.ref (ad 0), .int x1, .int x2, .int x3, .int x4, .int x5]) (n := 6) (Nat.le_of_ble_eq_true rfl)
  rw [lg_entry_eq]
  generalize (lg_sl ([.ref (ad 0), .int x1, .int x2, .int x3, .int x4, .int x5]) ++ List.replicate (6 - (lg_sl ([.ref (ad 0), .int x1, .int x2, .int x3, .int x4, .int x5])).length) Slot.unset).toArray = ls at hl ⊢
  have hl : lv_has ls 6 [(0, .ref (ad 0)), (1, .int x1), (2, .int x2), (3, .int x3), (4, .int x4), (5, .int x5)] := hl
  have h : qOk (kX8_voice M x1 x2 x3 x4 x5) _ := h
  unfold kX8_voice at h
  refine lv_iload_n hx hb dX8_voice_0 rfl (lv_at hl 1 rfl) ?_
  refine lv_iconst (v := 0) hx hb dX8_voice_1 (by decide) ?_
  refine lv_bipush (v := 7) hx hb dX8_voice_2 (by decide) ?_
  refine y_cs (va_runS (As := [.int x1, .int 0, .int 7]) (rest := []) ⟨hx, hb, hml, hown, hts⟩ (c_X8_in l x1 0 7 (qOk.b1 h)) (va_cwS 3 hts gX8_voice_X8_in rfl rfl rfl (by decide +kernel) ⟨Nat.le_of_ble_eq_true rfl, Nat.le_of_ble_eq_true rfl⟩) ⟨qPrT.blind, qPrT.at⟩ rfl rfl hl.1 rfl (lv_room (Nat.le_of_ble_eq_true rfl)) dX8_voice_4 ⟨Nat.zero_le _, Nat.zero_le _⟩) (fun v1 h => ?_)
  refine lv_if_eq (tgt := 18) hx hb dX8_voice_7 (by decide) (fun hc => ?_) (fun hc => ?_)
  · have h := qOk.t hc h
    refine lv_iconst (v := (-1)) hx hb dX8_voice_18 (by decide) ?_
    exact W.iret hx hb hr (fun t ht _ => ⟨⟨_, _, rfl, qOk2.s h, qHpt ht hH.1⟩, hH.2.F ht⟩) hH.2.2.2 dX8_voice_19
  · have h := qOk.f hc h
    refine lv_iload hx hb dX8_voice_10 (lv_at hl 5 rfl) ?_
    refine y_cs (va_runS (As := [.int x5]) (rest := []) ⟨hx, hb, hml, hown, hts⟩ (c_X8_isGallery l x5 (qOk.b1 h)) (va_cwS 1 hts gX8_voice_X8_isGallery rfl rfl rfl (by decide +kernel) ⟨Nat.le_of_ble_eq_true rfl, Nat.le_of_ble_eq_true rfl⟩) ⟨qPrT.blind, qPrT.at⟩ rfl rfl hl.1 rfl (lv_room (Nat.le_of_ble_eq_true rfl)) dX8_voice_12 ⟨Nat.zero_le _, Nat.zero_le _⟩) (fun v2 h => ?_)
    refine lv_if_ne (tgt := 20) hx hb dX8_voice_15 (by decide) (fun hc => ?_) (fun hc => ?_)
    · have h := qOk.f hc h
      refine lv_iload_n hx hb dX8_voice_20 rfl (lv_at hl 2 rfl) ?_
      refine lv_iconst (v := 0) hx hb dX8_voice_21 (by decide) ?_
      refine lv_bipush (v := 23) hx hb dX8_voice_22 (by decide) ?_
      refine y_cs (va_runS (As := [.int x2, .int 0, .int 23]) (rest := []) ⟨hx, hb, hml, hown, hts⟩ (c_X8_in l x2 0 23 (qOk.b1 h)) (va_cwS 3 hts gX8_voice_X8_in rfl rfl rfl (by decide +kernel) ⟨Nat.le_of_ble_eq_true rfl, Nat.le_of_ble_eq_true rfl⟩) ⟨qPrT.blind, qPrT.at⟩ rfl rfl hl.1 rfl (lv_room (Nat.le_of_ble_eq_true rfl)) dX8_voice_24 ⟨Nat.zero_le _, Nat.zero_le _⟩) (fun v3 h => ?_)
      refine lv_if_eq (tgt := 51) hx hb dX8_voice_27 (by decide) (fun hc => ?_) (fun hc => ?_)
      · have h := qOk.t hc h
        refine lv_bipush (v := (-2)) hx hb dX8_voice_51 (by decide) ?_
        exact W.iret hx hb hr (fun t ht _ => ⟨⟨_, _, rfl, qOk2.s h, qHpt ht hH.1⟩, hH.2.F ht⟩) hH.2.2.2 dX8_voice_53
      · have h := qOk.f hc h
        refine lv_iload_n hx hb dX8_voice_30 rfl (lv_at hl 3 rfl) ?_
        refine lv_iload_n hx hb dX8_voice_31 rfl (lv_at hl 2 rfl) ?_
        refine lv_bipush (v := 23) hx hb dX8_voice_32 (by decide) ?_
        refine y_cs (va_runS (As := [.int x3, .int x2, .int 23]) (rest := []) ⟨hx, hb, hml, hown, hts⟩ (c_X8_in l x3 x2 23 (qOk.b1 h)) (va_cwS 3 hts gX8_voice_X8_in rfl rfl rfl (by decide +kernel) ⟨Nat.le_of_ble_eq_true rfl, Nat.le_of_ble_eq_true rfl⟩) ⟨qPrT.blind, qPrT.at⟩ rfl rfl hl.1 rfl (lv_room (Nat.le_of_ble_eq_true rfl)) dX8_voice_34 ⟨Nat.zero_le _, Nat.zero_le _⟩) (fun v4 h => ?_)
        refine lv_if_eq (tgt := 51) hx hb dX8_voice_37 (by decide) (fun hc => ?_) (fun hc => ?_)
        · have h := qOk.t hc h
          refine lv_bipush (v := (-2)) hx hb dX8_voice_51 (by decide) ?_
          exact W.iret hx hb hr (fun t ht _ => ⟨⟨_, _, rfl, qOk2.s h, qHpt ht hH.1⟩, hH.2.F ht⟩) hH.2.2.2 dX8_voice_53
        · have h := qOk.f hc h
          refine lv_iload hx hb dX8_voice_40 (lv_at hl 4 rfl) ?_
          refine lv_iconst (v := 0) hx hb dX8_voice_42 (by decide) ?_
          refine lv_bipush (v := 99) hx hb dX8_voice_43 (by decide) ?_
          refine y_cs (va_runS (As := [.int x4, .int 0, .int 99]) (rest := []) ⟨hx, hb, hml, hown, hts⟩ (c_X8_in l x4 0 99 (qOk.b1 h)) (va_cwS 3 hts gX8_voice_X8_in rfl rfl rfl (by decide +kernel) ⟨Nat.le_of_ble_eq_true rfl, Nat.le_of_ble_eq_true rfl⟩) ⟨qPrT.blind, qPrT.at⟩ rfl rfl hl.1 rfl (lv_room (Nat.le_of_ble_eq_true rfl)) dX8_voice_45 ⟨Nat.zero_le _, Nat.zero_le _⟩) (fun v5 h => ?_)
          refine lv_if_ne (tgt := 54) hx hb dX8_voice_48 (by decide) (fun hc => ?_) (fun hc => ?_)
          · have h := qOk.f hc h
            refine lv_aload_n hx hb dX8_voice_54 rfl (lv_at hl 0 rfl) ?_
            refine lv_dup hx hb dX8_voice_55 rfl ?_
            refine y_get hx hb hts i_X8 hown hK hH qOb_8 rfl 2 (by decide) f63 rfl dX8_voice_56 ?_
            refine lv_iconst (v := 1) hx hb dX8_voice_59 (by decide) ?_
            refine lv_iload_n hx hb dX8_voice_60 rfl (lv_at hl 1 rfl) ?_
            refine lv_ishl hx hb dX8_voice_61 ?_
            refine lv_ior hx hb dX8_voice_62 ?_
            refine y_put hx hb hts i_X8 tyX8 tyX8_ok nmX8 hown hK hI hH qOb_8 rfl 2 (by decide) f63 rfl (by decide +kernel) (Nat.le_of_ble_eq_true rfl) (fun _ => rfl) h dX8_voice_63 (fun M6 H locs hH h => ?_)
            refine lv_aload_n hx hb dX8_voice_66 rfl (lv_at hl 0 rfl) ?_
            refine y_get hx hb hts i_X8 hown hK hH qOb_8 rfl 3 (by decide) f16 rfl dX8_voice_67 ?_
            refine lv_iload_n hx hb dX8_voice_70 rfl (lv_at hl 1 rfl) ?_
            refine lv_iload_n hx hb dX8_voice_71 rfl (lv_at hl 2 rfl) ?_
            refine y_iast hx hb hK hI hH qMr_3 h dX8_voice_72 (fun M7 H locs hH h => ?_)
            refine lv_aload_n hx hb dX8_voice_73 rfl (lv_at hl 0 rfl) ?_
            refine y_get hx hb hts i_X8 hown hK hH qOb_8 rfl 4 (by decide) f19 rfl dX8_voice_74 ?_
            refine lv_iload_n hx hb dX8_voice_77 rfl (lv_at hl 1 rfl) ?_
            refine lv_iload_n hx hb dX8_voice_78 rfl (lv_at hl 3 rfl) ?_
            refine y_iast hx hb hK hI hH qMr_4 h dX8_voice_79 (fun M8 H locs hH h => ?_)
            refine lv_aload_n hx hb dX8_voice_80 rfl (lv_at hl 0 rfl) ?_
            refine y_get hx hb hts i_X8 hown hK hH qOb_8 rfl 5 (by decide) f22 rfl dX8_voice_81 ?_
            refine lv_iload_n hx hb dX8_voice_84 rfl (lv_at hl 1 rfl) ?_
            refine lv_iload hx hb dX8_voice_85 (lv_at hl 4 rfl) ?_
            refine y_iast hx hb hK hI hH qMr_5 h dX8_voice_87 (fun M9 H locs hH h => ?_)
            refine lv_aload_n hx hb dX8_voice_88 rfl (lv_at hl 0 rfl) ?_
            refine y_get hx hb hts i_X8 hown hK hH qOb_8 rfl 0 (by decide) f7 rfl dX8_voice_89 ?_
            refine lv_iload_n hx hb dX8_voice_92 rfl (lv_at hl 1 rfl) ?_
            refine lv_bipush (v := (-6)) hx hb dX8_voice_93 (by decide) ?_
            refine y_iast hx hb hK hI hH qMr_1 h dX8_voice_95 (fun M10 H locs hH h => ?_)
            refine lv_aload_n hx hb dX8_voice_96 rfl (lv_at hl 0 rfl) ?_
            refine y_get hx hb hts i_X8 hown hK hH qOb_8 rfl 0 (by decide) f7 rfl dX8_voice_97 ?_
            refine lv_bipush (v := 8) hx hb dX8_voice_100 (by decide) ?_
            refine lv_iload_n hx hb dX8_voice_102 rfl (lv_at hl 1 rfl) ?_
            refine lv_iadd hx hb dX8_voice_103 ?_
            refine lv_iload hx hb dX8_voice_104 (lv_at hl 4 rfl) ?_
            refine y_iast hx hb hK hI hH qMr_1 h dX8_voice_106 (fun M11 H locs hH h => ?_)
            refine lv_aload_n hx hb dX8_voice_107 rfl (lv_at hl 0 rfl) ?_
            refine y_get hx hb hts i_X8 hown hK hH qOb_8 rfl 0 (by decide) f7 rfl dX8_voice_108 ?_
            refine lv_bipush (v := 16) hx hb dX8_voice_111 (by decide) ?_
            refine lv_iload_n hx hb dX8_voice_113 rfl (lv_at hl 1 rfl) ?_
            refine lv_iadd hx hb dX8_voice_114 ?_
            refine lv_iload hx hb dX8_voice_115 (lv_at hl 5 rfl) ?_
            refine y_iast hx hb hK hI hH qMr_1 h dX8_voice_117 (fun M12 H locs hH h => ?_)
            refine lv_aload_n hx hb dX8_voice_118 rfl (lv_at hl 0 rfl) ?_
            refine y_get hx hb hts i_X8 hown hK hH qOb_8 rfl 2 (by decide) f63 rfl dX8_voice_119 ?_
            refine y_cs (va_runS (As := [.int (M12 0 2)]) (rest := []) ⟨hx, hb, hml, hown, hts⟩ (c_X8_bits l (M12 0 2) (qOk.b1 h)) (va_cwS 1 hts gX8_voice_X8_bits rfl rfl rfl (by decide +kernel) ⟨Nat.le_of_ble_eq_true rfl, Nat.le_of_ble_eq_true rfl⟩) ⟨qPrT.blind, qPrT.at⟩ rfl rfl hl.1 rfl (lv_room (Nat.le_of_ble_eq_true rfl)) dX8_voice_122 ⟨Nat.zero_le _, Nat.zero_le _⟩) (fun v13 h => ?_)
            exact W.iret hx hb hr (fun t ht _ => ⟨⟨_, _, rfl, qOk2.s h, qHpt ht hH.1⟩, hH.2.F ht⟩) hH.2.2.2 dX8_voice_125
          · have h := qOk.t hc h
            refine lv_bipush (v := (-2)) hx hb dX8_voice_51 (by decide) ?_
            exact W.iret hx hb hr (fun t ht _ => ⟨⟨_, _, rfl, qOk2.s h, qHpt ht hH.1⟩, hH.2.F ht⟩) hH.2.2.2 dX8_voice_53
    · have h := qOk.t hc h
      refine lv_iconst (v := (-1)) hx hb dX8_voice_18 (by decide) ?_
      exact W.iret hx hb hr (fun t ht _ => ⟨⟨_, _, rfl, qOk2.s h, qHpt ht hH.1⟩, hH.2.F ht⟩) hH.2.2.2 dX8_voice_19
abbrev rm_X8_breath : Room := { frames := 2, cells := 0, slots := 0, locals := 43 }
set_option maxHeartbeats 4000000 in
set_option maxRecDepth 100000 in
theorem c_X8_breath (l : Launch) (G : qG) (ad : Nat → Nat) (hI : qI W2N ad) (M : qM) (sz : Nat) (x1 : Int32) (x2 : Int32) {P : Int32 → qM → Prop} (h : qOk2 (kX8_breath M x1 x2) P) : Met l yX8_breath wsX8_breath rm_X8_breath (va_Pc [.ref (ad 0), .int x1, .int x2] (qPre W2N e2 G ad M sz)) (va_Qi P (fun u t => qHp W2N e2 G ad u t.heap) (qA W2N ad sz)) 0 0 (qA W2N ad sz) := by
  refine Met.ofW (cc := cX8_breath) (maxL := 4) (ret := (some .int)) (by decide) rfl ?_
  intro p e s m args below meth c s₁ B hml hv
  obtain ⟨rfl, hsz, hK, hP⟩ := hv
  subst hsz
  have hx := B.exec
  have hb := B.bytes
  have hr := B.returns
  have hts := atoms_spec (ws := wsX8_breath) B.pre
  have hown : s.vm.findClass RX8 = some m.cls := findClass_of_methodNamed B.named
  have hlocks := B.notSynchronized
  have hH : qHS W2N e2 G ad M s.heap s.heap [] := ⟨hP, va_S.rf⟩
  have f22 : (Cond.fieldLink RX8 22 "SongLampsModel" "lungs" "[I").before [.ref (ad 0), .int x1, .int x2].toArray s = true := hts _ (by decide +kernel)
  have i_X8 : ∀ w ∈ wsX80, w ∈ wsX8_breath := fun w hw => List.mem_cons_of_mem _ ((List.mem_append_right _ hw))
  have f7 : (Cond.fieldLink RX8 7 "SongLampsModel" "book" "[I").before [.ref (ad 0), .int x1, .int x2].toArray s = true := hts _ (by decide +kernel)
  have hl := lv_entry ([.ref (ad 0), .int x1, .int x2]) (n := 4) (Nat.le_of_ble_eq_true rfl)
  rw [lg_entry_eq]
  generalize (lg_sl ([.ref (ad 0), .int x1, .int x2]) ++ List.replicate (4 - (lg_sl ([.ref (ad 0), .int x1, .int x2])).length) Slot.unset).toArray = ls at hl ⊢
  have hl : lv_has ls 4 [(0, .ref (ad 0)), (1, .int x1), (2, .int x2)] := hl
  have h : qOk (kX8_breath M x1 x2) _ := h
  unfold kX8_breath at h
  refine lv_aload_n hx hb dX8_breath_0 rfl (lv_at hl 0 rfl) ?_
  refine lv_iload_n hx hb dX8_breath_1 rfl (lv_at hl 1 rfl) ?_
  refine y_cs (va_runV (As := [.int x1]) (rest := []) ⟨hx, hb, hml, hown, hts⟩ (c_X8_isThere l G ad hI M _ x1 (qOk.b1 h)) (cwV 1 hts gX8_breath_X8_isThere rfl rfl rfl (by decide +kernel) ⟨Nat.le_of_ble_eq_true rfl, Nat.le_of_ble_eq_true rfl⟩) ⟨qPre.blind, qrecv hK hH qOb_8 rfl, qPre.at hK hH⟩ rfl rfl hl.1 rfl (lv_room (Nat.le_of_ble_eq_true rfl)) dX8_breath_2 ⟨Nat.zero_le _, Nat.zero_le _⟩) (fun v1 h => ?_)
  refine lv_if_ne (tgt := 10) hx hb dX8_breath_5 (by decide) (fun hc => ?_) (fun hc => ?_)
  · have h := qOk.f hc h
    refine lv_iload_n hx hb dX8_breath_10 rfl (lv_at hl 2 rfl) ?_
    refine lv_iconst (v := 0) hx hb dX8_breath_11 (by decide) ?_
    refine lv_aload_n hx hb dX8_breath_12 rfl (lv_at hl 0 rfl) ?_
    refine y_get hx hb hts i_X8 hown hK hH qOb_8 rfl 5 (by decide) f22 rfl dX8_breath_13 ?_
    refine lv_iload_n hx hb dX8_breath_16 rfl (lv_at hl 1 rfl) ?_
    refine y_iald hx hb hK hH qMr_5 h dX8_breath_17 (fun v2 h => ?_)
    refine y_cs (va_runS (As := [.int x2, .int 0, .int v2]) (rest := []) ⟨hx, hb, hml, hown, hts⟩ (c_X8_in l x2 0 v2 (qOk.b1 h)) (va_cwS 3 hts gX8_breath_X8_in rfl rfl rfl (by decide +kernel) ⟨Nat.le_of_ble_eq_true rfl, Nat.le_of_ble_eq_true rfl⟩) ⟨qPrT.blind, qPrT.at⟩ rfl rfl hl.1 rfl (lv_room (Nat.le_of_ble_eq_true rfl)) dX8_breath_18 ⟨Nat.zero_le _, Nat.zero_le _⟩) (fun v3 h => ?_)
    refine lv_if_ne (tgt := 27) hx hb dX8_breath_21 (by decide) (fun hc => ?_) (fun hc => ?_)
    · have h := qOk.f hc h
      refine lv_aload_n hx hb dX8_breath_27 rfl (lv_at hl 0 rfl) ?_
      refine y_get hx hb hts i_X8 hown hK hH qOb_8 rfl 0 (by decide) f7 rfl dX8_breath_28 ?_
      refine lv_bipush (v := 8) hx hb dX8_breath_31 (by decide) ?_
      refine lv_iload_n hx hb dX8_breath_33 rfl (lv_at hl 1 rfl) ?_
      refine lv_iadd hx hb dX8_breath_34 ?_
      refine y_iald hx hb hK hH qMr_1 h dX8_breath_35 (fun v4 h => ?_)
      refine lv_istore_n (lv' := [(3, .int v4), (0, .ref (ad 0)), (1, .int x1), (2, .int x2)]) hx hb dX8_breath_36 rfl hl (by decide) rfl (fun ls hl => ?_)
      refine lv_aload_n hx hb dX8_breath_37 rfl (lv_at hl 1 rfl) ?_
      refine y_get hx hb hts i_X8 hown hK hH qOb_8 rfl 0 (by decide) f7 rfl dX8_breath_38 ?_
      refine lv_bipush (v := 8) hx hb dX8_breath_41 (by decide) ?_
      refine lv_iload_n hx hb dX8_breath_43 rfl (lv_at hl 2 rfl) ?_
      refine lv_iadd hx hb dX8_breath_44 ?_
      refine lv_iload_n hx hb dX8_breath_45 rfl (lv_at hl 3 rfl) ?_
      refine y_iast hx hb hK hI hH qMr_1 h dX8_breath_46 (fun M5 H locs hH h => ?_)
      refine lv_aload_n hx hb dX8_breath_47 rfl (lv_at hl 1 rfl) ?_
      refine y_get hx hb hts i_X8 hown hK hH qOb_8 rfl 0 (by decide) f7 rfl dX8_breath_48 ?_
      refine lv_iload_n hx hb dX8_breath_51 rfl (lv_at hl 2 rfl) ?_
      refine lv_iload_n hx hb dX8_breath_52 rfl (lv_at hl 3 rfl) ?_
      refine qj1 (G := fun (v6 : Int32) => W p l e (headSpec wsX8_breath rm_X8_breath).room s m [.ref (ad 0), .int x1, .int x2].toArray below meth c H locs 0 0 (MQ below (va_Qi P (fun u t => qHp W2N e2 G ad u t.heap) (qA W2N ad s.heap.size)) [.ref (ad 0), .int x1, .int x2].toArray s 0 0 (qA W2N ad s.heap.size)) (F0 m 67 ls [.int v6, .int x1, .ref (ad 1)])) h ?_ ?_
      rotate_left
      · intro h
        refine lv_if_ne (tgt := 61) hx hb dX8_breath_53 (by decide) (fun hc => ?_) (fun hc => ?_)
        · have h := qOk.f hc h
          refine lv_aload_n hx hb dX8_breath_61 rfl (lv_at hl 1 rfl) ?_
          refine y_get hx hb hts i_X8 hown hK hH qOb_8 rfl 0 (by decide) f7 rfl dX8_breath_62 ?_
          refine lv_iload_n hx hb dX8_breath_65 rfl (lv_at hl 2 rfl) ?_
          refine y_iald hx hb hK hH qMr_1 h dX8_breath_66 (fun v7 h => ?_)
          have h := qOk.s h
          exact h
        · have h := qOk.t hc h
          refine lv_bipush (v := (-6)) hx hb dX8_breath_56 (by decide) ?_
          refine lv_goto (tgt := 67) hx hb dX8_breath_58 (by decide) ?_
          have h := qOk.s h
          exact h
      intro v6 h
      refine y_iast hx hb hK hI hH qMr_1 h dX8_breath_67 (fun M8 H locs hH h => ?_)
      refine lv_iload_n hx hb dX8_breath_68 rfl (lv_at hl 0 rfl) ?_
      exact W.iret hx hb hr (fun t ht _ => ⟨⟨_, _, rfl, qOk2.s h, qHpt ht hH.1⟩, hH.2.F ht⟩) hH.2.2.2 dX8_breath_69
    · have h := qOk.t hc h
      refine lv_bipush (v := (-2)) hx hb dX8_breath_24 (by decide) ?_
      exact W.iret hx hb hr (fun t ht _ => ⟨⟨_, _, rfl, qOk2.s h, qHpt ht hH.1⟩, hH.2.F ht⟩) hH.2.2.2 dX8_breath_26
  · have h := qOk.t hc h
    refine lv_iconst (v := (-1)) hx hb dX8_breath_8 (by decide) ?_
    exact W.iret hx hb hr (fun t ht _ => ⟨⟨_, _, rfl, qOk2.s h, qHpt ht hH.1⟩, hH.2.F ht⟩) hH.2.2.2 dX8_breath_9
abbrev rm_X8_leave : Room := { frames := 2, cells := 0, slots := 0, locals := 43 }
set_option maxHeartbeats 4000000 in
set_option maxRecDepth 100000 in
theorem c_X8_leave (l : Launch) (G : qG) (ad : Nat → Nat) (hI : qI W2N ad) (M : qM) (sz : Nat) (x1 : Int32) {P : Int32 → qM → Prop} (h : qOk2 (kX8_leave M x1) P) : Met l yX8_leave wsX8_leave rm_X8_leave (va_Pc [.ref (ad 0), .int x1] (qPre W2N e2 G ad M sz)) (va_Qi P (fun u t => qHp W2N e2 G ad u t.heap) (qA W2N ad sz)) 0 0 (qA W2N ad sz) := by
  refine Met.ofW (cc := cX8_leave) (maxL := 2) (ret := (some .int)) (by decide) rfl ?_
  intro p e s m args below meth c s₁ B hml hv
  obtain ⟨rfl, hsz, hK, hP⟩ := hv
  subst hsz
  have hx := B.exec
  have hb := B.bytes
  have hr := B.returns
  have hts := atoms_spec (ws := wsX8_leave) B.pre
  have hown : s.vm.findClass RX8 = some m.cls := findClass_of_methodNamed B.named
  have hlocks := B.notSynchronized
  have hH : qHS W2N e2 G ad M s.heap s.heap [] := ⟨hP, va_S.rf⟩
  have f63 : (Cond.fieldLink RX8 63 "SongLampsModel" "there" "I").before [.ref (ad 0), .int x1].toArray s = true := hts _ (by decide +kernel)
  have i_X8 : ∀ w ∈ wsX80, w ∈ wsX8_leave := fun w hw => List.mem_cons_of_mem _ ((List.mem_append_right _ hw))
  have hl := lv_entry ([.ref (ad 0), .int x1]) (n := 2) (Nat.le_of_ble_eq_true rfl)
  rw [lg_entry_eq]
  generalize (lg_sl ([.ref (ad 0), .int x1]) ++ List.replicate (2 - (lg_sl ([.ref (ad 0), .int x1])).length) Slot.unset).toArray = ls at hl ⊢
  have hl : lv_has ls 2 [(0, .ref (ad 0)), (1, .int x1)] := hl
  have h : qOk (kX8_leave M x1) _ := h
  unfold kX8_leave at h
  refine lv_aload_n hx hb dX8_leave_0 rfl (lv_at hl 0 rfl) ?_
  refine lv_iload_n hx hb dX8_leave_1 rfl (lv_at hl 1 rfl) ?_
  refine y_cs (va_runV (As := [.int x1]) (rest := []) ⟨hx, hb, hml, hown, hts⟩ (c_X8_isThere l G ad hI M _ x1 (qOk.b1 h)) (cwV 1 hts gX8_leave_X8_isThere rfl rfl rfl (by decide +kernel) ⟨Nat.le_of_ble_eq_true rfl, Nat.le_of_ble_eq_true rfl⟩) ⟨qPre.blind, qrecv hK hH qOb_8 rfl, qPre.at hK hH⟩ rfl rfl hl.1 rfl (lv_room (Nat.le_of_ble_eq_true rfl)) dX8_leave_2 ⟨Nat.zero_le _, Nat.zero_le _⟩) (fun v1 h => ?_)
  refine lv_if_ne (tgt := 10) hx hb dX8_leave_5 (by decide) (fun hc => ?_) (fun hc => ?_)
  · have h := qOk.f hc h
    refine lv_aload_n hx hb dX8_leave_10 rfl (lv_at hl 0 rfl) ?_
    refine lv_dup hx hb dX8_leave_11 rfl ?_
    refine y_get hx hb hts i_X8 hown hK hH qOb_8 rfl 2 (by decide) f63 rfl dX8_leave_12 ?_
    refine lv_iconst (v := 1) hx hb dX8_leave_15 (by decide) ?_
    refine lv_iload_n hx hb dX8_leave_16 rfl (lv_at hl 1 rfl) ?_
    refine lv_ishl hx hb dX8_leave_17 ?_
    refine lv_iconst (v := (-1)) hx hb dX8_leave_18 (by decide) ?_
    refine lv_ixor hx hb dX8_leave_19 ?_
    refine lv_iand hx hb dX8_leave_20 ?_
    refine y_put hx hb hts i_X8 tyX8 tyX8_ok nmX8 hown hK hI hH qOb_8 rfl 2 (by decide) f63 rfl (by decide +kernel) (Nat.le_of_ble_eq_true rfl) (fun _ => rfl) h dX8_leave_21 (fun M2 H locs hH h => ?_)
    refine lv_aload_n hx hb dX8_leave_24 rfl (lv_at hl 0 rfl) ?_
    refine y_get hx hb hts i_X8 hown hK hH qOb_8 rfl 2 (by decide) f63 rfl dX8_leave_25 ?_
    refine y_cs (va_runS (As := [.int (M2 0 2)]) (rest := []) ⟨hx, hb, hml, hown, hts⟩ (c_X8_bits l (M2 0 2) (qOk.b1 h)) (va_cwS 1 hts gX8_leave_X8_bits rfl rfl rfl (by decide +kernel) ⟨Nat.le_of_ble_eq_true rfl, Nat.le_of_ble_eq_true rfl⟩) ⟨qPrT.blind, qPrT.at⟩ rfl rfl hl.1 rfl (lv_room (Nat.le_of_ble_eq_true rfl)) dX8_leave_28 ⟨Nat.zero_le _, Nat.zero_le _⟩) (fun v3 h => ?_)
    exact W.iret hx hb hr (fun t ht _ => ⟨⟨_, _, rfl, qOk2.s h, qHpt ht hH.1⟩, hH.2.F ht⟩) hH.2.2.2 dX8_leave_31
  · have h := qOk.t hc h
    refine lv_iconst (v := (-1)) hx hb dX8_leave_8 (by decide) ?_
    exact W.iret hx hb hr (fun t ht _ => ⟨⟨_, _, rfl, qOk2.s h, qHpt ht hH.1⟩, hH.2.F ht⟩) hH.2.2.2 dX8_leave_9
