abbrev rm_X7_isGallery : Room := { frames := 0, cells := 0, slots := 0, locals := 0 }
set_option maxHeartbeats 4000000 in
set_option maxRecDepth 100000 in
theorem c_X7_isGallery (l : Launch) (x0 : Int32) {P : Int32 → Prop} (h : qOk (kX7_isGallery x0) P) : Met l yX7_isGallery wsX7_isGallery rm_X7_isGallery (va_Pc [.int x0] (fun _ => True)) (vp_Si P) 0 0 (fun _ => False) := by
  refine Met.ofW (cc := cX7_isGallery) (maxL := 1) (ret := (some .boolean)) (by decide) rfl ?_
  intro p e s m args below meth c s₁ B hml hv
  obtain ⟨rfl, -⟩ := hv
  have hx := B.exec
  have hb := B.bytes
  have hr := B.returns
  have hts := atoms_spec (ws := wsX7_isGallery) B.pre
  have hown : s.vm.findClass RX7 = some m.cls := findClass_of_methodNamed B.named
  have hlocks := B.notSynchronized
  have hl := lv_entry ([.int x0]) (n := 1) (Nat.le_of_ble_eq_true rfl)
  rw [lg_entry_eq]
  generalize (lg_sl ([.int x0]) ++ List.replicate (1 - (lg_sl ([.int x0])).length) Slot.unset).toArray = ls at hl ⊢
  have hl : lv_has ls 1 [(0, .int x0)] := hl
  have h : qOk (kX7_isGallery x0) _ := h
  unfold kX7_isGallery at h
  refine lv_iload_n hx hb dX7_isGallery_0 rfl (lv_at hl 0 rfl) ?_
  refine qj1 (G := fun (v1 : Int32) => W p l e (headSpec wsX7_isGallery rm_X7_isGallery).room s m [.int x0].toArray below meth c s.heap [] 0 0 (MQ below (vp_Si P) [.int x0].toArray s 0 0 (fun _ => False)) (F0 m 15 ls [.int v1])) h ?_ ?_
  rotate_left
  · intro h
    refine lv_if_lt (tgt := 14) hx hb dX7_isGallery_1 (by decide) (fun hc => ?_) (fun hc => ?_)
    · have h := qOk.t hc h
      refine lv_iconst (v := 0) hx hb dX7_isGallery_14 (by decide) ?_
      have h := qOk.s h
      exact h
    · have h := qOk.f hc h
      refine lv_iload_n hx hb dX7_isGallery_4 rfl (lv_at hl 0 rfl) ?_
      refine lv_bipush (v := 10) hx hb dX7_isGallery_5 (by decide) ?_
      refine lv_icmp_ge (tgt := 14) hx hb dX7_isGallery_7 (by decide) (fun hc => ?_) (fun hc => ?_)
      · have h := qOk.t hc h
        refine lv_iconst (v := 0) hx hb dX7_isGallery_14 (by decide) ?_
        have h := qOk.s h
        exact h
      · have h := qOk.f hc h
        refine lv_iconst (v := 1) hx hb dX7_isGallery_10 (by decide) ?_
        refine lv_goto (tgt := 15) hx hb dX7_isGallery_11 (by decide) ?_
        have h := qOk.s h
        exact h
  intro v1 h
  obtain ⟨hbn, h⟩ := qOk.bl h
  exact W.zret hx hb hr (qnarb hbn) (fun t ht _ => ⟨_, rfl, qOk.s h, ht⟩) (fun _ hq => by cases hq) dX7_isGallery_15
abbrev rm_X7_passage : Room := { frames := 2, cells := 0, slots := 0, locals := 42 }
set_option maxHeartbeats 4000000 in
set_option maxRecDepth 100000 in
theorem c_X7_passage (l : Launch) (G : qG) (ad : Nat → Nat) (hI : qI W1N ad) (M : qM) (sz : Nat) (x1 : Int32) (x2 : Int32) (x3 : Int32) {P : Int32 → qM → Prop} (h : qOk2 (kX7_passage M x1 x2 x3) P) : Met l yX7_passage wsX7_passage rm_X7_passage (va_Pc [.ref (ad 0), .int x1, .int x2, .int x3] (qPre W1N e1 G ad M sz)) (va_Qi P (fun u t => qHp W1N e1 G ad u t.heap) (qA W1N ad sz)) 0 0 (qA W1N ad sz) := by
  refine Met.ofW (cc := cX7_passage) (maxL := 4) (ret := (some .int)) (by decide) rfl ?_
  intro p e s m args below meth c s₁ B hml hv
  obtain ⟨rfl, hsz, hK, hP⟩ := hv
  subst hsz
  have hx := B.exec
  have hb := B.bytes
  have hr := B.returns
  have hts := atoms_spec (ws := wsX7_passage) B.pre
  have hown : s.vm.findClass RX7 = some m.cls := findClass_of_methodNamed B.named
  have hlocks := B.notSynchronized
  have hH : qHS W1N e1 G ad M s.heap s.heap [] := ⟨hP, va_S.rf⟩
  have f10 : (Cond.fieldLink RX7 10 "SongLamps" "now" "LSongLamps$Mine;").before [.ref (ad 0), .int x1, .int x2, .int x3].toArray s = true := hts _ (by decide +kernel)
  have i_X7 : ∀ w ∈ wsX70, w ∈ wsX7_passage := fun w hw => List.mem_cons_of_mem _ ((List.mem_append_left _ (List.mem_append_right _ hw)))
  have hl := lv_entry ([.ref (ad 0), .int x1, .int x2, .int x3]) (n := 4) (Nat.le_of_ble_eq_true rfl)
  rw [lg_entry_eq]
  generalize (lg_sl ([.ref (ad 0), .int x1, .int x2, .int x3]) ++ List.replicate (4 - (lg_sl ([.ref (ad 0), .int x1, .int x2, .int x3])).length) Slot.unset).toArray = ls at hl ⊢
  have hl : lv_has ls 4 [(0, .ref (ad 0)), (1, .int x1), (2, .int x2), (3, .int x3)] := hl
  have h : qOk (kX7_passage M x1 x2 x3) _ := h
  unfold kX7_passage at h
  refine lv_iload_n hx hb dX7_passage_0 rfl (lv_at hl 1 rfl) ?_
  refine y_cs (va_runS (As := [.int x1]) (rest := []) ⟨hx, hb, hml, hown, hts⟩ (c_X7_isGallery l x1 (qOk.b1 h)) (va_cwS 1 hts gX7_passage_X7_isGallery rfl rfl rfl (by decide +kernel) ⟨Nat.le_of_ble_eq_true rfl, Nat.le_of_ble_eq_true rfl⟩) ⟨qPrT.blind, qPrT.at⟩ rfl rfl hl.1 rfl (lv_room (Nat.le_of_ble_eq_true rfl)) dX7_passage_1 ⟨Nat.zero_le _, Nat.zero_le _⟩) (fun v1 h => ?_)
  refine lv_if_eq (tgt := 19) hx hb dX7_passage_4 (by decide) (fun hc => ?_) (fun hc => ?_)
  · have h := qOk.t hc h
    refine lv_iconst (v := (-1)) hx hb dX7_passage_19 (by decide) ?_
    exact W.iret hx hb hr (fun t ht _ => ⟨⟨_, _, rfl, qOk2.s h, qHpt ht hH.1⟩, hH.2.F ht⟩) hH.2.2.2 dX7_passage_20
  · have h := qOk.f hc h
    refine lv_iload_n hx hb dX7_passage_7 rfl (lv_at hl 2 rfl) ?_
    refine y_cs (va_runS (As := [.int x2]) (rest := []) ⟨hx, hb, hml, hown, hts⟩ (c_X7_isGallery l x2 (qOk.b1 h)) (va_cwS 1 hts gX7_passage_X7_isGallery rfl rfl rfl (by decide +kernel) ⟨Nat.le_of_ble_eq_true rfl, Nat.le_of_ble_eq_true rfl⟩) ⟨qPrT.blind, qPrT.at⟩ rfl rfl hl.1 rfl (lv_room (Nat.le_of_ble_eq_true rfl)) dX7_passage_8 ⟨Nat.zero_le _, Nat.zero_le _⟩) (fun v2 h => ?_)
    refine lv_if_eq (tgt := 19) hx hb dX7_passage_11 (by decide) (fun hc => ?_) (fun hc => ?_)
    · have h := qOk.t hc h
      refine lv_iconst (v := (-1)) hx hb dX7_passage_19 (by decide) ?_
      exact W.iret hx hb hr (fun t ht _ => ⟨⟨_, _, rfl, qOk2.s h, qHpt ht hH.1⟩, hH.2.F ht⟩) hH.2.2.2 dX7_passage_20
    · have h := qOk.f hc h
      refine lv_iload_n hx hb dX7_passage_14 rfl (lv_at hl 1 rfl) ?_
      refine lv_iload_n hx hb dX7_passage_15 rfl (lv_at hl 2 rfl) ?_
      refine lv_icmp_ne (tgt := 21) hx hb dX7_passage_16 (by decide) (fun hc => ?_) (fun hc => ?_)
      · have h := qOk.f hc h
        refine lv_aload_n hx hb dX7_passage_21 rfl (lv_at hl 0 rfl) ?_
        refine y_get hx hb hts i_X7 hown hK hH qOb_7 rfl 0 (by decide) f10 rfl dX7_passage_22 ?_
        refine lv_iload_n hx hb dX7_passage_25 rfl (lv_at hl 1 rfl) ?_
        refine lv_iload_n hx hb dX7_passage_26 rfl (lv_at hl 2 rfl) ?_
        refine lv_iload_n hx hb dX7_passage_27 rfl (lv_at hl 3 rfl) ?_
        refine y_cv hH (va_runV (As := [.int x1, .int x2, .int x3]) (rest := []) ⟨hx, hb, hml, hown, hts⟩ (c_X1_setPassage l G ad hI M _ qMi_1 x1 x2 x3 (qOk.b1 h)) (cwV 3 hts gX7_passage_X1_setPassage rfl rfl rfl (by decide +kernel) ⟨Nat.le_of_ble_eq_true rfl, Nat.le_of_ble_eq_true rfl⟩) ⟨qPre.blind, qrecv hK hH (qMi_ob qMi_1) rfl, qPre.at hK hH⟩ rfl rfl hl.1 rfl (lv_room (Nat.le_of_ble_eq_true rfl)) dX7_passage_28 ⟨Nat.zero_le _, Nat.zero_le _⟩) (fun M3 H locs hH h => ?_)
        refine lv_aload_n hx hb dX7_passage_31 rfl (lv_at hl 0 rfl) ?_
        refine y_get hx hb hts i_X7 hown hK hH qOb_7 rfl 0 (by decide) f10 rfl dX7_passage_32 ?_
        refine y_cs (va_runV (As := []) (rest := []) ⟨hx, hb, hml, hown, hts⟩ (c_X1_passageCount l G ad hI M3 _ qMi_1 (qOk.b1 h)) (cwV 0 hts gX7_passage_X1_passageCount rfl rfl rfl (by decide +kernel) ⟨Nat.le_of_ble_eq_true rfl, Nat.le_of_ble_eq_true rfl⟩) ⟨qPre.blind, qrecv hK hH (qMi_ob qMi_1) rfl, qPre.at hK hH⟩ rfl rfl hl.1 rfl (lv_room (Nat.le_of_ble_eq_true rfl)) dX7_passage_35 ⟨Nat.zero_le _, Nat.zero_le _⟩) (fun v4 h => ?_)
        exact W.iret hx hb hr (fun t ht _ => ⟨⟨_, _, rfl, qOk2.s h, qHpt ht hH.1⟩, hH.2.F ht⟩) hH.2.2.2 dX7_passage_38
      · have h := qOk.t hc h
        refine lv_iconst (v := (-1)) hx hb dX7_passage_19 (by decide) ?_
        exact W.iret hx hb hr (fun t ht _ => ⟨⟨_, _, rfl, qOk2.s h, qHpt ht hH.1⟩, hH.2.F ht⟩) hH.2.2.2 dX7_passage_20
abbrev rm_X7_gallery : Room := { frames := 1, cells := 0, slots := 0, locals := 20 }
set_option maxHeartbeats 4000000 in
set_option maxRecDepth 100000 in
theorem c_X7_gallery (l : Launch) (G : qG) (ad : Nat → Nat) (hI : qI W1N ad) (M : qM) (sz : Nat) (x1 : Int32) (x2 : Int32) (x3 : Int32) {P : Int32 → qM → Prop} (h : qOk2 (kX7_gallery M x1 x2 x3) P) : Met l yX7_gallery wsX7_gallery rm_X7_gallery (va_Pc [.ref (ad 0), .int x1, .int x2, .int x3] (qPre W1N e1 G ad M sz)) (va_Qi P (fun u t => qHp W1N e1 G ad u t.heap) (qA W1N ad sz)) 0 0 (qA W1N ad sz) := by
  refine Met.ofW (cc := cX7_gallery) (maxL := 5) (ret := (some .int)) (by decide) rfl ?_
  intro p e s m args below meth c s₁ B hml hv
  obtain ⟨rfl, hsz, hK, hP⟩ := hv
  subst hsz
  have hx := B.exec
  have hb := B.bytes
  have hr := B.returns
  have hts := atoms_spec (ws := wsX7_gallery) B.pre
  have hown : s.vm.findClass RX7 = some m.cls := findClass_of_methodNamed B.named
  have hlocks := B.notSynchronized
  have hH : qHS W1N e1 G ad M s.heap s.heap [] := ⟨hP, va_S.rf⟩
  have f10 : (Cond.fieldLink RX7 10 "SongLamps" "now" "LSongLamps$Mine;").before [.ref (ad 0), .int x1, .int x2, .int x3].toArray s = true := hts _ (by decide +kernel)
  have i_X7 : ∀ w ∈ wsX70, w ∈ wsX7_gallery := fun w hw => List.mem_cons_of_mem _ ((List.mem_append_left _ (List.mem_append_right _ hw)))
  have f78 : (Cond.fieldLink RX7 78 "SongLamps$Mine" "echo" "[I").before [.ref (ad 0), .int x1, .int x2, .int x3].toArray s = true := hts _ (by decide +kernel)
  have i_X1 : ∀ w ∈ wsX10, w ∈ wsX7_gallery := fun w hw => List.mem_cons_of_mem _ ((List.mem_append_right _ hw))
  have f82 : (Cond.fieldLink RX7 82 "SongLamps$Mine" "gas" "I").before [.ref (ad 0), .int x1, .int x2, .int x3].toArray s = true := hts _ (by decide +kernel)
  have hl := lv_entry ([.ref (ad 0), .int x1, .int x2, .int x3]) (n := 5) (Nat.le_of_ble_eq_true rfl)
  rw [lg_entry_eq]
  generalize (lg_sl ([.ref (ad 0), .int x1, .int x2, .int x3]) ++ List.replicate (5 - (lg_sl ([.ref (ad 0), .int x1, .int x2, .int x3])).length) Slot.unset).toArray = ls at hl ⊢
  have hl : lv_has ls 5 [(0, .ref (ad 0)), (1, .int x1), (2, .int x2), (3, .int x3)] := hl
  have h : qOk (kX7_gallery M x1 x2 x3) _ := h
  unfold kX7_gallery at h
  refine lv_iload_n hx hb dX7_gallery_0 rfl (lv_at hl 1 rfl) ?_
  refine y_cs (va_runS (As := [.int x1]) (rest := []) ⟨hx, hb, hml, hown, hts⟩ (c_X7_isGallery l x1 (qOk.b1 h)) (va_cwS 1 hts gX7_gallery_X7_isGallery rfl rfl rfl (by decide +kernel) ⟨Nat.le_of_ble_eq_true rfl, Nat.le_of_ble_eq_true rfl⟩) ⟨qPrT.blind, qPrT.at⟩ rfl rfl hl.1 rfl (lv_room (Nat.le_of_ble_eq_true rfl)) dX7_gallery_1 ⟨Nat.zero_le _, Nat.zero_le _⟩) (fun v1 h => ?_)
  refine lv_if_eq (tgt := 14) hx hb dX7_gallery_4 (by decide) (fun hc => ?_) (fun hc => ?_)
  · have h := qOk.t hc h
    refine lv_iconst (v := (-1)) hx hb dX7_gallery_14 (by decide) ?_
    exact W.iret hx hb hr (fun t ht _ => ⟨⟨_, _, rfl, qOk2.s h, qHpt ht hH.1⟩, hH.2.F ht⟩) hH.2.2.2 dX7_gallery_15
  · have h := qOk.f hc h
    refine lv_iload_n hx hb dX7_gallery_7 rfl (lv_at hl 2 rfl) ?_
    refine y_cs (va_runS (As := [.int x2]) (rest := []) ⟨hx, hb, hml, hown, hts⟩ (c_X7_isGallery l x2 (qOk.b1 h)) (va_cwS 1 hts gX7_gallery_X7_isGallery rfl rfl rfl (by decide +kernel) ⟨Nat.le_of_ble_eq_true rfl, Nat.le_of_ble_eq_true rfl⟩) ⟨qPrT.blind, qPrT.at⟩ rfl rfl hl.1 rfl (lv_room (Nat.le_of_ble_eq_true rfl)) dX7_gallery_8 ⟨Nat.zero_le _, Nat.zero_le _⟩) (fun v2 h => ?_)
    refine lv_if_ne (tgt := 16) hx hb dX7_gallery_11 (by decide) (fun hc => ?_) (fun hc => ?_)
    · have h := qOk.f hc h
      refine lv_aload_n hx hb dX7_gallery_16 rfl (lv_at hl 0 rfl) ?_
      refine y_get hx hb hts i_X7 hown hK hH qOb_7 rfl 0 (by decide) f10 rfl dX7_gallery_17 ?_
      refine y_get hx hb hts i_X1 hown hK hH (qMi_ob qMi_1) rfl 1 (by decide) f78 rfl dX7_gallery_20 ?_
      refine lv_iload_n hx hb dX7_gallery_23 rfl (lv_at hl 1 rfl) ?_
      refine y_iald hx hb hK hH (qMi_a2 qMi_1) h dX7_gallery_24 (fun v3 h => ?_)
      refine lv_istore (lv' := [(4, .int v3), (0, .ref (ad 0)), (1, .int x1), (2, .int x2), (3, .int x3)]) hx hb dX7_gallery_25 hl (by decide) rfl (fun ls hl => ?_)
      refine lv_aload_n hx hb dX7_gallery_27 rfl (lv_at hl 1 rfl) ?_
      refine y_get hx hb hts i_X7 hown hK hH qOb_7 rfl 0 (by decide) f10 rfl dX7_gallery_28 ?_
      refine y_get hx hb hts i_X1 hown hK hH (qMi_ob qMi_1) rfl 1 (by decide) f78 rfl dX7_gallery_31 ?_
      refine lv_iload_n hx hb dX7_gallery_34 rfl (lv_at hl 2 rfl) ?_
      refine lv_iload_n hx hb dX7_gallery_35 rfl (lv_at hl 3 rfl) ?_
      refine y_iast hx hb hK hI hH (qMi_a2 qMi_1) h dX7_gallery_36 (fun M4 H locs hH h => ?_)
      refine lv_aload_n hx hb dX7_gallery_37 rfl (lv_at hl 1 rfl) ?_
      refine y_get hx hb hts i_X7 hown hK hH qOb_7 rfl 0 (by decide) f10 rfl dX7_gallery_38 ?_
      refine lv_iload_n hx hb dX7_gallery_41 rfl (lv_at hl 4 rfl) ?_
      refine qj1 (G := fun (v5 : Int32) => W p l e (headSpec wsX7_gallery rm_X7_gallery).room s m [.ref (ad 0), .int x1, .int x2, .int x3].toArray below meth c H locs 0 0 (MQ below (va_Qi P (fun u t => qHp W1N e1 G ad u t.heap) (qA W1N ad s.heap.size)) [.ref (ad 0), .int x1, .int x2, .int x3].toArray s 0 0 (qA W1N ad s.heap.size)) (F0 m 72 ls [.int v5, .ref (ad 1)])) h ?_ ?_
      rotate_left
      · intro h
        refine lv_if_eq (tgt := 59) hx hb dX7_gallery_42 (by decide) (fun hc => ?_) (fun hc => ?_)
        · have h := qOk.t hc h
          refine lv_aload_n hx hb dX7_gallery_59 rfl (lv_at hl 1 rfl) ?_
          refine y_get hx hb hts i_X7 hown hK hH qOb_7 rfl 0 (by decide) f10 rfl dX7_gallery_60 ?_
          refine y_get hx hb hts i_X1 hown hK hH (qMi_ob qMi_1) rfl 3 (by decide) f82 rfl dX7_gallery_63 ?_
          refine lv_iconst (v := 1) hx hb dX7_gallery_66 (by decide) ?_
          refine lv_iload_n hx hb dX7_gallery_67 rfl (lv_at hl 2 rfl) ?_
          refine lv_ishl hx hb dX7_gallery_68 ?_
          refine lv_iconst (v := (-1)) hx hb dX7_gallery_69 (by decide) ?_
          refine lv_ixor hx hb dX7_gallery_70 ?_
          refine lv_iand hx hb dX7_gallery_71 ?_
          have h := qOk.s h
          exact h
        · have h := qOk.f hc h
          refine lv_aload_n hx hb dX7_gallery_45 rfl (lv_at hl 1 rfl) ?_
          refine y_get hx hb hts i_X7 hown hK hH qOb_7 rfl 0 (by decide) f10 rfl dX7_gallery_46 ?_
          refine y_get hx hb hts i_X1 hown hK hH (qMi_ob qMi_1) rfl 3 (by decide) f82 rfl dX7_gallery_49 ?_
          refine lv_iconst (v := 1) hx hb dX7_gallery_52 (by decide) ?_
          refine lv_iload_n hx hb dX7_gallery_53 rfl (lv_at hl 2 rfl) ?_
          refine lv_ishl hx hb dX7_gallery_54 ?_
          refine lv_ior hx hb dX7_gallery_55 ?_
          refine lv_goto (tgt := 72) hx hb dX7_gallery_56 (by decide) ?_
          have h := qOk.s h
          exact h
      intro v5 h
      refine y_put hx hb hts i_X1 tyX1 tyX1_ok nmX1 hown hK hI hH (qMi_ob qMi_1) rfl 3 (by decide) f82 rfl (by decide +kernel) (Nat.le_of_ble_eq_true rfl) (fun _ => rfl) h dX7_gallery_72 (fun M6 H locs hH h => ?_)
      refine lv_iload hx hb dX7_gallery_75 (lv_at hl 0 rfl) ?_
      exact W.iret hx hb hr (fun t ht _ => ⟨⟨_, _, rfl, qOk2.s h, qHpt ht hH.1⟩, hH.2.F ht⟩) hH.2.2.2 dX7_gallery_77
    · have h := qOk.t hc h
      refine lv_iconst (v := (-1)) hx hb dX7_gallery_14 (by decide) ?_
      exact W.iret hx hb hr (fun t ht _ => ⟨⟨_, _, rfl, qOk2.s h, qHpt ht hH.1⟩, hH.2.F ht⟩) hH.2.2.2 dX7_gallery_15
abbrev rm_X7_voice : Room := { frames := 1, cells := 0, slots := 0, locals := 20 }
set_option maxHeartbeats 4000000 in
set_option maxRecDepth 100000 in
theorem c_X7_voice (l : Launch) (G : qG) (ad : Nat → Nat) (hI : qI W1N ad) (M : qM) (sz : Nat) (x1 : Int32) (x2 : Int32) (x3 : Int32) (x4 : Int32) (x5 : Int32) {P : Int32 → qM → Prop} (h : qOk2 (kX7_voice M x1 x2 x3 x4 x5) P) : Met l yX7_voice wsX7_voice rm_X7_voice (va_Pc [.ref (ad 0), .int x1, .int x2, .int x3, .int x4, .int x5] (qPre W1N e1 G ad M sz)) (va_Qi P (fun u t => qHp W1N e1 G ad u t.heap) (qA W1N ad sz)) 0 0 (qA W1N ad sz) := by
  refine Met.ofW (cc := cX7_voice) (maxL := 6) (ret := (some .int)) (by decide) rfl ?_
  intro p e s m args below meth c s₁ B hml hv
  obtain ⟨rfl, hsz, hK, hP⟩ := hv
  subst hsz
  have hx := B.exec
  have hb := B.bytes
  have hr := B.returns
  have hts := atoms_spec (ws := wsX7_voice) B.pre
  have hown : s.vm.findClass RX7 = some m.cls := findClass_of_methodNamed B.named
  have hlocks := B.notSynchronized
  have hH : qHS W1N e1 G ad M s.heap s.heap [] := ⟨hP, va_S.rf⟩
  have f10 : (Cond.fieldLink RX7 10 "SongLamps" "now" "LSongLamps$Mine;").before [.ref (ad 0), .int x1, .int x2, .int x3, .int x4, .int x5].toArray s = true := hts _ (by decide +kernel)
  have i_X7 : ∀ w ∈ wsX70, w ∈ wsX7_voice := fun w hw => List.mem_cons_of_mem _ ((List.mem_append_left _ (List.mem_append_right _ hw)))
  have f89 : (Cond.fieldLink RX7 89 "SongLamps$Mine" "there" "I").before [.ref (ad 0), .int x1, .int x2, .int x3, .int x4, .int x5].toArray s = true := hts _ (by decide +kernel)
  have i_X1 : ∀ w ∈ wsX10, w ∈ wsX7_voice := fun w hw => List.mem_cons_of_mem _ ((List.mem_append_right _ hw))
  have f92 : (Cond.fieldLink RX7 92 "SongLamps$Mine" "low" "[I").before [.ref (ad 0), .int x1, .int x2, .int x3, .int x4, .int x5].toArray s = true := hts _ (by decide +kernel)
  have f95 : (Cond.fieldLink RX7 95 "SongLamps$Mine" "high" "[I").before [.ref (ad 0), .int x1, .int x2, .int x3, .int x4, .int x5].toArray s = true := hts _ (by decide +kernel)
  have f98 : (Cond.fieldLink RX7 98 "SongLamps$Mine" "lungs" "[I").before [.ref (ad 0), .int x1, .int x2, .int x3, .int x4, .int x5].toArray s = true := hts _ (by decide +kernel)
  have f101 : (Cond.fieldLink RX7 101 "SongLamps$Mine" "breath" "[I").before [.ref (ad 0), .int x1, .int x2, .int x3, .int x4, .int x5].toArray s = true := hts _ (by decide +kernel)
  have f104 : (Cond.fieldLink RX7 104 "SongLamps$Mine" "place" "[I").before [.ref (ad 0), .int x1, .int x2, .int x3, .int x4, .int x5].toArray s = true := hts _ (by decide +kernel)
  have f107 : (Cond.fieldLink RX7 107 "SongLamps$Mine" "note" "[I").before [.ref (ad 0), .int x1, .int x2, .int x3, .int x4, .int x5].toArray s = true := hts _ (by decide +kernel)
  have hl := lv_entry ([.ref (ad 0), .int x1, .int x2, .int x3, .int x4, .int x5]) (n := 6) (Nat.le_of_ble_eq_true rfl)
  rw [lg_entry_eq]
  generalize (lg_sl ([.ref (ad 0), .int x1, .int x2, .int x3, .int x4, .int x5]) ++ List.replicate (6 - (lg_sl ([.ref (ad 0), .int x1, .int x2, .int x3, .int x4, .int x5])).length) Slot.unset).toArray = ls at hl ⊢
  have hl : lv_has ls 6 [(0, .ref (ad 0)), (1, .int x1), (2, .int x2), (3, .int x3), (4, .int x4), (5, .int x5)] := hl
  have h : qOk (kX7_voice M x1 x2 x3 x4 x5) _ := h
  unfold kX7_voice at h
  refine lv_iload_n hx hb dX7_voice_0 rfl (lv_at hl 1 rfl) ?_
  refine y_cs (va_runS (As := [.int x1]) (rest := []) ⟨hx, hb, hml, hown, hts⟩ (c_X7_isVoice l x1 (qOk.b1 h)) (va_cwS 1 hts gX7_voice_X7_isVoice rfl rfl rfl (by decide +kernel) ⟨Nat.le_of_ble_eq_true rfl, Nat.le_of_ble_eq_true rfl⟩) ⟨qPrT.blind, qPrT.at⟩ rfl rfl hl.1 rfl (lv_room (Nat.le_of_ble_eq_true rfl)) dX7_voice_1 ⟨Nat.zero_le _, Nat.zero_le _⟩) (fun v1 h => ?_)
  refine lv_if_eq (tgt := 15) hx hb dX7_voice_4 (by decide) (fun hc => ?_) (fun hc => ?_)
  · have h := qOk.t hc h
    refine lv_iconst (v := (-1)) hx hb dX7_voice_15 (by decide) ?_
    exact W.iret hx hb hr (fun t ht _ => ⟨⟨_, _, rfl, qOk2.s h, qHpt ht hH.1⟩, hH.2.F ht⟩) hH.2.2.2 dX7_voice_16
  · have h := qOk.f hc h
    refine lv_iload hx hb dX7_voice_7 (lv_at hl 5 rfl) ?_
    refine y_cs (va_runS (As := [.int x5]) (rest := []) ⟨hx, hb, hml, hown, hts⟩ (c_X7_isGallery l x5 (qOk.b1 h)) (va_cwS 1 hts gX7_voice_X7_isGallery rfl rfl rfl (by decide +kernel) ⟨Nat.le_of_ble_eq_true rfl, Nat.le_of_ble_eq_true rfl⟩) ⟨qPrT.blind, qPrT.at⟩ rfl rfl hl.1 rfl (lv_room (Nat.le_of_ble_eq_true rfl)) dX7_voice_9 ⟨Nat.zero_le _, Nat.zero_le _⟩) (fun v2 h => ?_)
    refine lv_if_ne (tgt := 17) hx hb dX7_voice_12 (by decide) (fun hc => ?_) (fun hc => ?_)
    · have h := qOk.f hc h
      refine lv_iload_n hx hb dX7_voice_17 rfl (lv_at hl 2 rfl) ?_
      refine lv_if_lt (tgt := 44) hx hb dX7_voice_18 (by decide) (fun hc => ?_) (fun hc => ?_)
      · have h := qOk.t hc h
        refine lv_bipush (v := (-2)) hx hb dX7_voice_44 (by decide) ?_
        exact W.iret hx hb hr (fun t ht _ => ⟨⟨_, _, rfl, qOk2.s h, qHpt ht hH.1⟩, hH.2.F ht⟩) hH.2.2.2 dX7_voice_46
      · have h := qOk.f hc h
        refine lv_iload_n hx hb dX7_voice_21 rfl (lv_at hl 3 rfl) ?_
        refine lv_bipush (v := 24) hx hb dX7_voice_22 (by decide) ?_
        refine lv_icmp_ge (tgt := 44) hx hb dX7_voice_24 (by decide) (fun hc => ?_) (fun hc => ?_)
        · have h := qOk.t hc h
          refine lv_bipush (v := (-2)) hx hb dX7_voice_44 (by decide) ?_
          exact W.iret hx hb hr (fun t ht _ => ⟨⟨_, _, rfl, qOk2.s h, qHpt ht hH.1⟩, hH.2.F ht⟩) hH.2.2.2 dX7_voice_46
        · have h := qOk.f hc h
          refine lv_iload_n hx hb dX7_voice_27 rfl (lv_at hl 2 rfl) ?_
          refine lv_iload_n hx hb dX7_voice_28 rfl (lv_at hl 3 rfl) ?_
          refine lv_icmp_gt (tgt := 44) hx hb dX7_voice_29 (by decide) (fun hc => ?_) (fun hc => ?_)
          · have h := qOk.t hc h
            refine lv_bipush (v := (-2)) hx hb dX7_voice_44 (by decide) ?_
            exact W.iret hx hb hr (fun t ht _ => ⟨⟨_, _, rfl, qOk2.s h, qHpt ht hH.1⟩, hH.2.F ht⟩) hH.2.2.2 dX7_voice_46
          · have h := qOk.f hc h
            refine lv_iload hx hb dX7_voice_32 (lv_at hl 4 rfl) ?_
            refine lv_if_lt (tgt := 44) hx hb dX7_voice_34 (by decide) (fun hc => ?_) (fun hc => ?_)
            · have h := qOk.t hc h
              refine lv_bipush (v := (-2)) hx hb dX7_voice_44 (by decide) ?_
              exact W.iret hx hb hr (fun t ht _ => ⟨⟨_, _, rfl, qOk2.s h, qHpt ht hH.1⟩, hH.2.F ht⟩) hH.2.2.2 dX7_voice_46
            · have h := qOk.f hc h
              refine lv_iload hx hb dX7_voice_37 (lv_at hl 4 rfl) ?_
              refine lv_bipush (v := 99) hx hb dX7_voice_39 (by decide) ?_
              refine lv_icmp_le (tgt := 47) hx hb dX7_voice_41 (by decide) (fun hc => ?_) (fun hc => ?_)
              · have h := qOk.t hc h
                refine lv_aload_n hx hb dX7_voice_47 rfl (lv_at hl 0 rfl) ?_
                refine y_get hx hb hts i_X7 hown hK hH qOb_7 rfl 0 (by decide) f10 rfl dX7_voice_48 ?_
                refine lv_dup hx hb dX7_voice_51 rfl ?_
                refine y_get hx hb hts i_X1 hown hK hH (qMi_ob qMi_1) rfl 5 (by decide) f89 rfl dX7_voice_52 ?_
                refine lv_iconst (v := 1) hx hb dX7_voice_55 (by decide) ?_
                refine lv_iload_n hx hb dX7_voice_56 rfl (lv_at hl 1 rfl) ?_
                refine lv_ishl hx hb dX7_voice_57 ?_
                refine lv_ior hx hb dX7_voice_58 ?_
                refine y_put hx hb hts i_X1 tyX1 tyX1_ok nmX1 hown hK hI hH (qMi_ob qMi_1) rfl 5 (by decide) f89 rfl (by decide +kernel) (Nat.le_of_ble_eq_true rfl) (fun _ => rfl) h dX7_voice_59 (fun M3 H locs hH h => ?_)
                refine lv_aload_n hx hb dX7_voice_62 rfl (lv_at hl 0 rfl) ?_
                refine y_get hx hb hts i_X7 hown hK hH qOb_7 rfl 0 (by decide) f10 rfl dX7_voice_63 ?_
                refine y_get hx hb hts i_X1 hown hK hH (qMi_ob qMi_1) rfl 8 (by decide) f92 rfl dX7_voice_66 ?_
                refine lv_iload_n hx hb dX7_voice_69 rfl (lv_at hl 1 rfl) ?_
                refine lv_iload_n hx hb dX7_voice_70 rfl (lv_at hl 2 rfl) ?_
                refine y_iast hx hb hK hI hH (qMi_a4 qMi_1) h dX7_voice_71 (fun M4 H locs hH h => ?_)
                refine lv_aload_n hx hb dX7_voice_72 rfl (lv_at hl 0 rfl) ?_
                refine y_get hx hb hts i_X7 hown hK hH qOb_7 rfl 0 (by decide) f10 rfl dX7_voice_73 ?_
                refine y_get hx hb hts i_X1 hown hK hH (qMi_ob qMi_1) rfl 9 (by decide) f95 rfl dX7_voice_76 ?_
                refine lv_iload_n hx hb dX7_voice_79 rfl (lv_at hl 1 rfl) ?_
                refine lv_iload_n hx hb dX7_voice_80 rfl (lv_at hl 3 rfl) ?_
                refine y_iast hx hb hK hI hH (qMi_a5 qMi_1) h dX7_voice_81 (fun M5 H locs hH h => ?_)
                refine lv_aload_n hx hb dX7_voice_82 rfl (lv_at hl 0 rfl) ?_
                refine y_get hx hb hts i_X7 hown hK hH qOb_7 rfl 0 (by decide) f10 rfl dX7_voice_83 ?_
                refine y_get hx hb hts i_X1 hown hK hH (qMi_ob qMi_1) rfl 10 (by decide) f98 rfl dX7_voice_86 ?_
                refine lv_iload_n hx hb dX7_voice_89 rfl (lv_at hl 1 rfl) ?_
                refine lv_iload hx hb dX7_voice_90 (lv_at hl 4 rfl) ?_
                refine y_iast hx hb hK hI hH (qMi_a6 qMi_1) h dX7_voice_92 (fun M6 H locs hH h => ?_)
                refine lv_aload_n hx hb dX7_voice_93 rfl (lv_at hl 0 rfl) ?_
                refine y_get hx hb hts i_X7 hown hK hH qOb_7 rfl 0 (by decide) f10 rfl dX7_voice_94 ?_
                refine y_get hx hb hts i_X1 hown hK hH (qMi_ob qMi_1) rfl 11 (by decide) f101 rfl dX7_voice_97 ?_
                refine lv_iload_n hx hb dX7_voice_100 rfl (lv_at hl 1 rfl) ?_
                refine lv_iload hx hb dX7_voice_101 (lv_at hl 4 rfl) ?_
                refine y_iast hx hb hK hI hH (qMi_a7 qMi_1) h dX7_voice_103 (fun M7 H locs hH h => ?_)
                refine lv_aload_n hx hb dX7_voice_104 rfl (lv_at hl 0 rfl) ?_
                refine y_get hx hb hts i_X7 hown hK hH qOb_7 rfl 0 (by decide) f10 rfl dX7_voice_105 ?_
                refine y_get hx hb hts i_X1 hown hK hH (qMi_ob qMi_1) rfl 12 (by decide) f104 rfl dX7_voice_108 ?_
                refine lv_iload_n hx hb dX7_voice_111 rfl (lv_at hl 1 rfl) ?_
                refine lv_iload hx hb dX7_voice_112 (lv_at hl 5 rfl) ?_
                refine y_iast hx hb hK hI hH (qMi_a8 qMi_1) h dX7_voice_114 (fun M8 H locs hH h => ?_)
                refine lv_aload_n hx hb dX7_voice_115 rfl (lv_at hl 0 rfl) ?_
                refine y_get hx hb hts i_X7 hown hK hH qOb_7 rfl 0 (by decide) f10 rfl dX7_voice_116 ?_
                refine y_get hx hb hts i_X1 hown hK hH (qMi_ob qMi_1) rfl 13 (by decide) f107 rfl dX7_voice_119 ?_
                refine lv_iload_n hx hb dX7_voice_122 rfl (lv_at hl 1 rfl) ?_
                refine lv_iconst (v := (-1)) hx hb dX7_voice_123 (by decide) ?_
                refine y_iast hx hb hK hI hH (qMi_a9 qMi_1) h dX7_voice_124 (fun M9 H locs hH h => ?_)
                refine lv_aload_n hx hb dX7_voice_125 rfl (lv_at hl 0 rfl) ?_
                refine y_get hx hb hts i_X7 hown hK hH qOb_7 rfl 0 (by decide) f10 rfl dX7_voice_126 ?_
                refine y_get hx hb hts i_X1 hown hK hH (qMi_ob qMi_1) rfl 5 (by decide) f89 rfl dX7_voice_129 ?_
                refine y_cs (va_runS (As := [.int (M9 1 5)]) (rest := []) ⟨hx, hb, hml, hown, hts⟩ (c_J6_bitCount_0f7a4 l (M9 1 5) (qOk.b1 h)) (va_cwS 1 hts gX7_voice_J6_bitCount_0f7a4 rfl rfl rfl (by decide +kernel) ⟨Nat.le_of_ble_eq_true rfl, Nat.le_of_ble_eq_true rfl⟩) ⟨qPrT.blind, qPrT.at⟩ rfl rfl hl.1 rfl (lv_room (Nat.le_of_ble_eq_true rfl)) dX7_voice_132 ⟨Nat.zero_le _, Nat.zero_le _⟩) (fun v10 h => ?_)
                exact W.iret hx hb hr (fun t ht _ => ⟨⟨_, _, rfl, qOk2.s h, qHpt ht hH.1⟩, hH.2.F ht⟩) hH.2.2.2 dX7_voice_135
              · have h := qOk.f hc h
                refine lv_bipush (v := (-2)) hx hb dX7_voice_44 (by decide) ?_
                exact W.iret hx hb hr (fun t ht _ => ⟨⟨_, _, rfl, qOk2.s h, qHpt ht hH.1⟩, hH.2.F ht⟩) hH.2.2.2 dX7_voice_46
    · have h := qOk.t hc h
      refine lv_iconst (v := (-1)) hx hb dX7_voice_15 (by decide) ?_
      exact W.iret hx hb hr (fun t ht _ => ⟨⟨_, _, rfl, qOk2.s h, qHpt ht hH.1⟩, hH.2.F ht⟩) hH.2.2.2 dX7_voice_16
abbrev rm_X7_breath : Room := { frames := 2, cells := 0, slots := 0, locals := 42 }
set_option maxHeartbeats 4000000 in
set_option maxRecDepth 100000 in
theorem c_X7_breath (l : Launch) (G : qG) (ad : Nat → Nat) (hI : qI W1N ad) (M : qM) (sz : Nat) (x1 : Int32) (x2 : Int32) {P : Int32 → qM → Prop} (h : qOk2 (kX7_breath M x1 x2) P) : Met l yX7_breath wsX7_breath rm_X7_breath (va_Pc [.ref (ad 0), .int x1, .int x2] (qPre W1N e1 G ad M sz)) (va_Qi P (fun u t => qHp W1N e1 G ad u t.heap) (qA W1N ad sz)) 0 0 (qA W1N ad sz) := by
  refine Met.ofW (cc := cX7_breath) (maxL := 4) (ret := (some .int)) (by decide) rfl ?_
  intro p e s m args below meth c s₁ B hml hv
  obtain ⟨rfl, hsz, hK, hP⟩ := hv
  subst hsz
  have hx := B.exec
  have hb := B.bytes
  have hr := B.returns
  have hts := atoms_spec (ws := wsX7_breath) B.pre
  have hown : s.vm.findClass RX7 = some m.cls := findClass_of_methodNamed B.named
  have hlocks := B.notSynchronized
  have hH : qHS W1N e1 G ad M s.heap s.heap [] := ⟨hP, va_S.rf⟩
  have f10 : (Cond.fieldLink RX7 10 "SongLamps" "now" "LSongLamps$Mine;").before [.ref (ad 0), .int x1, .int x2].toArray s = true := hts _ (by decide +kernel)
  have i_X7 : ∀ w ∈ wsX70, w ∈ wsX7_breath := fun w hw => List.mem_cons_of_mem _ ((List.mem_append_left _ (List.mem_append_right _ hw)))
  have f98 : (Cond.fieldLink RX7 98 "SongLamps$Mine" "lungs" "[I").before [.ref (ad 0), .int x1, .int x2].toArray s = true := hts _ (by decide +kernel)
  have i_X1 : ∀ w ∈ wsX10, w ∈ wsX7_breath := fun w hw => List.mem_cons_of_mem _ ((List.mem_append_right _ hw))
  have f101 : (Cond.fieldLink RX7 101 "SongLamps$Mine" "breath" "[I").before [.ref (ad 0), .int x1, .int x2].toArray s = true := hts _ (by decide +kernel)
  have f107 : (Cond.fieldLink RX7 107 "SongLamps$Mine" "note" "[I").before [.ref (ad 0), .int x1, .int x2].toArray s = true := hts _ (by decide +kernel)
  have hl := lv_entry ([.ref (ad 0), .int x1, .int x2]) (n := 4) (Nat.le_of_ble_eq_true rfl)
  rw [lg_entry_eq]
  generalize (lg_sl ([.ref (ad 0), .int x1, .int x2]) ++ List.replicate (4 - (lg_sl ([.ref (ad 0), .int x1, .int x2])).length) Slot.unset).toArray = ls at hl ⊢
  have hl : lv_has ls 4 [(0, .ref (ad 0)), (1, .int x1), (2, .int x2)] := hl
  have h : qOk (kX7_breath M x1 x2) _ := h
  unfold kX7_breath at h
  refine lv_aload_n hx hb dX7_breath_0 rfl (lv_at hl 0 rfl) ?_
  refine y_get hx hb hts i_X7 hown hK hH qOb_7 rfl 0 (by decide) f10 rfl dX7_breath_1 ?_
  refine lv_iload_n hx hb dX7_breath_4 rfl (lv_at hl 1 rfl) ?_
  refine y_cs (va_runV (As := [.int x1]) (rest := []) ⟨hx, hb, hml, hown, hts⟩ (c_X1_isThere l G ad hI M _ qMi_1 x1 (qOk.b1 h)) (cwV 1 hts gX7_breath_X1_isThere rfl rfl rfl (by decide +kernel) ⟨Nat.le_of_ble_eq_true rfl, Nat.le_of_ble_eq_true rfl⟩) ⟨qPre.blind, qrecv hK hH (qMi_ob qMi_1) rfl, qPre.at hK hH⟩ rfl rfl hl.1 rfl (lv_room (Nat.le_of_ble_eq_true rfl)) dX7_breath_5 ⟨Nat.zero_le _, Nat.zero_le _⟩) (fun v1 h => ?_)
  refine lv_if_ne (tgt := 13) hx hb dX7_breath_8 (by decide) (fun hc => ?_) (fun hc => ?_)
  · have h := qOk.f hc h
    refine lv_iload_n hx hb dX7_breath_13 rfl (lv_at hl 2 rfl) ?_
    refine lv_if_lt (tgt := 30) hx hb dX7_breath_14 (by decide) (fun hc => ?_) (fun hc => ?_)
    · have h := qOk.t hc h
      refine lv_bipush (v := (-2)) hx hb dX7_breath_30 (by decide) ?_
      exact W.iret hx hb hr (fun t ht _ => ⟨⟨_, _, rfl, qOk2.s h, qHpt ht hH.1⟩, hH.2.F ht⟩) hH.2.2.2 dX7_breath_32
    · have h := qOk.f hc h
      refine lv_iload_n hx hb dX7_breath_17 rfl (lv_at hl 2 rfl) ?_
      refine lv_aload_n hx hb dX7_breath_18 rfl (lv_at hl 0 rfl) ?_
      refine y_get hx hb hts i_X7 hown hK hH qOb_7 rfl 0 (by decide) f10 rfl dX7_breath_19 ?_
      refine y_get hx hb hts i_X1 hown hK hH (qMi_ob qMi_1) rfl 10 (by decide) f98 rfl dX7_breath_22 ?_
      refine lv_iload_n hx hb dX7_breath_25 rfl (lv_at hl 1 rfl) ?_
      refine y_iald hx hb hK hH (qMi_a6 qMi_1) h dX7_breath_26 (fun v2 h => ?_)
      refine lv_icmp_le (tgt := 33) hx hb dX7_breath_27 (by decide) (fun hc => ?_) (fun hc => ?_)
      · have h := qOk.t hc h
        refine lv_aload_n hx hb dX7_breath_33 rfl (lv_at hl 0 rfl) ?_
        refine y_get hx hb hts i_X7 hown hK hH qOb_7 rfl 0 (by decide) f10 rfl dX7_breath_34 ?_
        refine y_get hx hb hts i_X1 hown hK hH (qMi_ob qMi_1) rfl 11 (by decide) f101 rfl dX7_breath_37 ?_
        refine lv_iload_n hx hb dX7_breath_40 rfl (lv_at hl 1 rfl) ?_
        refine y_iald hx hb hK hH (qMi_a7 qMi_1) h dX7_breath_41 (fun v3 h => ?_)
        refine lv_istore_n (lv' := [(3, .int v3), (0, .ref (ad 0)), (1, .int x1), (2, .int x2)]) hx hb dX7_breath_42 rfl hl (by decide) rfl (fun ls hl => ?_)
        refine lv_aload_n hx hb dX7_breath_43 rfl (lv_at hl 1 rfl) ?_
        refine y_get hx hb hts i_X7 hown hK hH qOb_7 rfl 0 (by decide) f10 rfl dX7_breath_44 ?_
        refine y_get hx hb hts i_X1 hown hK hH (qMi_ob qMi_1) rfl 11 (by decide) f101 rfl dX7_breath_47 ?_
        refine lv_iload_n hx hb dX7_breath_50 rfl (lv_at hl 2 rfl) ?_
        refine lv_iload_n hx hb dX7_breath_51 rfl (lv_at hl 3 rfl) ?_
        refine y_iast hx hb hK hI hH (qMi_a7 qMi_1) h dX7_breath_52 (fun M4 H locs hH h => ?_)
        refine lv_iload_n hx hb dX7_breath_53 rfl (lv_at hl 3 rfl) ?_
        refine qj1 (G := fun (M5 : qM) => ∀ (H : Heap) (locs : List Loc), qHS W1N e1 G ad M5 s.heap H locs → W p l e (headSpec wsX7_breath rm_X7_breath).room s m [.ref (ad 0), .int x1, .int x2].toArray below meth c H locs 0 0 (MQ below (va_Qi P (fun u t => qHp W1N e1 G ad u t.heap) (qA W1N ad s.heap.size)) [.ref (ad 0), .int x1, .int x2].toArray s 0 0 (qA W1N ad s.heap.size)) (F0 m 67 ls [])) h ?_ ?_
        rotate_left
        · intro h
          refine lv_if_ne (tgt := 67) hx hb dX7_breath_54 (by decide) (fun hc => ?_) (fun hc => ?_)
          · have h := qOk.f hc h
            have h := qOk.s h
            exact h _ _ hH
          · have h := qOk.t hc h
            refine lv_aload_n hx hb dX7_breath_57 rfl (lv_at hl 1 rfl) ?_
            refine y_get hx hb hts i_X7 hown hK hH qOb_7 rfl 0 (by decide) f10 rfl dX7_breath_58 ?_
            refine y_get hx hb hts i_X1 hown hK hH (qMi_ob qMi_1) rfl 13 (by decide) f107 rfl dX7_breath_61 ?_
            refine lv_iload_n hx hb dX7_breath_64 rfl (lv_at hl 2 rfl) ?_
            refine lv_iconst (v := (-1)) hx hb dX7_breath_65 (by decide) ?_
            refine y_iast hx hb hK hI hH (qMi_a9 qMi_1) h dX7_breath_66 (fun M6 H locs hH h => ?_)
            have h := qOk.s h
            exact h _ _ hH
        intro M5 h H locs hH
        refine lv_iload_n hx hb dX7_breath_67 rfl (lv_at hl 0 rfl) ?_
        exact W.iret hx hb hr (fun t ht _ => ⟨⟨_, _, rfl, qOk2.s h, qHpt ht hH.1⟩, hH.2.F ht⟩) hH.2.2.2 dX7_breath_68
      · have h := qOk.f hc h
        refine lv_bipush (v := (-2)) hx hb dX7_breath_30 (by decide) ?_
        exact W.iret hx hb hr (fun t ht _ => ⟨⟨_, _, rfl, qOk2.s h, qHpt ht hH.1⟩, hH.2.F ht⟩) hH.2.2.2 dX7_breath_32
  · have h := qOk.t hc h
    refine lv_iconst (v := (-1)) hx hb dX7_breath_11 (by decide) ?_
    exact W.iret hx hb hr (fun t ht _ => ⟨⟨_, _, rfl, qOk2.s h, qHpt ht hH.1⟩, hH.2.F ht⟩) hH.2.2.2 dX7_breath_12
abbrev rm_X7_leave : Room := { frames := 2, cells := 0, slots := 0, locals := 42 }
set_option maxHeartbeats 4000000 in
set_option maxRecDepth 100000 in
theorem c_X7_leave (l : Launch) (G : qG) (ad : Nat → Nat) (hI : qI W1N ad) (M : qM) (sz : Nat) (x1 : Int32) {P : Int32 → qM → Prop} (h : qOk2 (kX7_leave M x1) P) : Met l yX7_leave wsX7_leave rm_X7_leave (va_Pc [.ref (ad 0), .int x1] (qPre W1N e1 G ad M sz)) (va_Qi P (fun u t => qHp W1N e1 G ad u t.heap) (qA W1N ad sz)) 0 0 (qA W1N ad sz) := by
  refine Met.ofW (cc := cX7_leave) (maxL := 2) (ret := (some .int)) (by decide) rfl ?_
  intro p e s m args below meth c s₁ B hml hv
  obtain ⟨rfl, hsz, hK, hP⟩ := hv
  subst hsz
  have hx := B.exec
  have hb := B.bytes
  have hr := B.returns
  have hts := atoms_spec (ws := wsX7_leave) B.pre
  have hown : s.vm.findClass RX7 = some m.cls := findClass_of_methodNamed B.named
  have hlocks := B.notSynchronized
  have hH : qHS W1N e1 G ad M s.heap s.heap [] := ⟨hP, va_S.rf⟩
  have f10 : (Cond.fieldLink RX7 10 "SongLamps" "now" "LSongLamps$Mine;").before [.ref (ad 0), .int x1].toArray s = true := hts _ (by decide +kernel)
  have i_X7 : ∀ w ∈ wsX70, w ∈ wsX7_leave := fun w hw => List.mem_cons_of_mem _ ((List.mem_append_left _ (List.mem_append_right _ hw)))
  have f89 : (Cond.fieldLink RX7 89 "SongLamps$Mine" "there" "I").before [.ref (ad 0), .int x1].toArray s = true := hts _ (by decide +kernel)
  have i_X1 : ∀ w ∈ wsX10, w ∈ wsX7_leave := fun w hw => List.mem_cons_of_mem _ ((List.mem_append_right _ hw))
  have f107 : (Cond.fieldLink RX7 107 "SongLamps$Mine" "note" "[I").before [.ref (ad 0), .int x1].toArray s = true := hts _ (by decide +kernel)
  have hl := lv_entry ([.ref (ad 0), .int x1]) (n := 2) (Nat.le_of_ble_eq_true rfl)
  rw [lg_entry_eq]
  generalize (lg_sl ([.ref (ad 0), .int x1]) ++ List.replicate (2 - (lg_sl ([.ref (ad 0), .int x1])).length) Slot.unset).toArray = ls at hl ⊢
  have hl : lv_has ls 2 [(0, .ref (ad 0)), (1, .int x1)] := hl
  have h : qOk (kX7_leave M x1) _ := h
  unfold kX7_leave at h
  refine lv_aload_n hx hb dX7_leave_0 rfl (lv_at hl 0 rfl) ?_
  refine y_get hx hb hts i_X7 hown hK hH qOb_7 rfl 0 (by decide) f10 rfl dX7_leave_1 ?_
  refine lv_iload_n hx hb dX7_leave_4 rfl (lv_at hl 1 rfl) ?_
  refine y_cs (va_runV (As := [.int x1]) (rest := []) ⟨hx, hb, hml, hown, hts⟩ (c_X1_isThere l G ad hI M _ qMi_1 x1 (qOk.b1 h)) (cwV 1 hts gX7_leave_X1_isThere rfl rfl rfl (by decide +kernel) ⟨Nat.le_of_ble_eq_true rfl, Nat.le_of_ble_eq_true rfl⟩) ⟨qPre.blind, qrecv hK hH (qMi_ob qMi_1) rfl, qPre.at hK hH⟩ rfl rfl hl.1 rfl (lv_room (Nat.le_of_ble_eq_true rfl)) dX7_leave_5 ⟨Nat.zero_le _, Nat.zero_le _⟩) (fun v1 h => ?_)
  refine lv_if_ne (tgt := 13) hx hb dX7_leave_8 (by decide) (fun hc => ?_) (fun hc => ?_)
  · have h := qOk.f hc h
    refine lv_aload_n hx hb dX7_leave_13 rfl (lv_at hl 0 rfl) ?_
    refine y_get hx hb hts i_X7 hown hK hH qOb_7 rfl 0 (by decide) f10 rfl dX7_leave_14 ?_
    refine lv_dup hx hb dX7_leave_17 rfl ?_
    refine y_get hx hb hts i_X1 hown hK hH (qMi_ob qMi_1) rfl 5 (by decide) f89 rfl dX7_leave_18 ?_
    refine lv_iconst (v := 1) hx hb dX7_leave_21 (by decide) ?_
    refine lv_iload_n hx hb dX7_leave_22 rfl (lv_at hl 1 rfl) ?_
    refine lv_ishl hx hb dX7_leave_23 ?_
    refine lv_iconst (v := (-1)) hx hb dX7_leave_24 (by decide) ?_
    refine lv_ixor hx hb dX7_leave_25 ?_
    refine lv_iand hx hb dX7_leave_26 ?_
    refine y_put hx hb hts i_X1 tyX1 tyX1_ok nmX1 hown hK hI hH (qMi_ob qMi_1) rfl 5 (by decide) f89 rfl (by decide +kernel) (Nat.le_of_ble_eq_true rfl) (fun _ => rfl) h dX7_leave_27 (fun M2 H locs hH h => ?_)
    refine lv_aload_n hx hb dX7_leave_30 rfl (lv_at hl 0 rfl) ?_
    refine y_get hx hb hts i_X7 hown hK hH qOb_7 rfl 0 (by decide) f10 rfl dX7_leave_31 ?_
    refine y_get hx hb hts i_X1 hown hK hH (qMi_ob qMi_1) rfl 13 (by decide) f107 rfl dX7_leave_34 ?_
    refine lv_iload_n hx hb dX7_leave_37 rfl (lv_at hl 1 rfl) ?_
    refine lv_iconst (v := (-1)) hx hb dX7_leave_38 (by decide) ?_
    refine y_iast hx hb hK hI hH (qMi_a9 qMi_1) h dX7_leave_39 (fun M3 H locs hH h => ?_)
    refine lv_aload_n hx hb dX7_leave_40 rfl (lv_at hl 0 rfl) ?_
    refine y_get hx hb hts i_X7 hown hK hH qOb_7 rfl 0 (by decide) f10 rfl dX7_leave_41 ?_
    refine y_get hx hb hts i_X1 hown hK hH (qMi_ob qMi_1) rfl 5 (by decide) f89 rfl dX7_leave_44 ?_
    refine y_cs (va_runS (As := [.int (M3 1 5)]) (rest := []) ⟨hx, hb, hml, hown, hts⟩ (c_J6_bitCount_0f7a4 l (M3 1 5) (qOk.b1 h)) (va_cwS 1 hts gX7_leave_J6_bitCount_0f7a4 rfl rfl rfl (by decide +kernel) ⟨Nat.le_of_ble_eq_true rfl, Nat.le_of_ble_eq_true rfl⟩) ⟨qPrT.blind, qPrT.at⟩ rfl rfl hl.1 rfl (lv_room (Nat.le_of_ble_eq_true rfl)) dX7_leave_47 ⟨Nat.zero_le _, Nat.zero_le _⟩) (fun v4 h => ?_)
    exact W.iret hx hb hr (fun t ht _ => ⟨⟨_, _, rfl, qOk2.s h, qHpt ht hH.1⟩, hH.2.F ht⟩) hH.2.2.2 dX7_leave_50
  · have h := qOk.t hc h
    refine lv_iconst (v := (-1)) hx hb dX7_leave_11 (by decide) ?_
    exact W.iret hx hb hr (fun t ht _ => ⟨⟨_, _, rfl, qOk2.s h, qHpt ht hH.1⟩, hH.2.F ht⟩) hH.2.2.2 dX7_leave_12
abbrev rm_X7_say : Room := { frames := 0, cells := 0, slots := 0, locals := 0 }
set_option maxHeartbeats 4000000 in
set_option maxRecDepth 100000 in
theorem c_X7_say (l : Launch) (G : qG) (ad : Nat → Nat) (hI : qI W1N ad) (M : qM) (sz : Nat) (x1 : Int32) {P : Int32 → qM → Prop} (h : qOk2 (kX7_say M x1) P) : Met l yX7_say wsX7_say rm_X7_say (va_Pc [.ref (ad 0), .int x1] (qPre W1N e1 G ad M sz)) (va_Qi P (fun u t => qHp W1N e1 G ad u t.heap) (qA W1N ad sz)) 0 0 (qA W1N ad sz) := by
  refine Met.ofW (cc := cX7_say) (maxL := 2) (ret := (some .int)) (by decide) rfl ?_
  intro p e s m args below meth c s₁ B hml hv
  obtain ⟨rfl, hsz, hK, hP⟩ := hv
  subst hsz
  have hx := B.exec
  have hb := B.bytes
  have hr := B.returns
  have hts := atoms_spec (ws := wsX7_say) B.pre
  have hown : s.vm.findClass RX7 = some m.cls := findClass_of_methodNamed B.named
  have hlocks := B.notSynchronized
  have hH : qHS W1N e1 G ad M s.heap s.heap [] := ⟨hP, va_S.rf⟩
  have f27 : (Cond.fieldLink RX7 27 "SongLamps" "pad" "LSongLamps$Pad;").before [.ref (ad 0), .int x1].toArray s = true := hts _ (by decide +kernel)
  have i_X7 : ∀ w ∈ wsX70, w ∈ wsX7_say := fun w hw => List.mem_cons_of_mem _ ((List.mem_append_left _ (List.mem_append_right _ hw)))
  have f119 : (Cond.fieldLink RX7 119 "SongLamps$Pad" "size" "I").before [.ref (ad 0), .int x1].toArray s = true := hts _ (by decide +kernel)
  have i_X2 : ∀ w ∈ wsX20, w ∈ wsX7_say := fun w hw => List.mem_cons_of_mem _ ((List.mem_append_right _ hw))
  have f122 : (Cond.fieldLink RX7 122 "SongLamps$Pad" "signs" "[I").before [.ref (ad 0), .int x1].toArray s = true := hts _ (by decide +kernel)
  have hl := lv_entry ([.ref (ad 0), .int x1]) (n := 2) (Nat.le_of_ble_eq_true rfl)
  rw [lg_entry_eq]
  generalize (lg_sl ([.ref (ad 0), .int x1]) ++ List.replicate (2 - (lg_sl ([.ref (ad 0), .int x1])).length) Slot.unset).toArray = ls at hl ⊢
  have hl : lv_has ls 2 [(0, .ref (ad 0)), (1, .int x1)] := hl
  have h : qOk (kX7_say M x1) _ := h
  unfold kX7_say at h
  refine lv_iload_n hx hb dX7_say_0 rfl (lv_at hl 1 rfl) ?_
  refine lv_bipush (v := 33) hx hb dX7_say_1 (by decide) ?_
  refine lv_icmp_lt (tgt := 12) hx hb dX7_say_3 (by decide) (fun hc => ?_) (fun hc => ?_)
  · have h := qOk.t hc h
    refine lv_bipush (v := (-2)) hx hb dX7_say_12 (by decide) ?_
    exact W.iret hx hb hr (fun t ht _ => ⟨⟨_, _, rfl, qOk2.s h, qHpt ht hH.1⟩, hH.2.F ht⟩) hH.2.2.2 dX7_say_14
  · have h := qOk.f hc h
    refine lv_iload_n hx hb dX7_say_6 rfl (lv_at hl 1 rfl) ?_
    refine lv_bipush (v := 126) hx hb dX7_say_7 (by decide) ?_
    refine lv_icmp_le (tgt := 15) hx hb dX7_say_9 (by decide) (fun hc => ?_) (fun hc => ?_)
    · have h := qOk.t hc h
      refine lv_aload_n hx hb dX7_say_15 rfl (lv_at hl 0 rfl) ?_
      refine y_get hx hb hts i_X7 hown hK hH qOb_7 rfl 3 (by decide) f27 rfl dX7_say_16 ?_
      refine y_get hx hb hts i_X2 hown hK hH qOb_2 rfl 1 (by decide) f119 rfl dX7_say_19 ?_
      refine lv_bipush (v := 60) hx hb dX7_say_22 (by decide) ?_
      refine lv_icmp_lt (tgt := 30) hx hb dX7_say_24 (by decide) (fun hc => ?_) (fun hc => ?_)
      · have h := qOk.t hc h
        refine lv_aload_n hx hb dX7_say_30 rfl (lv_at hl 0 rfl) ?_
        refine y_get hx hb hts i_X7 hown hK hH qOb_7 rfl 3 (by decide) f27 rfl dX7_say_31 ?_
        refine y_get hx hb hts i_X2 hown hK hH qOb_2 rfl 0 (by decide) f122 rfl dX7_say_34 ?_
        refine lv_aload_n hx hb dX7_say_37 rfl (lv_at hl 0 rfl) ?_
        refine y_get hx hb hts i_X7 hown hK hH qOb_7 rfl 3 (by decide) f27 rfl dX7_say_38 ?_
        refine y_get hx hb hts i_X2 hown hK hH qOb_2 rfl 1 (by decide) f119 rfl dX7_say_41 ?_
        refine lv_iload_n hx hb dX7_say_44 rfl (lv_at hl 1 rfl) ?_
        refine y_iast hx hb hK hI hH qAr_40 h dX7_say_45 (fun M1 H locs hH h => ?_)
        refine lv_aload_n hx hb dX7_say_46 rfl (lv_at hl 0 rfl) ?_
        refine y_get hx hb hts i_X7 hown hK hH qOb_7 rfl 3 (by decide) f27 rfl dX7_say_47 ?_
        refine lv_dup hx hb dX7_say_50 rfl ?_
        refine y_get hx hb hts i_X2 hown hK hH qOb_2 rfl 1 (by decide) f119 rfl dX7_say_51 ?_
        refine lv_iconst (v := 1) hx hb dX7_say_54 (by decide) ?_
        refine lv_iadd hx hb dX7_say_55 ?_
        refine y_put hx hb hts i_X2 tyX2 tyX2_ok nmX2 hown hK hI hH qOb_2 rfl 1 (by decide) f119 rfl (by decide +kernel) (Nat.le_of_ble_eq_true rfl) (fun _ => rfl) h dX7_say_56 (fun M2 H locs hH h => ?_)
        refine lv_aload_n hx hb dX7_say_59 rfl (lv_at hl 0 rfl) ?_
        refine y_get hx hb hts i_X7 hown hK hH qOb_7 rfl 3 (by decide) f27 rfl dX7_say_60 ?_
        refine y_get hx hb hts i_X2 hown hK hH qOb_2 rfl 1 (by decide) f119 rfl dX7_say_63 ?_
        exact W.iret hx hb hr (fun t ht _ => ⟨⟨_, _, rfl, qOk2.s h, qHpt ht hH.1⟩, hH.2.F ht⟩) hH.2.2.2 dX7_say_66
      · have h := qOk.f hc h
        refine lv_bipush (v := (-4)) hx hb dX7_say_27 (by decide) ?_
        exact W.iret hx hb hr (fun t ht _ => ⟨⟨_, _, rfl, qOk2.s h, qHpt ht hH.1⟩, hH.2.F ht⟩) hH.2.2.2 dX7_say_29
    · have h := qOk.f hc h
      refine lv_bipush (v := (-2)) hx hb dX7_say_12 (by decide) ?_
      exact W.iret hx hb hr (fun t ht _ => ⟨⟨_, _, rfl, qOk2.s h, qHpt ht hH.1⟩, hH.2.F ht⟩) hH.2.2.2 dX7_say_14
abbrev rm_X7_wipe : Room := { frames := 0, cells := 0, slots := 0, locals := 0 }
set_option maxHeartbeats 4000000 in
set_option maxRecDepth 100000 in
theorem c_X7_wipe (l : Launch) (G : qG) (ad : Nat → Nat) (hI : qI W1N ad) (M : qM) (sz : Nat) {P : Int32 → qM → Prop} (h : qOk2 (kX7_wipe M) P) : Met l yX7_wipe wsX7_wipe rm_X7_wipe (va_Pc [.ref (ad 0)] (qPre W1N e1 G ad M sz)) (va_Qi P (fun u t => qHp W1N e1 G ad u t.heap) (qA W1N ad sz)) 0 0 (qA W1N ad sz) := by
  refine Met.ofW (cc := cX7_wipe) (maxL := 2) (ret := (some .int)) (by decide) rfl ?_
  intro p e s m args below meth c s₁ B hml hv
  obtain ⟨rfl, hsz, hK, hP⟩ := hv
  subst hsz
  have hx := B.exec
  have hb := B.bytes
  have hr := B.returns
  have hts := atoms_spec (ws := wsX7_wipe) B.pre
  have hown : s.vm.findClass RX7 = some m.cls := findClass_of_methodNamed B.named
  have hlocks := B.notSynchronized
  have hH : qHS W1N e1 G ad M s.heap s.heap [] := ⟨hP, va_S.rf⟩
  have f27 : (Cond.fieldLink RX7 27 "SongLamps" "pad" "LSongLamps$Pad;").before [.ref (ad 0)].toArray s = true := hts _ (by decide +kernel)
  have i_X7 : ∀ w ∈ wsX70, w ∈ wsX7_wipe := fun w hw => List.mem_cons_of_mem _ ((List.mem_append_left _ (List.mem_append_right _ hw)))
  have f119 : (Cond.fieldLink RX7 119 "SongLamps$Pad" "size" "I").before [.ref (ad 0)].toArray s = true := hts _ (by decide +kernel)
  have i_X2 : ∀ w ∈ wsX20, w ∈ wsX7_wipe := fun w hw => List.mem_cons_of_mem _ ((List.mem_append_right _ hw))
  have hl := lv_entry ([.ref (ad 0)]) (n := 2) (Nat.le_of_ble_eq_true rfl)
  rw [lg_entry_eq]
  generalize (lg_sl ([.ref (ad 0)]) ++ List.replicate (2 - (lg_sl ([.ref (ad 0)])).length) Slot.unset).toArray = ls at hl ⊢
  have hl : lv_has ls 2 [(0, .ref (ad 0))] := hl
  have h : qOk (kX7_wipe M) _ := h
  unfold kX7_wipe at h
  refine lv_aload_n hx hb dX7_wipe_0 rfl (lv_at hl 0 rfl) ?_
  refine y_get hx hb hts i_X7 hown hK hH qOb_7 rfl 3 (by decide) f27 rfl dX7_wipe_1 ?_
  refine y_get hx hb hts i_X2 hown hK hH qOb_2 rfl 1 (by decide) f119 rfl dX7_wipe_4 ?_
  refine lv_topi (fun v1 ev1 => ?_)
  have h := qOk.v h ev1
  refine lv_istore_n (lv' := [(1, .int v1), (0, .ref (ad 0))]) hx hb dX7_wipe_7 rfl hl (by decide) rfl (fun ls hl => ?_)
  refine lv_aload_n hx hb dX7_wipe_8 rfl (lv_at hl 1 rfl) ?_
  refine y_get hx hb hts i_X7 hown hK hH qOb_7 rfl 3 (by decide) f27 rfl dX7_wipe_9 ?_
  refine lv_iconst (v := 0) hx hb dX7_wipe_12 (by decide) ?_
  refine y_put hx hb hts i_X2 tyX2 tyX2_ok nmX2 hown hK hI hH qOb_2 rfl 1 (by decide) f119 rfl (by decide +kernel) (Nat.le_of_ble_eq_true rfl) (fun _ => rfl) h dX7_wipe_13 (fun M2 H locs hH h => ?_)
  refine lv_iload_n hx hb dX7_wipe_16 rfl (lv_at hl 0 rfl) ?_
  exact W.iret hx hb hr (fun t ht _ => ⟨⟨_, _, rfl, qOk2.s h, qHpt ht hH.1⟩, hH.2.F ht⟩) hH.2.2.2 dX7_wipe_17
abbrev rm_X7_fault : Room := { frames := 5, cells := 0, slots := 0, locals := 110 }
set_option maxHeartbeats 4000000 in
set_option maxRecDepth 100000 in
theorem c_X7_fault (l : Launch) (G : qG) (ad : Nat → Nat) (hI : qI W1N ad) (M : qM) (sz : Nat) {P : Int32 → qM → Prop} (h : qOk2 (kX7_fault M) P) : Met l yX7_fault wsX7_fault rm_X7_fault (va_Pc [.ref (ad 0)] (qPre W1N e1 G ad M sz)) (va_Qi P (fun u t => qHp W1N e1 G ad u t.heap) (qA W1N ad sz)) 0 0 (qA W1N ad sz) := by
  refine Met.ofW (cc := cX7_fault) (maxL := 1) (ret := (some .int)) (by decide) rfl ?_
  intro p e s m args below meth c s₁ B hml hv
  obtain ⟨rfl, hsz, hK, hP⟩ := hv
  subst hsz
  have hx := B.exec
  have hb := B.bytes
  have hr := B.returns
  have hts := atoms_spec (ws := wsX7_fault) B.pre
  have hown : s.vm.findClass RX7 = some m.cls := findClass_of_methodNamed B.named
  have hlocks := B.notSynchronized
  have hH : qHS W1N e1 G ad M s.heap s.heap [] := ⟨hP, va_S.rf⟩
  have f27 : (Cond.fieldLink RX7 27 "SongLamps" "pad" "LSongLamps$Pad;").before [.ref (ad 0)].toArray s = true := hts _ (by decide +kernel)
  have i_X7 : ∀ w ∈ wsX70, w ∈ wsX7_fault := fun w hw => List.mem_cons_of_mem _ ((List.mem_append_left _ (List.mem_append_right _ hw)))
  have hl := lv_entry ([.ref (ad 0)]) (n := 1) (Nat.le_of_ble_eq_true rfl)
  rw [lg_entry_eq]
  generalize (lg_sl ([.ref (ad 0)]) ++ List.replicate (1 - (lg_sl ([.ref (ad 0)])).length) Slot.unset).toArray = ls at hl ⊢
  have hl : lv_has ls 1 [(0, .ref (ad 0))] := hl
  have h : qOk (kX7_fault M) _ := h
  unfold kX7_fault at h
  refine lv_aload_n hx hb dX7_fault_0 rfl (lv_at hl 0 rfl) ?_
  refine y_get hx hb hts i_X7 hown hK hH qOb_7 rfl 3 (by decide) f27 rfl dX7_fault_1 ?_
  refine y_ci hH (va_runV (As := []) (rest := []) ⟨hx, hb, hml, hown, hts⟩ (c_X2_readActs l G ad hI M _  (qOk.b2 h)) (cwV 0 hts gX7_fault_X2_readActs rfl rfl rfl (by decide +kernel) ⟨Nat.le_of_ble_eq_true rfl, Nat.le_of_ble_eq_true rfl⟩) ⟨qPre.blind, qrecv hK hH qOb_2 rfl, qPre.at hK hH⟩ rfl rfl hl.1 rfl (lv_room (Nat.le_of_ble_eq_true rfl)) dX7_fault_4 ⟨Nat.zero_le _, Nat.zero_le _⟩) (fun v2 M1 H locs hH h => ?_)
  exact W.iret hx hb hr (fun t ht _ => ⟨⟨_, _, rfl, qOk2.s h, qHpt ht hH.1⟩, hH.2.F ht⟩) hH.2.2.2 dX7_fault_7
abbrev rm_X7_judge : Room := { frames := 5, cells := 0, slots := 0, locals := 115 }
set_option maxHeartbeats 4000000 in
set_option maxRecDepth 100000 in
theorem c_X7_judge (l : Launch) (G : qG) (ad : Nat → Nat) (hI : qI W1N ad) (M : qM) (sz : Nat) (x1 : Int32) {P : Int32 → qM → Prop} (h : qOk2 (kX7_judge M x1) P) : Met l yX7_judge wsX7_judge rm_X7_judge (va_Pc [.ref (ad 0), .int x1] (qPre W1N e1 G ad M sz)) (va_Qi P (fun u t => qHp W1N e1 G ad u t.heap) (qA W1N ad sz)) 0 0 (qA W1N ad sz) := by
  refine Met.ofW (cc := cX7_judge) (maxL := 2) (ret := (some .int)) (by decide) rfl ?_
  intro p e s m args below meth c s₁ B hml hv
  obtain ⟨rfl, hsz, hK, hP⟩ := hv
  subst hsz
  have hx := B.exec
  have hb := B.bytes
  have hr := B.returns
  have hts := atoms_spec (ws := wsX7_judge) B.pre
  have hown : s.vm.findClass RX7 = some m.cls := findClass_of_methodNamed B.named
  have hlocks := B.notSynchronized
  have hH : qHS W1N e1 G ad M s.heap s.heap [] := ⟨hP, va_S.rf⟩
  have f27 : (Cond.fieldLink RX7 27 "SongLamps" "pad" "LSongLamps$Pad;").before [.ref (ad 0), .int x1].toArray s = true := hts _ (by decide +kernel)
  have i_X7 : ∀ w ∈ wsX70, w ∈ wsX7_judge := fun w hw => List.mem_cons_of_mem _ ((List.mem_append_left _ (List.mem_append_left _ (List.mem_append_left _ (List.mem_append_left _ (List.mem_append_right _ hw))))))
  have f41 : (Cond.fieldLink RX7 41 "SongLamps" "trial" "LSongLamps$Trial;").before [.ref (ad 0), .int x1].toArray s = true := hts _ (by decide +kernel)
  have f10 : (Cond.fieldLink RX7 10 "SongLamps" "now" "LSongLamps$Mine;").before [.ref (ad 0), .int x1].toArray s = true := hts _ (by decide +kernel)
  have f135 : (Cond.fieldLink RX7 135 "SongLamps$Trial" "why" "I").before [.ref (ad 0), .int x1].toArray s = true := hts _ (by decide +kernel)
  have i_X4 : ∀ w ∈ wsX40, w ∈ wsX7_judge := fun w hw => List.mem_cons_of_mem _ ((List.mem_append_left _ (List.mem_append_left _ (List.mem_append_left _ (List.mem_append_right _ hw)))))
  have f132 : (Cond.fieldLink RX7 132 "SongLamps$Trial" "stoppedAt" "I").before [.ref (ad 0), .int x1].toArray s = true := hts _ (by decide +kernel)
  have hl := lv_entry ([.ref (ad 0), .int x1]) (n := 2) (Nat.le_of_ble_eq_true rfl)
  rw [lg_entry_eq]
  generalize (lg_sl ([.ref (ad 0), .int x1]) ++ List.replicate (2 - (lg_sl ([.ref (ad 0), .int x1])).length) Slot.unset).toArray = ls at hl ⊢
  have hl : lv_has ls 2 [(0, .ref (ad 0)), (1, .int x1)] := hl
  have h : qOk (kX7_judge M x1) _ := h
  unfold kX7_judge at h
  refine lv_iload_n hx hb dX7_judge_0 rfl (lv_at hl 1 rfl) ?_
  refine lv_if_lt (tgt := 9) hx hb dX7_judge_1 (by decide) (fun hc => ?_) (fun hc => ?_)
  · have h := qOk.t hc h
    refine lv_bipush (v := (-2)) hx hb dX7_judge_9 (by decide) ?_
    exact W.iret hx hb hr (fun t ht _ => ⟨⟨_, _, rfl, qOk2.s h, qHpt ht hH.1⟩, hH.2.F ht⟩) hH.2.2.2 dX7_judge_11
  · have h := qOk.f hc h
    refine lv_iload_n hx hb dX7_judge_4 rfl (lv_at hl 1 rfl) ?_
    refine lv_iconst (v := 1) hx hb dX7_judge_5 (by decide) ?_
    refine lv_icmp_le (tgt := 12) hx hb dX7_judge_6 (by decide) (fun hc => ?_) (fun hc => ?_)
    · have h := qOk.t hc h
      refine lv_aload_n hx hb dX7_judge_12 rfl (lv_at hl 0 rfl) ?_
      refine y_get hx hb hts i_X7 hown hK hH qOb_7 rfl 3 (by decide) f27 rfl dX7_judge_13 ?_
      refine y_ci hH (va_runV (As := []) (rest := []) ⟨hx, hb, hml, hown, hts⟩ (c_X2_readActs l G ad hI M _  (qOk.b2 h)) (cwV 0 hts gX7_judge_X2_readActs rfl rfl rfl (by decide +kernel) ⟨Nat.le_of_ble_eq_true rfl, Nat.le_of_ble_eq_true rfl⟩) ⟨qPre.blind, qrecv hK hH qOb_2 rfl, qPre.at hK hH⟩ rfl rfl hl.1 rfl (lv_room (Nat.le_of_ble_eq_true rfl)) dX7_judge_16 ⟨Nat.zero_le _, Nat.zero_le _⟩) (fun v2 M1 H locs hH h => ?_)
      refine lv_bipush (v := (-6)) hx hb dX7_judge_19 (by decide) ?_
      refine lv_icmp_eq (tgt := 27) hx hb dX7_judge_21 (by decide) (fun hc => ?_) (fun hc => ?_)
      · have h := qOk.t hc h
        refine lv_aload_n hx hb dX7_judge_27 rfl (lv_at hl 0 rfl) ?_
        refine y_get hx hb hts i_X7 hown hK hH qOb_7 rfl 5 (by decide) f41 rfl dX7_judge_28 ?_
        refine lv_aload_n hx hb dX7_judge_31 rfl (lv_at hl 0 rfl) ?_
        refine y_get hx hb hts i_X7 hown hK hH qOb_7 rfl 3 (by decide) f27 rfl dX7_judge_32 ?_
        refine lv_aload_n hx hb dX7_judge_35 rfl (lv_at hl 0 rfl) ?_
        refine y_get hx hb hts i_X7 hown hK hH qOb_7 rfl 0 (by decide) f10 rfl dX7_judge_36 ?_
        refine y_cv hH (va_runV (As := [.ref (ad 39), .ref (ad 1)]) (rest := []) ⟨hx, hb, hml, hown, hts⟩ (c_X4_tryActs l G ad hI M1 _ qMi_1 (qOk.b1 h)) (cwV 2 hts gX7_judge_X4_tryActs rfl rfl rfl (by decide +kernel) ⟨Nat.le_of_ble_eq_true rfl, Nat.le_of_ble_eq_true rfl⟩) ⟨qPre.blind, qrecv hK hH qOb_4 rfl, qPre.at hK hH⟩ rfl rfl hl.1 rfl (lv_room (Nat.le_of_ble_eq_true rfl)) dX7_judge_39 ⟨Nat.zero_le _, Nat.zero_le _⟩) (fun M3 H locs hH h => ?_)
        refine lv_iload_n hx hb dX7_judge_42 rfl (lv_at hl 1 rfl) ?_
        refine qj1 (G := fun (v4 : Int32) => W p l e (headSpec wsX7_judge rm_X7_judge).room s m [.ref (ad 0), .int x1].toArray below meth c H locs 0 0 (MQ below (va_Qi P (fun u t => qHp W1N e1 G ad u t.heap) (qA W1N ad s.heap.size)) [.ref (ad 0), .int x1].toArray s 0 0 (qA W1N ad s.heap.size)) (F0 m 63 ls [.int v4])) h ?_ ?_
        rotate_left
        · intro h
          refine lv_if_ne (tgt := 56) hx hb dX7_judge_43 (by decide) (fun hc => ?_) (fun hc => ?_)
          · have h := qOk.f hc h
            refine lv_aload_n hx hb dX7_judge_56 rfl (lv_at hl 0 rfl) ?_
            refine y_get hx hb hts i_X7 hown hK hH qOb_7 rfl 5 (by decide) f41 rfl dX7_judge_57 ?_
            refine y_get hx hb hts i_X4 hown hK hH qOb_4 rfl 2 (by decide) f135 rfl dX7_judge_60 ?_
            have h := qOk.s h
            exact h
          · have h := qOk.t hc h
            refine lv_aload_n hx hb dX7_judge_46 rfl (lv_at hl 0 rfl) ?_
            refine y_get hx hb hts i_X7 hown hK hH qOb_7 rfl 5 (by decide) f41 rfl dX7_judge_47 ?_
            refine y_get hx hb hts i_X4 hown hK hH qOb_4 rfl 1 (by decide) f132 rfl dX7_judge_50 ?_
            refine lv_goto (tgt := 63) hx hb dX7_judge_53 (by decide) ?_
            have h := qOk.s h
            exact h
        intro v4 h
        exact W.iret hx hb hr (fun t ht _ => ⟨⟨_, _, rfl, qOk2.s h, qHpt ht hH.1⟩, hH.2.F ht⟩) hH.2.2.2 dX7_judge_63
      · have h := qOk.f hc h
        refine lv_bipush (v := (-5)) hx hb dX7_judge_24 (by decide) ?_
        exact W.iret hx hb hr (fun t ht _ => ⟨⟨_, _, rfl, qOk2.s h, qHpt ht hH.1⟩, hH.2.F ht⟩) hH.2.2.2 dX7_judge_26
    · have h := qOk.f hc h
      refine lv_bipush (v := (-2)) hx hb dX7_judge_9 (by decide) ?_
      exact W.iret hx hb hr (fun t ht _ => ⟨⟨_, _, rfl, qOk2.s h, qHpt ht hH.1⟩, hH.2.F ht⟩) hH.2.2.2 dX7_judge_11
abbrev rm_X7_canBeDone : Room := { frames := 5, cells := 0, slots := 0, locals := 115 }
set_option maxHeartbeats 4000000 in
set_option maxRecDepth 100000 in
theorem c_X7_canBeDone (l : Launch) (G : qG) (ad : Nat → Nat) (hI : qI W1N ad) (M : qM) (sz : Nat) {P : Int32 → qM → Prop} (h : qOk2 (kX7_canBeDone M) P) : Met l yX7_canBeDone wsX7_canBeDone rm_X7_canBeDone (va_Pc [.ref (ad 0)] (qPre W1N e1 G ad M sz)) (va_Qi P (fun u t => qHp W1N e1 G ad u t.heap) (qA W1N ad sz)) 0 0 (qA W1N ad sz) := by
  refine Met.ofW (cc := cX7_canBeDone) (maxL := 1) (ret := (some .boolean)) (by decide) rfl ?_
  intro p e s m args below meth c s₁ B hml hv
  obtain ⟨rfl, hsz, hK, hP⟩ := hv
  subst hsz
  have hx := B.exec
  have hb := B.bytes
  have hr := B.returns
  have hts := atoms_spec (ws := wsX7_canBeDone) B.pre
  have hown : s.vm.findClass RX7 = some m.cls := findClass_of_methodNamed B.named
  have hlocks := B.notSynchronized
  have hH : qHS W1N e1 G ad M s.heap s.heap [] := ⟨hP, va_S.rf⟩
  have f27 : (Cond.fieldLink RX7 27 "SongLamps" "pad" "LSongLamps$Pad;").before [.ref (ad 0)].toArray s = true := hts _ (by decide +kernel)
  have i_X7 : ∀ w ∈ wsX70, w ∈ wsX7_canBeDone := fun w hw => List.mem_cons_of_mem _ ((List.mem_append_left _ (List.mem_append_left _ (List.mem_append_left _ (List.mem_append_left _ (List.mem_append_right _ hw))))))
  have f41 : (Cond.fieldLink RX7 41 "SongLamps" "trial" "LSongLamps$Trial;").before [.ref (ad 0)].toArray s = true := hts _ (by decide +kernel)
  have f10 : (Cond.fieldLink RX7 10 "SongLamps" "now" "LSongLamps$Mine;").before [.ref (ad 0)].toArray s = true := hts _ (by decide +kernel)
  have f132 : (Cond.fieldLink RX7 132 "SongLamps$Trial" "stoppedAt" "I").before [.ref (ad 0)].toArray s = true := hts _ (by decide +kernel)
  have i_X4 : ∀ w ∈ wsX40, w ∈ wsX7_canBeDone := fun w hw => List.mem_cons_of_mem _ ((List.mem_append_left _ (List.mem_append_left _ (List.mem_append_left _ (List.mem_append_right _ hw)))))
  have hl := lv_entry ([.ref (ad 0)]) (n := 1) (Nat.le_of_ble_eq_true rfl)
  rw [lg_entry_eq]
  generalize (lg_sl ([.ref (ad 0)]) ++ List.replicate (1 - (lg_sl ([.ref (ad 0)])).length) Slot.unset).toArray = ls at hl ⊢
  have hl : lv_has ls 1 [(0, .ref (ad 0))] := hl
  have h : qOk (kX7_canBeDone M) _ := h
  unfold kX7_canBeDone at h
  refine lv_aload_n hx hb dX7_canBeDone_0 rfl (lv_at hl 0 rfl) ?_
  refine y_get hx hb hts i_X7 hown hK hH qOb_7 rfl 3 (by decide) f27 rfl dX7_canBeDone_1 ?_
  refine y_ci hH (va_runV (As := []) (rest := []) ⟨hx, hb, hml, hown, hts⟩ (c_X2_readActs l G ad hI M _  (qOk.b2 h)) (cwV 0 hts gX7_canBeDone_X2_readActs rfl rfl rfl (by decide +kernel) ⟨Nat.le_of_ble_eq_true rfl, Nat.le_of_ble_eq_true rfl⟩) ⟨qPre.blind, qrecv hK hH qOb_2 rfl, qPre.at hK hH⟩ rfl rfl hl.1 rfl (lv_room (Nat.le_of_ble_eq_true rfl)) dX7_canBeDone_4 ⟨Nat.zero_le _, Nat.zero_le _⟩) (fun v2 M1 H locs hH h => ?_)
  refine lv_bipush (v := (-6)) hx hb dX7_canBeDone_7 (by decide) ?_
  refine lv_icmp_eq (tgt := 14) hx hb dX7_canBeDone_9 (by decide) (fun hc => ?_) (fun hc => ?_)
  · have h := qOk.t hc h
    refine lv_aload_n hx hb dX7_canBeDone_14 rfl (lv_at hl 0 rfl) ?_
    refine y_get hx hb hts i_X7 hown hK hH qOb_7 rfl 5 (by decide) f41 rfl dX7_canBeDone_15 ?_
    refine lv_aload_n hx hb dX7_canBeDone_18 rfl (lv_at hl 0 rfl) ?_
    refine y_get hx hb hts i_X7 hown hK hH qOb_7 rfl 3 (by decide) f27 rfl dX7_canBeDone_19 ?_
    refine lv_aload_n hx hb dX7_canBeDone_22 rfl (lv_at hl 0 rfl) ?_
    refine y_get hx hb hts i_X7 hown hK hH qOb_7 rfl 0 (by decide) f10 rfl dX7_canBeDone_23 ?_
    refine y_cv hH (va_runV (As := [.ref (ad 39), .ref (ad 1)]) (rest := []) ⟨hx, hb, hml, hown, hts⟩ (c_X4_tryActs l G ad hI M1 _ qMi_1 (qOk.b1 h)) (cwV 2 hts gX7_canBeDone_X4_tryActs rfl rfl rfl (by decide +kernel) ⟨Nat.le_of_ble_eq_true rfl, Nat.le_of_ble_eq_true rfl⟩) ⟨qPre.blind, qrecv hK hH qOb_4 rfl, qPre.at hK hH⟩ rfl rfl hl.1 rfl (lv_room (Nat.le_of_ble_eq_true rfl)) dX7_canBeDone_26 ⟨Nat.zero_le _, Nat.zero_le _⟩) (fun M3 H locs hH h => ?_)
    refine lv_aload_n hx hb dX7_canBeDone_29 rfl (lv_at hl 0 rfl) ?_
    refine y_get hx hb hts i_X7 hown hK hH qOb_7 rfl 5 (by decide) f41 rfl dX7_canBeDone_30 ?_
    refine y_get hx hb hts i_X4 hown hK hH qOb_4 rfl 1 (by decide) f132 rfl dX7_canBeDone_33 ?_
    refine lv_bipush (v := (-6)) hx hb dX7_canBeDone_36 (by decide) ?_
    refine qj1 (G := fun (v4 : Int32) => W p l e (headSpec wsX7_canBeDone rm_X7_canBeDone).room s m [.ref (ad 0)].toArray below meth c H locs 0 0 (MQ below (va_Qi P (fun u t => qHp W1N e1 G ad u t.heap) (qA W1N ad s.heap.size)) [.ref (ad 0)].toArray s 0 0 (qA W1N ad s.heap.size)) (F0 m 46 ls [.int v4])) h ?_ ?_
    rotate_left
    · intro h
      refine lv_icmp_ne (tgt := 45) hx hb dX7_canBeDone_38 (by decide) (fun hc => ?_) (fun hc => ?_)
      · have h := qOk.f hc h
        refine lv_iconst (v := 0) hx hb dX7_canBeDone_45 (by decide) ?_
        have h := qOk.s h
        exact h
      · have h := qOk.t hc h
        refine lv_iconst (v := 1) hx hb dX7_canBeDone_41 (by decide) ?_
        refine lv_goto (tgt := 46) hx hb dX7_canBeDone_42 (by decide) ?_
        have h := qOk.s h
        exact h
    intro v4 h
    obtain ⟨hbn, h⟩ := qOk.bl h
    exact W.zret hx hb hr (qnarb hbn) (fun t ht _ => ⟨⟨_, _, rfl, qOk2.s h, qHpt ht hH.1⟩, hH.2.F ht⟩) hH.2.2.2 dX7_canBeDone_46
  · have h := qOk.f hc h
    refine lv_iconst (v := 0) hx hb dX7_canBeDone_12 (by decide) ?_
    exact W.zret hx hb hr rfl (fun t ht _ => ⟨⟨_, _, rfl, qOk2.s h, qHpt ht hH.1⟩, hH.2.F ht⟩) hH.2.2.2 dX7_canBeDone_13
abbrev rm_X7_done : Room := { frames := 6, cells := 0, slots := 0, locals := 135 }
set_option maxHeartbeats 4000000 in
set_option maxRecDepth 100000 in
theorem c_X7_done (l : Launch) (G : qG) (ad : Nat → Nat) (hI : qI W1N ad) (M : qM) (sz : Nat) {P : Int32 → qM → Prop} (h : qOk2 (kX7_done M) P) : Met l yX7_done wsX7_done rm_X7_done (va_Pc [.ref (ad 0)] (qPre W1N e1 G ad M sz)) (va_Qi P (fun u t => qHp W1N e1 G ad u t.heap) (qA W1N ad sz)) 0 0 (qA W1N ad sz) := by
  refine Met.ofW (cc := cX7_done) (maxL := 1) (ret := (some .int)) (by decide) rfl ?_
  intro p e s m args below meth c s₁ B hml hv
  obtain ⟨rfl, hsz, hK, hP⟩ := hv
  subst hsz
  have hx := B.exec
  have hb := B.bytes
  have hr := B.returns
  have hts := atoms_spec (ws := wsX7_done) B.pre
  have hown : s.vm.findClass RX7 = some m.cls := findClass_of_methodNamed B.named
  have hlocks := B.notSynchronized
  have hH : qHS W1N e1 G ad M s.heap s.heap [] := ⟨hP, va_S.rf⟩
  have f10 : (Cond.fieldLink RX7 10 "SongLamps" "now" "LSongLamps$Mine;").before [.ref (ad 0)].toArray s = true := hts _ (by decide +kernel)
  have i_X7 : ∀ w ∈ wsX70, w ∈ wsX7_done := fun w hw => List.mem_cons_of_mem _ ((List.mem_append_left _ (List.mem_append_left _ (List.mem_append_left _ (List.mem_append_left _ (List.mem_append_right _ hw))))))
  have f41 : (Cond.fieldLink RX7 41 "SongLamps" "trial" "LSongLamps$Trial;").before [.ref (ad 0)].toArray s = true := hts _ (by decide +kernel)
  have f142 : (Cond.fieldLink RX7 142 "SongLamps$Trial" "mine" "LSongLamps$Mine;").before [.ref (ad 0)].toArray s = true := hts _ (by decide +kernel)
  have i_X4 : ∀ w ∈ wsX40, w ∈ wsX7_done := fun w hw => List.mem_cons_of_mem _ ((List.mem_append_left _ (List.mem_append_left _ (List.mem_append_left _ (List.mem_append_right _ hw)))))
  have f27 : (Cond.fieldLink RX7 27 "SongLamps" "pad" "LSongLamps$Pad;").before [.ref (ad 0)].toArray s = true := hts _ (by decide +kernel)
  have f119 : (Cond.fieldLink RX7 119 "SongLamps$Pad" "size" "I").before [.ref (ad 0)].toArray s = true := hts _ (by decide +kernel)
  have i_X2 : ∀ w ∈ wsX20, w ∈ wsX7_done := fun w hw => List.mem_cons_of_mem _ ((List.mem_append_left _ (List.mem_append_left _ (List.mem_append_right _ hw))))
  have f149 : (Cond.fieldLink RX7 149 "SongLamps$Pad" "acts" "I").before [.ref (ad 0)].toArray s = true := hts _ (by decide +kernel)
  have hl := lv_entry ([.ref (ad 0)]) (n := 1) (Nat.le_of_ble_eq_true rfl)
  rw [lg_entry_eq]
  generalize (lg_sl ([.ref (ad 0)]) ++ List.replicate (1 - (lg_sl ([.ref (ad 0)])).length) Slot.unset).toArray = ls at hl ⊢
  have hl : lv_has ls 1 [(0, .ref (ad 0))] := hl
  have h : qOk (kX7_done M) _ := h
  unfold kX7_done at h
  refine lv_aload_n hx hb dX7_done_0 rfl (lv_at hl 0 rfl) ?_
  refine y_ci hH (va_runV (As := []) (rest := []) ⟨hx, hb, hml, hown, hts⟩ (c_X7_canBeDone l G ad hI M _  (qOk.b2 h)) (cwV 0 hts gX7_done_X7_canBeDone rfl rfl rfl (by decide +kernel) ⟨Nat.le_of_ble_eq_true rfl, Nat.le_of_ble_eq_true rfl⟩) ⟨qPre.blind, qrecv hK hH qOb_7 rfl, qPre.at hK hH⟩ rfl rfl hl.1 rfl (lv_room (Nat.le_of_ble_eq_true rfl)) dX7_done_1 ⟨Nat.zero_le _, Nat.zero_le _⟩) (fun v2 M1 H locs hH h => ?_)
  refine lv_if_ne (tgt := 10) hx hb dX7_done_4 (by decide) (fun hc => ?_) (fun hc => ?_)
  · have h := qOk.f hc h
    refine lv_aload_n hx hb dX7_done_10 rfl (lv_at hl 0 rfl) ?_
    refine y_get hx hb hts i_X7 hown hK hH qOb_7 rfl 0 (by decide) f10 rfl dX7_done_11 ?_
    refine lv_aload_n hx hb dX7_done_14 rfl (lv_at hl 0 rfl) ?_
    refine y_get hx hb hts i_X7 hown hK hH qOb_7 rfl 5 (by decide) f41 rfl dX7_done_15 ?_
    refine y_get hx hb hts i_X4 hown hK hH qOb_4 rfl 0 (by decide) f142 rfl dX7_done_18 ?_
    refine y_cv hH (va_runV (As := [.ref (ad 48)]) (rest := []) ⟨hx, hb, hml, hown, hts⟩ (c_X1_become l G ad hI M1 _ qMi_1 qMi_48 (qOk.b1 h)) (cwV 1 hts gX7_done_X1_become rfl rfl rfl (by decide +kernel) ⟨Nat.le_of_ble_eq_true rfl, Nat.le_of_ble_eq_true rfl⟩) ⟨qPre.blind, qrecv hK hH (qMi_ob qMi_1) rfl, qPre.at hK hH⟩ rfl rfl hl.1 rfl (lv_room (Nat.le_of_ble_eq_true rfl)) dX7_done_21 ⟨Nat.zero_le _, Nat.zero_le _⟩) (fun M3 H locs hH h => ?_)
    refine lv_aload_n hx hb dX7_done_24 rfl (lv_at hl 0 rfl) ?_
    refine y_get hx hb hts i_X7 hown hK hH qOb_7 rfl 3 (by decide) f27 rfl dX7_done_25 ?_
    refine lv_iconst (v := 0) hx hb dX7_done_28 (by decide) ?_
    refine y_put hx hb hts i_X2 tyX2 tyX2_ok nmX2 hown hK hI hH qOb_2 rfl 1 (by decide) f119 rfl (by decide +kernel) (Nat.le_of_ble_eq_true rfl) (fun _ => rfl) h dX7_done_29 (fun M4 H locs hH h => ?_)
    refine lv_aload_n hx hb dX7_done_32 rfl (lv_at hl 0 rfl) ?_
    refine y_get hx hb hts i_X7 hown hK hH qOb_7 rfl 3 (by decide) f27 rfl dX7_done_33 ?_
    refine y_get hx hb hts i_X2 hown hK hH qOb_2 rfl 5 (by decide) f149 rfl dX7_done_36 ?_
    exact W.iret hx hb hr (fun t ht _ => ⟨⟨_, _, rfl, qOk2.s h, qHpt ht hH.1⟩, hH.2.F ht⟩) hH.2.2.2 dX7_done_39
  · have h := qOk.t hc h
    refine lv_bipush (v := (-5)) hx hb dX7_done_7 (by decide) ?_
    exact W.iret hx hb hr (fun t ht _ => ⟨⟨_, _, rfl, qOk2.s h, qHpt ht hH.1⟩, hH.2.F ht⟩) hH.2.2.2 dX7_done_9
abbrev rm_X7_behind : Room := { frames := 6, cells := 0, slots := 0, locals := 135 }
set_option maxHeartbeats 4000000 in
set_option maxRecDepth 100000 in
theorem c_X7_behind (l : Launch) (G : qG) (ad : Nat → Nat) (hI : qI W1N ad) (M : qM) (sz : Nat) (x1 : Int32) (x2 : Int32) {P : Int32 → qM → Prop} (h : qOk2 (kX7_behind M x1 x2) P) : Met l yX7_behind wsX7_behind rm_X7_behind (va_Pc [.ref (ad 0), .int x1, .int x2] (qPre W1N e1 G ad M sz)) (va_Qi P (fun u t => qHp W1N e1 G ad u t.heap) (qA W1N ad sz)) 0 0 (qA W1N ad sz) := by
  refine Met.ofW (cc := cX7_behind) (maxL := 4) (ret := (some .int)) (by decide) rfl ?_
  intro p e s m args below meth c s₁ B hml hv
  obtain ⟨rfl, hsz, hK, hP⟩ := hv
  subst hsz
  have hx := B.exec
  have hb := B.bytes
  have hr := B.returns
  have hts := atoms_spec (ws := wsX7_behind) B.pre
  have hown : s.vm.findClass RX7 = some m.cls := findClass_of_methodNamed B.named
  have hlocks := B.notSynchronized
  have hH : qHS W1N e1 G ad M s.heap s.heap [] := ⟨hP, va_S.rf⟩
  have f10 : (Cond.fieldLink RX7 10 "SongLamps" "now" "LSongLamps$Mine;").before [.ref (ad 0), .int x1, .int x2].toArray s = true := hts _ (by decide +kernel)
  have i_X7 : ∀ w ∈ wsX70, w ∈ wsX7_behind := fun w hw => List.mem_cons_of_mem _ ((List.mem_append_left _ (List.mem_append_left _ (List.mem_append_left _ (List.mem_append_left _ (List.mem_append_right _ hw))))))
  have f41 : (Cond.fieldLink RX7 41 "SongLamps" "trial" "LSongLamps$Trial;").before [.ref (ad 0), .int x1, .int x2].toArray s = true := hts _ (by decide +kernel)
  have f142 : (Cond.fieldLink RX7 142 "SongLamps$Trial" "mine" "LSongLamps$Mine;").before [.ref (ad 0), .int x1, .int x2].toArray s = true := hts _ (by decide +kernel)
  have i_X4 : ∀ w ∈ wsX40, w ∈ wsX7_behind := fun w hw => List.mem_cons_of_mem _ ((List.mem_append_left _ (List.mem_append_left _ (List.mem_append_left _ (List.mem_append_right _ hw)))))
  have f104 : (Cond.fieldLink RX7 104 "SongLamps$Mine" "place" "[I").before [.ref (ad 0), .int x1, .int x2].toArray s = true := hts _ (by decide +kernel)
  have i_X1 : ∀ w ∈ wsX10, w ∈ wsX7_behind := fun w hw => List.mem_cons_of_mem _ ((List.mem_append_left _ (List.mem_append_left _ (List.mem_append_right _ hw))))
  have f101 : (Cond.fieldLink RX7 101 "SongLamps$Mine" "breath" "[I").before [.ref (ad 0), .int x1, .int x2].toArray s = true := hts _ (by decide +kernel)
  have hl := lv_entry ([.ref (ad 0), .int x1, .int x2]) (n := 4) (Nat.le_of_ble_eq_true rfl)
  rw [lg_entry_eq]
  generalize (lg_sl ([.ref (ad 0), .int x1, .int x2]) ++ List.replicate (4 - (lg_sl ([.ref (ad 0), .int x1, .int x2])).length) Slot.unset).toArray = ls at hl ⊢
  have hl : lv_has ls 4 [(0, .ref (ad 0)), (1, .int x1), (2, .int x2)] := hl
  have h : qOk (kX7_behind M x1 x2) _ := h
  unfold kX7_behind at h
  refine lv_aload_n hx hb dX7_behind_0 rfl (lv_at hl 0 rfl) ?_
  refine y_get hx hb hts i_X7 hown hK hH qOb_7 rfl 0 (by decide) f10 rfl dX7_behind_1 ?_
  refine lv_iload_n hx hb dX7_behind_4 rfl (lv_at hl 1 rfl) ?_
  refine y_cs (va_runV (As := [.int x1]) (rest := []) ⟨hx, hb, hml, hown, hts⟩ (c_X1_isThere l G ad hI M _ qMi_1 x1 (qOk.b1 h)) (cwV 1 hts gX7_behind_X1_isThere rfl rfl rfl (by decide +kernel) ⟨Nat.le_of_ble_eq_true rfl, Nat.le_of_ble_eq_true rfl⟩) ⟨qPre.blind, qrecv hK hH (qMi_ob qMi_1) rfl, qPre.at hK hH⟩ rfl rfl hl.1 rfl (lv_room (Nat.le_of_ble_eq_true rfl)) dX7_behind_5 ⟨Nat.zero_le _, Nat.zero_le _⟩) (fun v1 h => ?_)
  refine lv_if_ne (tgt := 13) hx hb dX7_behind_8 (by decide) (fun hc => ?_) (fun hc => ?_)
  · have h := qOk.f hc h
    refine lv_iload_n hx hb dX7_behind_13 rfl (lv_at hl 2 rfl) ?_
    refine lv_if_lt (tgt := 22) hx hb dX7_behind_14 (by decide) (fun hc => ?_) (fun hc => ?_)
    · have h := qOk.t hc h
      refine lv_bipush (v := (-2)) hx hb dX7_behind_22 (by decide) ?_
      exact W.iret hx hb hr (fun t ht _ => ⟨⟨_, _, rfl, qOk2.s h, qHpt ht hH.1⟩, hH.2.F ht⟩) hH.2.2.2 dX7_behind_24
    · have h := qOk.f hc h
      refine lv_iload_n hx hb dX7_behind_17 rfl (lv_at hl 2 rfl) ?_
      refine lv_iconst (v := 2) hx hb dX7_behind_18 (by decide) ?_
      refine lv_icmp_le (tgt := 25) hx hb dX7_behind_19 (by decide) (fun hc => ?_) (fun hc => ?_)
      · have h := qOk.t hc h
        refine lv_aload_n hx hb dX7_behind_25 rfl (lv_at hl 0 rfl) ?_
        refine y_ci hH (va_runV (As := []) (rest := []) ⟨hx, hb, hml, hown, hts⟩ (c_X7_canBeDone l G ad hI M _  (qOk.b2 h)) (cwV 0 hts gX7_behind_X7_canBeDone rfl rfl rfl (by decide +kernel) ⟨Nat.le_of_ble_eq_true rfl, Nat.le_of_ble_eq_true rfl⟩) ⟨qPre.blind, qrecv hK hH qOb_7 rfl, qPre.at hK hH⟩ rfl rfl hl.1 rfl (lv_room (Nat.le_of_ble_eq_true rfl)) dX7_behind_26 ⟨Nat.zero_le _, Nat.zero_le _⟩) (fun v3 M2 H locs hH h => ?_)
        refine lv_if_ne (tgt := 35) hx hb dX7_behind_29 (by decide) (fun hc => ?_) (fun hc => ?_)
        · have h := qOk.f hc h
          refine lv_aload_n hx hb dX7_behind_35 rfl (lv_at hl 0 rfl) ?_
          refine y_get hx hb hts i_X7 hown hK hH qOb_7 rfl 5 (by decide) f41 rfl dX7_behind_36 ?_
          refine y_get hx hb hts i_X4 hown hK hH qOb_4 rfl 0 (by decide) f142 rfl dX7_behind_39 ?_
          refine lv_astore_n (lv' := [(3, .ref (ad 48)), (0, .ref (ad 0)), (1, .int x1), (2, .int x2)]) hx hb dX7_behind_42 rfl hl (by decide) rfl (fun ls hl => ?_)
          refine lv_iload_n hx hb dX7_behind_43 rfl (lv_at hl 3 rfl) ?_
          refine lv_if_ne (tgt := 53) hx hb dX7_behind_44 (by decide) (fun hc => ?_) (fun hc => ?_)
          · have h := qOk.f hc h
            refine lv_iload_n hx hb dX7_behind_53 rfl (lv_at hl 3 rfl) ?_
            refine lv_iconst (v := 1) hx hb dX7_behind_54 (by decide) ?_
            refine qj1 (G := fun (v4 : Int32) => W p l e (headSpec wsX7_behind rm_X7_behind).room s m [.ref (ad 0), .int x1, .int x2].toArray below meth c H locs 0 0 (MQ below (va_Qi P (fun u t => qHp W1N e1 G ad u t.heap) (qA W1N ad s.heap.size)) [.ref (ad 0), .int x1, .int x2].toArray s 0 0 (qA W1N ad s.heap.size)) (F0 m 73 ls [.int v4])) h ?_ ?_
            rotate_left
            · intro h
              refine lv_icmp_ne (tgt := 67) hx hb dX7_behind_55 (by decide) (fun hc => ?_) (fun hc => ?_)
              · have h := qOk.f hc h
                refine lv_aload_n hx hb dX7_behind_67 rfl (lv_at hl 0 rfl) ?_
                refine y_get hx hb hts i_X1 hown hK hH (qMi_ob qMi_48) rfl 12 (by decide) f104 rfl dX7_behind_68 ?_
                refine lv_iload_n hx hb dX7_behind_71 rfl (lv_at hl 2 rfl) ?_
                refine y_iald hx hb hK hH (qMi_a8 qMi_48) h dX7_behind_72 (fun v5 h => ?_)
                have h := qOk.s h
                exact h
              · have h := qOk.t hc h
                refine lv_aload_n hx hb dX7_behind_58 rfl (lv_at hl 0 rfl) ?_
                refine y_get hx hb hts i_X1 hown hK hH (qMi_ob qMi_48) rfl 11 (by decide) f101 rfl dX7_behind_59 ?_
                refine lv_iload_n hx hb dX7_behind_62 rfl (lv_at hl 2 rfl) ?_
                refine y_iald hx hb hK hH (qMi_a7 qMi_48) h dX7_behind_63 (fun v6 h => ?_)
                refine lv_goto (tgt := 73) hx hb dX7_behind_64 (by decide) ?_
                have h := qOk.s h
                exact h
            intro v4 h
            exact W.iret hx hb hr (fun t ht _ => ⟨⟨_, _, rfl, qOk2.s h, qHpt ht hH.1⟩, hH.2.F ht⟩) hH.2.2.2 dX7_behind_73
          · have h := qOk.t hc h
            refine lv_aload_n hx hb dX7_behind_47 rfl (lv_at hl 0 rfl) ?_
            refine lv_iload_n hx hb dX7_behind_48 rfl (lv_at hl 2 rfl) ?_
            refine y_cs (va_runV (As := [.int x1]) (rest := []) ⟨hx, hb, hml, hown, hts⟩ (c_X1_noteOrNone l G ad hI M2 _ qMi_48 x1 (qOk.b1 h)) (cwV 1 hts gX7_behind_X1_noteOrNone rfl rfl rfl (by decide +kernel) ⟨Nat.le_of_ble_eq_true rfl, Nat.le_of_ble_eq_true rfl⟩) ⟨qPre.blind, qrecv hK hH (qMi_ob qMi_48) rfl, qPre.at hK hH⟩ rfl rfl hl.1 rfl (lv_room (Nat.le_of_ble_eq_true rfl)) dX7_behind_49 ⟨Nat.zero_le _, Nat.zero_le _⟩) (fun v7 h => ?_)
            exact W.iret hx hb hr (fun t ht _ => ⟨⟨_, _, rfl, qOk2.s h, qHpt ht hH.1⟩, hH.2.F ht⟩) hH.2.2.2 dX7_behind_52
        · have h := qOk.t hc h
          refine lv_bipush (v := (-5)) hx hb dX7_behind_32 (by decide) ?_
          exact W.iret hx hb hr (fun t ht _ => ⟨⟨_, _, rfl, qOk2.s h, qHpt ht hH.1⟩, hH.2.F ht⟩) hH.2.2.2 dX7_behind_34
      · have h := qOk.f hc h
        refine lv_bipush (v := (-2)) hx hb dX7_behind_22 (by decide) ?_
        exact W.iret hx hb hr (fun t ht _ => ⟨⟨_, _, rfl, qOk2.s h, qHpt ht hH.1⟩, hH.2.F ht⟩) hH.2.2.2 dX7_behind_24
  · have h := qOk.t hc h
    refine lv_iconst (v := (-1)) hx hb dX7_behind_11 (by decide) ?_
    exact W.iret hx hb hr (fun t ht _ => ⟨⟨_, _, rfl, qOk2.s h, qHpt ht hH.1⟩, hH.2.F ht⟩) hH.2.2.2 dX7_behind_12
abbrev rm_X7_seam : Room := { frames := 6, cells := 0, slots := 0, locals := 135 }
set_option maxHeartbeats 4000000 in
set_option maxRecDepth 100000 in
theorem c_X7_seam (l : Launch) (G : qG) (ad : Nat → Nat) (hI : qI W1N ad) (M : qM) (sz : Nat) (x1 : Int32) (x2 : Int32) {P : Int32 → qM → Prop} (h : qOk2 (kX7_seam M x1 x2) P) : Met l yX7_seam wsX7_seam rm_X7_seam (va_Pc [.ref (ad 0), .int x1, .int x2] (qPre W1N e1 G ad M sz)) (va_Qi P (fun u t => qHp W1N e1 G ad u t.heap) (qA W1N ad sz)) 0 0 (qA W1N ad sz) := by
  refine Met.ofW (cc := cX7_seam) (maxL := 3) (ret := (some .int)) (by decide) rfl ?_
  intro p e s m args below meth c s₁ B hml hv
  obtain ⟨rfl, hsz, hK, hP⟩ := hv
  subst hsz
  have hx := B.exec
  have hb := B.bytes
  have hr := B.returns
  have hts := atoms_spec (ws := wsX7_seam) B.pre
  have hown : s.vm.findClass RX7 = some m.cls := findClass_of_methodNamed B.named
  have hlocks := B.notSynchronized
  have hH : qHS W1N e1 G ad M s.heap s.heap [] := ⟨hP, va_S.rf⟩
  have f34 : (Cond.fieldLink RX7 34 "SongLamps" "lamps" "LSongLamps$Lamps;").before [.ref (ad 0), .int x1, .int x2].toArray s = true := hts _ (by decide +kernel)
  have i_X7 : ∀ w ∈ wsX70, w ∈ wsX7_seam := fun w hw => List.mem_cons_of_mem _ ((List.mem_append_left _ (List.mem_append_left _ (List.mem_append_left _ (List.mem_append_left _ (List.mem_append_right _ hw))))))
  have f41 : (Cond.fieldLink RX7 41 "SongLamps" "trial" "LSongLamps$Trial;").before [.ref (ad 0), .int x1, .int x2].toArray s = true := hts _ (by decide +kernel)
  have f142 : (Cond.fieldLink RX7 142 "SongLamps$Trial" "mine" "LSongLamps$Mine;").before [.ref (ad 0), .int x1, .int x2].toArray s = true := hts _ (by decide +kernel)
  have i_X4 : ∀ w ∈ wsX40, w ∈ wsX7_seam := fun w hw => List.mem_cons_of_mem _ ((List.mem_append_left _ (List.mem_append_left _ (List.mem_append_left _ (List.mem_append_right _ hw)))))
  have f161 : (Cond.fieldLink RX7 161 "SongLamps$Lamps" "full" "[I").before [.ref (ad 0), .int x1, .int x2].toArray s = true := hts _ (by decide +kernel)
  have i_X0 : ∀ w ∈ wsX00, w ∈ wsX7_seam := fun w hw => List.mem_cons_of_mem _ ((List.mem_append_left _ (List.mem_append_right _ hw)))
  have f155 : (Cond.fieldLink RX7 155 "SongLamps$Mine" "coal" "[I").before [.ref (ad 0), .int x1, .int x2].toArray s = true := hts _ (by decide +kernel)
  have i_X1 : ∀ w ∈ wsX10, w ∈ wsX7_seam := fun w hw => List.mem_cons_of_mem _ ((List.mem_append_left _ (List.mem_append_left _ (List.mem_append_right _ hw))))
  have hl := lv_entry ([.ref (ad 0), .int x1, .int x2]) (n := 3) (Nat.le_of_ble_eq_true rfl)
  rw [lg_entry_eq]
  generalize (lg_sl ([.ref (ad 0), .int x1, .int x2]) ++ List.replicate (3 - (lg_sl ([.ref (ad 0), .int x1, .int x2])).length) Slot.unset).toArray = ls at hl ⊢
  have hl : lv_has ls 3 [(0, .ref (ad 0)), (1, .int x1), (2, .int x2)] := hl
  have h : qOk (kX7_seam M x1 x2) _ := h
  unfold kX7_seam at h
  refine lv_iload_n hx hb dX7_seam_0 rfl (lv_at hl 1 rfl) ?_
  refine y_cs (va_runS (As := [.int x1]) (rest := []) ⟨hx, hb, hml, hown, hts⟩ (c_X7_isGallery l x1 (qOk.b1 h)) (va_cwS 1 hts gX7_seam_X7_isGallery rfl rfl rfl (by decide +kernel) ⟨Nat.le_of_ble_eq_true rfl, Nat.le_of_ble_eq_true rfl⟩) ⟨qPrT.blind, qPrT.at⟩ rfl rfl hl.1 rfl (lv_room (Nat.le_of_ble_eq_true rfl)) dX7_seam_1 ⟨Nat.zero_le _, Nat.zero_le _⟩) (fun v1 h => ?_)
  refine lv_if_ne (tgt := 9) hx hb dX7_seam_4 (by decide) (fun hc => ?_) (fun hc => ?_)
  · have h := qOk.f hc h
    refine lv_iload_n hx hb dX7_seam_9 rfl (lv_at hl 2 rfl) ?_
    refine lv_if_lt (tgt := 18) hx hb dX7_seam_10 (by decide) (fun hc => ?_) (fun hc => ?_)
    · have h := qOk.t hc h
      refine lv_bipush (v := (-2)) hx hb dX7_seam_18 (by decide) ?_
      exact W.iret hx hb hr (fun t ht _ => ⟨⟨_, _, rfl, qOk2.s h, qHpt ht hH.1⟩, hH.2.F ht⟩) hH.2.2.2 dX7_seam_20
    · have h := qOk.f hc h
      refine lv_iload_n hx hb dX7_seam_13 rfl (lv_at hl 2 rfl) ?_
      refine lv_iconst (v := 1) hx hb dX7_seam_14 (by decide) ?_
      refine lv_icmp_le (tgt := 21) hx hb dX7_seam_15 (by decide) (fun hc => ?_) (fun hc => ?_)
      · have h := qOk.t hc h
        refine lv_aload_n hx hb dX7_seam_21 rfl (lv_at hl 0 rfl) ?_
        refine y_ci hH (va_runV (As := []) (rest := []) ⟨hx, hb, hml, hown, hts⟩ (c_X7_canBeDone l G ad hI M _  (qOk.b2 h)) (cwV 0 hts gX7_seam_X7_canBeDone rfl rfl rfl (by decide +kernel) ⟨Nat.le_of_ble_eq_true rfl, Nat.le_of_ble_eq_true rfl⟩) ⟨qPre.blind, qrecv hK hH qOb_7 rfl, qPre.at hK hH⟩ rfl rfl hl.1 rfl (lv_room (Nat.le_of_ble_eq_true rfl)) dX7_seam_22 ⟨Nat.zero_le _, Nat.zero_le _⟩) (fun v3 M2 H locs hH h => ?_)
        refine lv_if_ne (tgt := 31) hx hb dX7_seam_25 (by decide) (fun hc => ?_) (fun hc => ?_)
        · have h := qOk.f hc h
          refine lv_iload_n hx hb dX7_seam_31 rfl (lv_at hl 2 rfl) ?_
          refine lv_iconst (v := 1) hx hb dX7_seam_32 (by decide) ?_
          refine lv_icmp_ne (tgt := 49) hx hb dX7_seam_33 (by decide) (fun hc => ?_) (fun hc => ?_)
          · have h := qOk.f hc h
            refine lv_aload_n hx hb dX7_seam_49 rfl (lv_at hl 0 rfl) ?_
            refine y_get hx hb hts i_X7 hown hK hH qOb_7 rfl 4 (by decide) f34 rfl dX7_seam_50 ?_
            refine lv_aload_n hx hb dX7_seam_53 rfl (lv_at hl 0 rfl) ?_
            refine y_get hx hb hts i_X7 hown hK hH qOb_7 rfl 5 (by decide) f41 rfl dX7_seam_54 ?_
            refine y_get hx hb hts i_X4 hown hK hH qOb_4 rfl 0 (by decide) f142 rfl dX7_seam_57 ?_
            refine y_cv hH (va_runV (As := [.ref (ad 48)]) (rest := []) ⟨hx, hb, hml, hown, hts⟩ (c_X0_shineOn l G ad hI M2 _ qLa_44 qMi_48 (qOk.b1 h)) (cwV 1 hts gX7_seam_X0_shineOn rfl rfl rfl (by decide +kernel) ⟨Nat.le_of_ble_eq_true rfl, Nat.le_of_ble_eq_true rfl⟩) ⟨qPre.blind, qrecv hK hH (qLa_ob qLa_44) rfl, qPre.at hK hH⟩ rfl rfl hl.1 rfl (lv_room (Nat.le_of_ble_eq_true rfl)) dX7_seam_60 ⟨Nat.zero_le _, Nat.zero_le _⟩) (fun M4 H locs hH h => ?_)
            refine lv_aload_n hx hb dX7_seam_63 rfl (lv_at hl 0 rfl) ?_
            refine y_get hx hb hts i_X7 hown hK hH qOb_7 rfl 4 (by decide) f34 rfl dX7_seam_64 ?_
            refine y_get hx hb hts i_X0 hown hK hH (qLa_ob qLa_44) rfl 1 (by decide) f161 rfl dX7_seam_67 ?_
            refine lv_iload_n hx hb dX7_seam_70 rfl (lv_at hl 1 rfl) ?_
            refine y_iald hx hb hK hH (qLa_a2 qLa_44) h dX7_seam_71 (fun v5 h => ?_)
            exact W.iret hx hb hr (fun t ht _ => ⟨⟨_, _, rfl, qOk2.s h, qHpt ht hH.1⟩, hH.2.F ht⟩) hH.2.2.2 dX7_seam_72
          · have h := qOk.t hc h
            refine lv_aload_n hx hb dX7_seam_36 rfl (lv_at hl 0 rfl) ?_
            refine y_get hx hb hts i_X7 hown hK hH qOb_7 rfl 5 (by decide) f41 rfl dX7_seam_37 ?_
            refine y_get hx hb hts i_X4 hown hK hH qOb_4 rfl 0 (by decide) f142 rfl dX7_seam_40 ?_
            refine y_get hx hb hts i_X1 hown hK hH (qMi_ob qMi_48) rfl 2 (by decide) f155 rfl dX7_seam_43 ?_
            refine lv_iload_n hx hb dX7_seam_46 rfl (lv_at hl 1 rfl) ?_
            refine y_iald hx hb hK hH (qMi_a3 qMi_48) h dX7_seam_47 (fun v6 h => ?_)
            exact W.iret hx hb hr (fun t ht _ => ⟨⟨_, _, rfl, qOk2.s h, qHpt ht hH.1⟩, hH.2.F ht⟩) hH.2.2.2 dX7_seam_48
        · have h := qOk.t hc h
          refine lv_bipush (v := (-5)) hx hb dX7_seam_28 (by decide) ?_
          exact W.iret hx hb hr (fun t ht _ => ⟨⟨_, _, rfl, qOk2.s h, qHpt ht hH.1⟩, hH.2.F ht⟩) hH.2.2.2 dX7_seam_30
      · have h := qOk.f hc h
        refine lv_bipush (v := (-2)) hx hb dX7_seam_18 (by decide) ?_
        exact W.iret hx hb hr (fun t ht _ => ⟨⟨_, _, rfl, qOk2.s h, qHpt ht hH.1⟩, hH.2.F ht⟩) hH.2.2.2 dX7_seam_20
  · have h := qOk.t hc h
    refine lv_iconst (v := (-1)) hx hb dX7_seam_7 (by decide) ?_
    exact W.iret hx hb hr (fun t ht _ => ⟨⟨_, _, rfl, qOk2.s h, qHpt ht hH.1⟩, hH.2.F ht⟩) hH.2.2.2 dX7_seam_8
