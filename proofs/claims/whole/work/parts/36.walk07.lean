abbrev rm_X7_then : Room := { frames := 6, cells := 0, slots := 0, locals := 135 }
set_option maxHeartbeats 4000000 in
set_option maxRecDepth 100000 in
theorem c_X7_then (l : Launch) (G : qG) (ad : Nat → Nat) (hI : qI W1N ad) (M : qM) (sz : Nat) (x1 : Int32) {P : Int32 → qM → Prop} (h : qOk2 (kX7_then M x1) P) : Met l yX7_then wsX7_then rm_X7_then (va_Pc [.ref (ad 0), .int x1] (qPre W1N e1 G ad M sz)) (va_Qi P (fun u t => qHp W1N e1 G ad u t.heap) (qA W1N ad sz)) 0 0 (qA W1N ad sz) := by
  refine Met.ofW (cc := cX7_then) (maxL := 2) (ret := (some .int)) (by decide) rfl ?_
  intro p e s m args below meth c s₁ B hml hv
  obtain ⟨rfl, hsz, hK, hP⟩ := hv
  subst hsz
  have hx := B.exec
  have hb := B.bytes
  have hr := B.returns
  have hts := atoms_spec (ws := wsX7_then) B.pre
  have hown : s.vm.findClass RX7 = some m.cls := findClass_of_methodNamed B.named
  have hlocks := B.notSynchronized
  have hH : qHS W1N e1 G ad M s.heap s.heap [] := ⟨hP, va_S.rf⟩
  have f34 : (Cond.fieldLink RX7 34 "SongLamps" "lamps" "LSongLamps$Lamps;").before [.ref (ad 0), .int x1].toArray s = true := hts _ (by decide +kernel)
  have i_X7 : ∀ w ∈ wsX70, w ∈ wsX7_then := fun w hw => List.mem_cons_of_mem _ ((List.mem_append_left _ (List.mem_append_left _ (List.mem_append_left _ (List.mem_append_left _ (List.mem_append_right _ hw))))))
  have f41 : (Cond.fieldLink RX7 41 "SongLamps" "trial" "LSongLamps$Trial;").before [.ref (ad 0), .int x1].toArray s = true := hts _ (by decide +kernel)
  have f142 : (Cond.fieldLink RX7 142 "SongLamps$Trial" "mine" "LSongLamps$Mine;").before [.ref (ad 0), .int x1].toArray s = true := hts _ (by decide +kernel)
  have i_X4 : ∀ w ∈ wsX40, w ∈ wsX7_then := fun w hw => List.mem_cons_of_mem _ ((List.mem_append_left _ (List.mem_append_left _ (List.mem_append_left _ (List.mem_append_right _ hw)))))
  have f164 : (Cond.fieldLink RX7 164 "SongLamps$Lamps" "burning" "I").before [.ref (ad 0), .int x1].toArray s = true := hts _ (by decide +kernel)
  have i_X0 : ∀ w ∈ wsX00, w ∈ wsX7_then := fun w hw => List.mem_cons_of_mem _ ((List.mem_append_left _ (List.mem_append_left _ (List.mem_append_right _ hw))))
  have f167 : (Cond.fieldLink RX7 167 "SongLamps$Mine" "beat" "I").before [.ref (ad 0), .int x1].toArray s = true := hts _ (by decide +kernel)
  have i_X1 : ∀ w ∈ wsX10, w ∈ wsX7_then := fun w hw => List.mem_cons_of_mem _ ((List.mem_append_left _ (List.mem_append_right _ hw)))
  have f173 : (Cond.fieldLink RX7 173 "SongLamps$Trial" "darkAct" "I").before [.ref (ad 0), .int x1].toArray s = true := hts _ (by decide +kernel)
  have f176 : (Cond.fieldLink RX7 176 "SongLamps$Trial" "darkGallery" "I").before [.ref (ad 0), .int x1].toArray s = true := hts _ (by decide +kernel)
  have hl := lv_entry ([.ref (ad 0), .int x1]) (n := 2) (Nat.le_of_ble_eq_true rfl)
  rw [lg_entry_eq]
  generalize (lg_sl ([.ref (ad 0), .int x1]) ++ List.replicate (2 - (lg_sl ([.ref (ad 0), .int x1])).length) Slot.unset).toArray = ls at hl ⊢
  have hl : lv_has ls 2 [(0, .ref (ad 0)), (1, .int x1)] := hl
  have h : qOk (kX7_then M x1) _ := h
  unfold kX7_then at h
  refine lv_iload_n hx hb dX7_then_0 rfl (lv_at hl 1 rfl) ?_
  refine lv_if_lt (tgt := 9) hx hb dX7_then_1 (by decide) (fun hc => ?_) (fun hc => ?_)
  · have h := qOk.t hc h
    refine lv_bipush (v := (-2)) hx hb dX7_then_9 (by decide) ?_
    exact W.iret hx hb hr (fun t ht _ => ⟨⟨_, _, rfl, qOk2.s h, qHpt ht hH.1⟩, hH.2.F ht⟩) hH.2.2.2 dX7_then_11
  · have h := qOk.f hc h
    refine lv_iload_n hx hb dX7_then_4 rfl (lv_at hl 1 rfl) ?_
    refine lv_iconst (v := 4) hx hb dX7_then_5 (by decide) ?_
    refine lv_icmp_le (tgt := 12) hx hb dX7_then_6 (by decide) (fun hc => ?_) (fun hc => ?_)
    · have h := qOk.t hc h
      refine lv_aload_n hx hb dX7_then_12 rfl (lv_at hl 0 rfl) ?_
      refine y_ci hH (va_runV (As := []) (rest := []) ⟨hx, hb, hml, hown, hts⟩ (c_X7_canBeDone l G ad hI M _  (qOk.b2 h)) (cwV 0 hts gX7_then_X7_canBeDone rfl rfl rfl (by decide +kernel) ⟨Nat.le_of_ble_eq_true rfl, Nat.le_of_ble_eq_true rfl⟩) ⟨qPre.blind, qrecv hK hH qOb_7 rfl, qPre.at hK hH⟩ rfl rfl hl.1 rfl (lv_room (Nat.le_of_ble_eq_true rfl)) dX7_then_13 ⟨Nat.zero_le _, Nat.zero_le _⟩) (fun v2 M1 H locs hH h => ?_)
      refine lv_if_ne (tgt := 22) hx hb dX7_then_16 (by decide) (fun hc => ?_) (fun hc => ?_)
      · have h := qOk.f hc h
        refine lv_iload_n hx hb dX7_then_22 rfl (lv_at hl 1 rfl) ?_
        by_cases c0 : x1 = 0
        · have h := qOk.t c0 h
          refine lv_tableIn (tgt := 52) hx hb dX7_then_23 (by rw [c0]; decide) (by rw [c0]; decide) (by rw [c0]; rfl) (by decide) ?_
          refine lv_aload_n hx hb dX7_then_52 rfl (lv_at hl 0 rfl) ?_
          refine y_get hx hb hts i_X7 hown hK hH qOb_7 rfl 4 (by decide) f34 rfl dX7_then_53 ?_
          refine lv_aload_n hx hb dX7_then_56 rfl (lv_at hl 0 rfl) ?_
          refine y_get hx hb hts i_X7 hown hK hH qOb_7 rfl 5 (by decide) f41 rfl dX7_then_57 ?_
          refine y_get hx hb hts i_X4 hown hK hH qOb_4 rfl 0 (by decide) f142 rfl dX7_then_60 ?_
          refine y_cv hH (va_runV (As := [.ref (ad 48)]) (rest := []) ⟨hx, hb, hml, hown, hts⟩ (c_X0_shineOn l G ad hI M1 _ qLa_44 qMi_48 (qOk.b1 h)) (cwV 1 hts gX7_then_X0_shineOn rfl rfl rfl (by decide +kernel) ⟨Nat.le_of_ble_eq_true rfl, Nat.le_of_ble_eq_true rfl⟩) ⟨qPre.blind, qrecv hK hH (qLa_ob qLa_44) rfl, qPre.at hK hH⟩ rfl rfl hl.1 rfl (lv_room (Nat.le_of_ble_eq_true rfl)) dX7_then_63 ⟨Nat.zero_le _, Nat.zero_le _⟩) (fun M3 H locs hH h => ?_)
          refine lv_aload_n hx hb dX7_then_66 rfl (lv_at hl 0 rfl) ?_
          refine y_get hx hb hts i_X7 hown hK hH qOb_7 rfl 4 (by decide) f34 rfl dX7_then_67 ?_
          refine y_get hx hb hts i_X0 hown hK hH (qLa_ob qLa_44) rfl 2 (by decide) f164 rfl dX7_then_70 ?_
          exact W.iret hx hb hr (fun t ht _ => ⟨⟨_, _, rfl, qOk2.s h, qHpt ht hH.1⟩, hH.2.F ht⟩) hH.2.2.2 dX7_then_73
        have h := qOk.f c0 h
        by_cases c1 : x1 = 1
        · have h := qOk.t c1 h
          refine lv_tableIn (tgt := 74) hx hb dX7_then_23 (by rw [c1]; decide) (by rw [c1]; decide) (by rw [c1]; rfl) (by decide) ?_
          refine lv_aload_n hx hb dX7_then_74 rfl (lv_at hl 0 rfl) ?_
          refine y_get hx hb hts i_X7 hown hK hH qOb_7 rfl 5 (by decide) f41 rfl dX7_then_75 ?_
          refine y_get hx hb hts i_X4 hown hK hH qOb_4 rfl 0 (by decide) f142 rfl dX7_then_78 ?_
          refine y_get hx hb hts i_X1 hown hK hH (qMi_ob qMi_48) rfl 6 (by decide) f167 rfl dX7_then_81 ?_
          exact W.iret hx hb hr (fun t ht _ => ⟨⟨_, _, rfl, qOk2.s h, qHpt ht hH.1⟩, hH.2.F ht⟩) hH.2.2.2 dX7_then_84
        have h := qOk.f c1 h
        by_cases c2 : x1 = 2
        · have h := qOk.t c2 h
          refine lv_tableIn (tgt := 85) hx hb dX7_then_23 (by rw [c2]; decide) (by rw [c2]; decide) (by rw [c2]; rfl) (by decide) ?_
          refine lv_aload_n hx hb dX7_then_85 rfl (lv_at hl 0 rfl) ?_
          refine y_get hx hb hts i_X7 hown hK hH qOb_7 rfl 5 (by decide) f41 rfl dX7_then_86 ?_
          refine y_get hx hb hts i_X4 hown hK hH qOb_4 rfl 0 (by decide) f142 rfl dX7_then_89 ?_
          refine y_cs (va_runV (As := []) (rest := []) ⟨hx, hb, hml, hown, hts⟩ (c_X1_coalInAll l G ad hI M1 _ qMi_48 (qOk.b1 h)) (cwV 0 hts gX7_then_X1_coalInAll rfl rfl rfl (by decide +kernel) ⟨Nat.le_of_ble_eq_true rfl, Nat.le_of_ble_eq_true rfl⟩) ⟨qPre.blind, qrecv hK hH (qMi_ob qMi_48) rfl, qPre.at hK hH⟩ rfl rfl hl.1 rfl (lv_room (Nat.le_of_ble_eq_true rfl)) dX7_then_92 ⟨Nat.zero_le _, Nat.zero_le _⟩) (fun v4 h => ?_)
          exact W.iret hx hb hr (fun t ht _ => ⟨⟨_, _, rfl, qOk2.s h, qHpt ht hH.1⟩, hH.2.F ht⟩) hH.2.2.2 dX7_then_95
        have h := qOk.f c2 h
        by_cases c3 : x1 = 3
        · have h := qOk.t c3 h
          refine lv_tableIn (tgt := 96) hx hb dX7_then_23 (by rw [c3]; decide) (by rw [c3]; decide) (by rw [c3]; rfl) (by decide) ?_
          refine lv_aload_n hx hb dX7_then_96 rfl (lv_at hl 0 rfl) ?_
          refine y_get hx hb hts i_X7 hown hK hH qOb_7 rfl 5 (by decide) f41 rfl dX7_then_97 ?_
          refine y_get hx hb hts i_X4 hown hK hH qOb_4 rfl 3 (by decide) f173 rfl dX7_then_100 ?_
          exact W.iret hx hb hr (fun t ht _ => ⟨⟨_, _, rfl, qOk2.s h, qHpt ht hH.1⟩, hH.2.F ht⟩) hH.2.2.2 dX7_then_103
        have h := qOk.f c3 h
        have n0 := lv_neT c0 (a := 0) rfl
        have n1 := lv_neT c1 (a := 1) rfl
        have n2 := lv_neT c2 (a := 2) rfl
        have n3 := lv_neT c3 (a := 3) rfl
        refine lv_tableOut (tgt := 104) hx hb dX7_then_23 (by omega) (by decide) ?_
        refine lv_aload_n hx hb dX7_then_104 rfl (lv_at hl 0 rfl) ?_
        refine y_get hx hb hts i_X7 hown hK hH qOb_7 rfl 5 (by decide) f41 rfl dX7_then_105 ?_
        refine y_get hx hb hts i_X4 hown hK hH qOb_4 rfl 4 (by decide) f176 rfl dX7_then_108 ?_
        exact W.iret hx hb hr (fun t ht _ => ⟨⟨_, _, rfl, qOk2.s h, qHpt ht hH.1⟩, hH.2.F ht⟩) hH.2.2.2 dX7_then_111
      · have h := qOk.t hc h
        refine lv_bipush (v := (-5)) hx hb dX7_then_19 (by decide) ?_
        exact W.iret hx hb hr (fun t ht _ => ⟨⟨_, _, rfl, qOk2.s h, qHpt ht hH.1⟩, hH.2.F ht⟩) hH.2.2.2 dX7_then_21
    · have h := qOk.f hc h
      refine lv_bipush (v := (-2)) hx hb dX7_then_9 (by decide) ?_
      exact W.iret hx hb hr (fun t ht _ => ⟨⟨_, _, rfl, qOk2.s h, qHpt ht hH.1⟩, hH.2.F ht⟩) hH.2.2.2 dX7_then_11
abbrev rm_X7_light : Room := { frames := 4, cells := 0, slots := 0, locals := 90 }
set_option maxHeartbeats 4000000 in
set_option maxRecDepth 100000 in
theorem c_X7_light (l : Launch) (G : qG) (ad : Nat → Nat) (hI : qI W1N ad) (M : qM) (sz : Nat) (x1 : Int32) {P : Int32 → qM → Prop} (h : qOk2 (kX7_light M x1) P) : Met l yX7_light wsX7_light rm_X7_light (va_Pc [.ref (ad 0), .int x1] (qPre W1N e1 G ad M sz)) (va_Qi P (fun u t => qHp W1N e1 G ad u t.heap) (qA W1N ad sz)) 0 0 (qA W1N ad sz) := by
  refine Met.ofW (cc := cX7_light) (maxL := 2) (ret := (some .int)) (by decide) rfl ?_
  intro p e s m args below meth c s₁ B hml hv
  obtain ⟨rfl, hsz, hK, hP⟩ := hv
  subst hsz
  have hx := B.exec
  have hb := B.bytes
  have hr := B.returns
  have hts := atoms_spec (ws := wsX7_light) B.pre
  have hown : s.vm.findClass RX7 = some m.cls := findClass_of_methodNamed B.named
  have hlocks := B.notSynchronized
  have hH : qHS W1N e1 G ad M s.heap s.heap [] := ⟨hP, va_S.rf⟩
  have f34 : (Cond.fieldLink RX7 34 "SongLamps" "lamps" "LSongLamps$Lamps;").before [.ref (ad 0), .int x1].toArray s = true := hts _ (by decide +kernel)
  have i_X7 : ∀ w ∈ wsX70, w ∈ wsX7_light := fun w hw => List.mem_cons_of_mem _ ((List.mem_append_left _ (List.mem_append_left _ (List.mem_append_right _ hw))))
  have f10 : (Cond.fieldLink RX7 10 "SongLamps" "now" "LSongLamps$Mine;").before [.ref (ad 0), .int x1].toArray s = true := hts _ (by decide +kernel)
  have f161 : (Cond.fieldLink RX7 161 "SongLamps$Lamps" "full" "[I").before [.ref (ad 0), .int x1].toArray s = true := hts _ (by decide +kernel)
  have i_X0 : ∀ w ∈ wsX00, w ∈ wsX7_light := fun w hw => List.mem_cons_of_mem _ ((List.mem_append_left _ (List.mem_append_right _ hw)))
  have hl := lv_entry ([.ref (ad 0), .int x1]) (n := 2) (Nat.le_of_ble_eq_true rfl)
  rw [lg_entry_eq]
  generalize (lg_sl ([.ref (ad 0), .int x1]) ++ List.replicate (2 - (lg_sl ([.ref (ad 0), .int x1])).length) Slot.unset).toArray = ls at hl ⊢
  have hl : lv_has ls 2 [(0, .ref (ad 0)), (1, .int x1)] := hl
  have h : qOk (kX7_light M x1) _ := h
  unfold kX7_light at h
  refine lv_iload_n hx hb dX7_light_0 rfl (lv_at hl 1 rfl) ?_
  refine y_cs (va_runS (As := [.int x1]) (rest := []) ⟨hx, hb, hml, hown, hts⟩ (c_X7_isGallery l x1 (qOk.b1 h)) (va_cwS 1 hts gX7_light_X7_isGallery rfl rfl rfl (by decide +kernel) ⟨Nat.le_of_ble_eq_true rfl, Nat.le_of_ble_eq_true rfl⟩) ⟨qPrT.blind, qPrT.at⟩ rfl rfl hl.1 rfl (lv_room (Nat.le_of_ble_eq_true rfl)) dX7_light_1 ⟨Nat.zero_le _, Nat.zero_le _⟩) (fun v1 h => ?_)
  refine lv_if_ne (tgt := 9) hx hb dX7_light_4 (by decide) (fun hc => ?_) (fun hc => ?_)
  · have h := qOk.f hc h
    refine lv_aload_n hx hb dX7_light_9 rfl (lv_at hl 0 rfl) ?_
    refine y_get hx hb hts i_X7 hown hK hH qOb_7 rfl 4 (by decide) f34 rfl dX7_light_10 ?_
    refine lv_aload_n hx hb dX7_light_13 rfl (lv_at hl 0 rfl) ?_
    refine y_get hx hb hts i_X7 hown hK hH qOb_7 rfl 0 (by decide) f10 rfl dX7_light_14 ?_
    refine y_cv hH (va_runV (As := [.ref (ad 1)]) (rest := []) ⟨hx, hb, hml, hown, hts⟩ (c_X0_shineOn l G ad hI M _ qLa_44 qMi_1 (qOk.b1 h)) (cwV 1 hts gX7_light_X0_shineOn rfl rfl rfl (by decide +kernel) ⟨Nat.le_of_ble_eq_true rfl, Nat.le_of_ble_eq_true rfl⟩) ⟨qPre.blind, qrecv hK hH (qLa_ob qLa_44) rfl, qPre.at hK hH⟩ rfl rfl hl.1 rfl (lv_room (Nat.le_of_ble_eq_true rfl)) dX7_light_17 ⟨Nat.zero_le _, Nat.zero_le _⟩) (fun M2 H locs hH h => ?_)
    refine lv_aload_n hx hb dX7_light_20 rfl (lv_at hl 0 rfl) ?_
    refine y_get hx hb hts i_X7 hown hK hH qOb_7 rfl 4 (by decide) f34 rfl dX7_light_21 ?_
    refine y_get hx hb hts i_X0 hown hK hH (qLa_ob qLa_44) rfl 1 (by decide) f161 rfl dX7_light_24 ?_
    refine lv_iload_n hx hb dX7_light_27 rfl (lv_at hl 1 rfl) ?_
    refine y_iald hx hb hK hH (qLa_a2 qLa_44) h dX7_light_28 (fun v3 h => ?_)
    exact W.iret hx hb hr (fun t ht _ => ⟨⟨_, _, rfl, qOk2.s h, qHpt ht hH.1⟩, hH.2.F ht⟩) hH.2.2.2 dX7_light_29
  · have h := qOk.t hc h
    refine lv_iconst (v := (-1)) hx hb dX7_light_7 (by decide) ?_
    exact W.iret hx hb hr (fun t ht _ => ⟨⟨_, _, rfl, qOk2.s h, qHpt ht hH.1⟩, hH.2.F ht⟩) hH.2.2.2 dX7_light_8
abbrev rm_X7_shakes : Room := { frames := 1, cells := 0, slots := 0, locals := 22 }
set_option maxHeartbeats 4000000 in
set_option maxRecDepth 100000 in
theorem c_X7_shakes (l : Launch) (G : qG) (ad : Nat → Nat) (hI : qI W1N ad) (M : qM) (sz : Nat) {P : Int32 → Prop} (h : qOk (kX7_shakes M) P) : Met l yX7_shakes wsX7_shakes rm_X7_shakes (va_Pc [.ref (ad 0)] (qPre W1N e1 G ad M sz)) (vp_Si P) 0 0 (fun _ => False) := by
  refine Met.ofW (cc := cX7_shakes) (maxL := 4) (ret := (some .int)) (by decide) rfl ?_
  intro p e s m args below meth c s₁ B hml hv
  obtain ⟨rfl, hsz, hK, hP⟩ := hv
  subst hsz
  have hx := B.exec
  have hb := B.bytes
  have hr := B.returns
  have hts := atoms_spec (ws := wsX7_shakes) B.pre
  have hown : s.vm.findClass RX7 = some m.cls := findClass_of_methodNamed B.named
  have hlocks := B.notSynchronized
  have hH : qHS W1N e1 G ad M s.heap s.heap [] := ⟨hP, va_S.rf⟩
  have f10 : (Cond.fieldLink RX7 10 "SongLamps" "now" "LSongLamps$Mine;").before [.ref (ad 0)].toArray s = true := hts _ (by decide +kernel)
  have i_X7 : ∀ w ∈ wsX70, w ∈ wsX7_shakes := fun w hw => List.mem_cons_of_mem _ ((List.mem_append_left _ (List.mem_append_right _ hw)))
  have f107 : (Cond.fieldLink RX7 107 "SongLamps$Mine" "note" "[I").before [.ref (ad 0)].toArray s = true := hts _ (by decide +kernel)
  have i_X1 : ∀ w ∈ wsX10, w ∈ wsX7_shakes := fun w hw => List.mem_cons_of_mem _ ((List.mem_append_right _ hw))
  have f104 : (Cond.fieldLink RX7 104 "SongLamps$Mine" "place" "[I").before [.ref (ad 0)].toArray s = true := hts _ (by decide +kernel)
  have hl := lv_entry ([.ref (ad 0)]) (n := 4) (Nat.le_of_ble_eq_true rfl)
  rw [lg_entry_eq]
  generalize (lg_sl ([.ref (ad 0)]) ++ List.replicate (4 - (lg_sl ([.ref (ad 0)])).length) Slot.unset).toArray = ls at hl ⊢
  have hl : lv_has ls 4 [(0, .ref (ad 0))] := hl
  have h : qOk (kX7_shakes M) _ := h
  unfold kX7_shakes at h
  refine lv_iconst (v := 0) hx hb dX7_shakes_0 (by decide) ?_
  refine lv_istore_n (lv' := [(1, .int 0), (0, .ref (ad 0))]) hx hb dX7_shakes_1 rfl hl (by decide) rfl (fun ls hl => ?_)
  refine lv_iconst (v := 0) hx hb dX7_shakes_2 (by decide) ?_
  refine lv_istore_n (lv' := [(2, .int 0), (1, .int 0), (0, .ref (ad 0))]) hx hb dX7_shakes_3 rfl hl (by decide) rfl (fun ls hl => ?_)
  refine qj1 (G := fun (v3 : Int32) => ∀ ls : Array Slot, lv_has ls 4 [(1, .int v3)] → W p l e (headSpec wsX7_shakes rm_X7_shakes).room s m [.ref (ad 0)].toArray below meth c s.heap [] 0 0 (MQ below (vp_Si P) [.ref (ad 0)].toArray s 0 0 (fun _ => False)) (F0 m 79 ls [])) h ?_ ?_
  rotate_left
  · intro h
    refine qloop2 (I := fun (v1 : Int32) (v2 : Int32) => ∀ ls : Array Slot, lv_has ls 4 [(0, .ref (ad 0)), (1, .int v1), (2, .int v2)] → W p l e (headSpec wsX7_shakes rm_X7_shakes).room s m [.ref (ad 0)].toArray below meth c s.heap [] 0 0 (MQ below (vp_Si P) [.ref (ad 0)].toArray s 0 0 (fun _ => False)) (F0 m 4 ls [])) ?_ h _ (lv_sub hl [2, 1, 0] rfl)
    intro v1 v2 h ls hl
    have h : qOk (kX7_shakes_L4 M v1 v2) _ := h
    unfold kX7_shakes_L4 at h
    refine lv_iload_n hx hb dX7_shakes_4 rfl (lv_at hl 2 rfl) ?_
    refine lv_bipush (v := 8) hx hb dX7_shakes_5 (by decide) ?_
    refine lv_icmp_ge (tgt := 79) hx hb dX7_shakes_7 (by decide) (fun hc => ?_) (fun hc => ?_)
    · have h := qOk.t hc h
      exact qOk.le h _ (lv_sub hl [1] rfl)
    · have h := qOk.f hc h
      refine lv_iconst (v := 0) hx hb dX7_shakes_10 (by decide) ?_
      refine lv_istore_n (lv' := [(3, .int 0), (0, .ref (ad 0)), (1, .int v1), (2, .int v2)]) hx hb dX7_shakes_11 rfl hl (by decide) rfl (fun ls hl => ?_)
      refine qj1 (G := fun (v6 : Int32) => ∀ ls : Array Slot, lv_has ls 4 [(0, .ref (ad 0)), (1, .int v6), (2, .int v2)] → W p l e (headSpec wsX7_shakes rm_X7_shakes).room s m [.ref (ad 0)].toArray below meth c s.heap [] 0 0 (MQ below (vp_Si P) [.ref (ad 0)].toArray s 0 0 (fun _ => False)) (F0 m 73 ls [])) h ?_ ?_
      rotate_left
      · intro h
        refine qloop2 (I := fun (v4 : Int32) (v5 : Int32) => ∀ ls : Array Slot, lv_has ls 4 [(0, .ref (ad 0)), (1, .int v4), (2, .int v2), (3, .int v5)] → W p l e (headSpec wsX7_shakes rm_X7_shakes).room s m [.ref (ad 0)].toArray below meth c s.heap [] 0 0 (MQ below (vp_Si P) [.ref (ad 0)].toArray s 0 0 (fun _ => False)) (F0 m 12 ls [])) ?_ h _ (lv_sub hl [1, 2, 3, 0] rfl)
        intro v4 v5 h ls hl
        have h : qOk (kX7_shakes_L12 M v2 v4 v5) _ := h
        unfold kX7_shakes_L12 at h
        refine lv_iload_n hx hb dX7_shakes_12 rfl (lv_at hl 3 rfl) ?_
        refine lv_bipush (v := 8) hx hb dX7_shakes_13 (by decide) ?_
        refine lv_icmp_ge (tgt := 73) hx hb dX7_shakes_15 (by decide) (fun hc => ?_) (fun hc => ?_)
        · have h := qOk.t hc h
          exact qOk.le h _ (lv_sub hl [0, 1, 2] rfl)
        · have h := qOk.f hc h
          refine lv_aload_n hx hb dX7_shakes_18 rfl (lv_at hl 0 rfl) ?_
          refine y_get hx hb hts i_X7 hown hK hH qOb_7 rfl 0 (by decide) f10 rfl dX7_shakes_19 ?_
          refine lv_iload_n hx hb dX7_shakes_22 rfl (lv_at hl 2 rfl) ?_
          refine lv_iload_n hx hb dX7_shakes_23 rfl (lv_at hl 3 rfl) ?_
          refine y_cs (va_runV (As := [.int v2, .int v5]) (rest := []) ⟨hx, hb, hml, hown, hts⟩ (c_X1_singTogether l G ad hI M _ qMi_1 v2 v5 (qOk.b1 h)) (cwV 2 hts gX7_shakes_X1_singTogether rfl rfl rfl (by decide +kernel) ⟨Nat.le_of_ble_eq_true rfl, Nat.le_of_ble_eq_true rfl⟩) ⟨qPre.blind, qrecv hK hH (qMi_ob qMi_1) rfl, qPre.at hK hH⟩ rfl rfl hl.1 rfl (lv_room (Nat.le_of_ble_eq_true rfl)) dX7_shakes_24 ⟨Nat.zero_le _, Nat.zero_le _⟩) (fun v7 h => ?_)
          refine qj1 (G := fun (v8 : Int32) => ∀ ls : Array Slot, lv_has ls 4 [(0, .ref (ad 0)), (1, .int v8), (2, .int v2), (3, .int v5)] → W p l e (headSpec wsX7_shakes rm_X7_shakes).room s m [.ref (ad 0)].toArray below meth c s.heap [] 0 0 (MQ below (vp_Si P) [.ref (ad 0)].toArray s 0 0 (fun _ => False)) (F0 m 67 ls [])) h ?_ ?_
          rotate_left
          · intro h
            refine lv_if_eq (tgt := 67) hx hb dX7_shakes_27 (by decide) (fun hc => ?_) (fun hc => ?_)
            · have h := qOk.t hc h
              have h := qOk.s h
              exact h _ (lv_sub hl [0, 1, 2, 3] rfl)
            · have h := qOk.f hc h
              refine lv_aload_n hx hb dX7_shakes_30 rfl (lv_at hl 0 rfl) ?_
              refine y_get hx hb hts i_X7 hown hK hH qOb_7 rfl 0 (by decide) f10 rfl dX7_shakes_31 ?_
              refine y_get hx hb hts i_X1 hown hK hH (qMi_ob qMi_1) rfl 13 (by decide) f107 rfl dX7_shakes_34 ?_
              refine lv_iload_n hx hb dX7_shakes_37 rfl (lv_at hl 3 rfl) ?_
              refine y_iald hx hb hK hH (qMi_a9 qMi_1) h dX7_shakes_38 (fun v9 h => ?_)
              refine lv_aload_n hx hb dX7_shakes_39 rfl (lv_at hl 0 rfl) ?_
              refine y_get hx hb hts i_X7 hown hK hH qOb_7 rfl 0 (by decide) f10 rfl dX7_shakes_40 ?_
              refine y_get hx hb hts i_X1 hown hK hH (qMi_ob qMi_1) rfl 13 (by decide) f107 rfl dX7_shakes_43 ?_
              refine lv_iload_n hx hb dX7_shakes_46 rfl (lv_at hl 2 rfl) ?_
              refine y_iald hx hb hK hH (qMi_a9 qMi_1) h dX7_shakes_47 (fun v10 h => ?_)
              refine lv_isub hx hb dX7_shakes_48 ?_
              refine lv_iconst (v := 1) hx hb dX7_shakes_49 (by decide) ?_
              refine lv_icmp_ne (tgt := 67) hx hb dX7_shakes_50 (by decide) (fun hc => ?_) (fun hc => ?_)
              · have h := qOk.f hc h
                have h := qOk.s h
                exact h _ (lv_sub hl [0, 1, 2, 3] rfl)
              · have h := qOk.t hc h
                refine lv_iload_n hx hb dX7_shakes_53 rfl (lv_at hl 1 rfl) ?_
                refine lv_iconst (v := 1) hx hb dX7_shakes_54 (by decide) ?_
                refine lv_aload_n hx hb dX7_shakes_55 rfl (lv_at hl 0 rfl) ?_
                refine y_get hx hb hts i_X7 hown hK hH qOb_7 rfl 0 (by decide) f10 rfl dX7_shakes_56 ?_
                refine y_get hx hb hts i_X1 hown hK hH (qMi_ob qMi_1) rfl 12 (by decide) f104 rfl dX7_shakes_59 ?_
                refine lv_iload_n hx hb dX7_shakes_62 rfl (lv_at hl 2 rfl) ?_
                refine y_iald hx hb hK hH (qMi_a8 qMi_1) h dX7_shakes_63 (fun v11 h => ?_)
                refine lv_ishl hx hb dX7_shakes_64 ?_
                refine lv_ior hx hb dX7_shakes_65 ?_
                refine lv_topi (fun v12 ev12 => ?_)
                have h := qOk.v h ev12
                refine lv_istore_n (lv' := [(1, .int v12), (0, .ref (ad 0)), (2, .int v2), (3, .int v5)]) hx hb dX7_shakes_66 rfl hl (by decide) rfl (fun ls hl => ?_)
                have h := qOk.s h
                exact h _ (lv_sub hl [1, 0, 2, 3] rfl)
          intro v8 h ls hl
          obtain ⟨v13, ev13⟩ : ∃ y : Int32, y = v5 + 1 := ⟨_, rfl⟩
          have h := qOk.v h ev13
          refine lv_iinc (v := v13) (lv' := [(3, .int v13), (0, .ref (ad 0)), (1, .int v8), (2, .int v2)]) hx hb dX7_shakes_67 hl (k := 3) rfl (by rw [ev13]; rfl) (by decide) rfl (fun ls hl => ?_)
          refine lv_goto (tgt := 12) hx hb dX7_shakes_70 (by decide) ?_
          exact qOk.li h _ (lv_sub hl [1, 2, 3, 0] rfl)
      intro v6 h ls hl
      obtain ⟨v14, ev14⟩ : ∃ y : Int32, y = v2 + 1 := ⟨_, rfl⟩
      have h := qOk.v h ev14
      refine lv_iinc (v := v14) (lv' := [(2, .int v14), (0, .ref (ad 0)), (1, .int v6)]) hx hb dX7_shakes_73 hl (k := 2) rfl (by rw [ev14]; rfl) (by decide) rfl (fun ls hl => ?_)
      refine lv_goto (tgt := 4) hx hb dX7_shakes_76 (by decide) ?_
      exact qOk.li h _ (lv_sub hl [1, 2, 0] rfl)
  intro v3 h ls hl
  refine lv_iload_n hx hb dX7_shakes_79 rfl (lv_at hl 0 rfl) ?_
  exact W.iret hx hb hr (fun t ht _ => ⟨_, rfl, qOk.s h, ht⟩) (fun _ hq => by cases hq) dX7_shakes_80
abbrev rm_X7_way : Room := { frames := 4, cells := 0, slots := 0, locals := 90 }
set_option maxHeartbeats 4000000 in
set_option maxRecDepth 100000 in
theorem c_X7_way (l : Launch) (G : qG) (ad : Nat → Nat) (hI : qI W1N ad) (M : qM) (sz : Nat) (x1 : Int32) (x2 : Int32) (x3 : Int32) {P : Int32 → qM → Prop} (h : qOk2 (kX7_way M x1 x2 x3) P) : Met l yX7_way wsX7_way rm_X7_way (va_Pc [.ref (ad 0), .int x1, .int x2, .int x3] (qPre W1N e1 G ad M sz)) (va_Qi P (fun u t => qHp W1N e1 G ad u t.heap) (qA W1N ad sz)) 0 0 (qA W1N ad sz) := by
  refine Met.ofW (cc := cX7_way) (maxL := 4) (ret := (some .int)) (by decide) rfl ?_
  intro p e s m args below meth c s₁ B hml hv
  obtain ⟨rfl, hsz, hK, hP⟩ := hv
  subst hsz
  have hx := B.exec
  have hb := B.bytes
  have hr := B.returns
  have hts := atoms_spec (ws := wsX7_way) B.pre
  have hown : s.vm.findClass RX7 = some m.cls := findClass_of_methodNamed B.named
  have hlocks := B.notSynchronized
  have hH : qHS W1N e1 G ad M s.heap s.heap [] := ⟨hP, va_S.rf⟩
  have f34 : (Cond.fieldLink RX7 34 "SongLamps" "lamps" "LSongLamps$Lamps;").before [.ref (ad 0), .int x1, .int x2, .int x3].toArray s = true := hts _ (by decide +kernel)
  have i_X7 : ∀ w ∈ wsX70, w ∈ wsX7_way := fun w hw => List.mem_cons_of_mem _ ((List.mem_append_left _ (List.mem_append_left _ (List.mem_append_left _ (List.mem_append_right _ hw)))))
  have f10 : (Cond.fieldLink RX7 10 "SongLamps" "now" "LSongLamps$Mine;").before [.ref (ad 0), .int x1, .int x2, .int x3].toArray s = true := hts _ (by decide +kernel)
  have f48 : (Cond.fieldLink RX7 48 "SongLamps" "ways" "LSongLamps$Ways;").before [.ref (ad 0), .int x1, .int x2, .int x3].toArray s = true := hts _ (by decide +kernel)
  have f183 : (Cond.fieldLink RX7 183 "SongLamps$Mine" "passages" "[I").before [.ref (ad 0), .int x1, .int x2, .int x3].toArray s = true := hts _ (by decide +kernel)
  have i_X1 : ∀ w ∈ wsX10, w ∈ wsX7_way := fun w hw => List.mem_cons_of_mem _ ((List.mem_append_left _ (List.mem_append_left _ (List.mem_append_right _ hw))))
  have f164 : (Cond.fieldLink RX7 164 "SongLamps$Lamps" "burning" "I").before [.ref (ad 0), .int x1, .int x2, .int x3].toArray s = true := hts _ (by decide +kernel)
  have i_X0 : ∀ w ∈ wsX00, w ∈ wsX7_way := fun w hw => List.mem_cons_of_mem _ ((List.mem_append_left _ (List.mem_append_right _ hw)))
  have f186 : (Cond.fieldLink RX7 186 "SongLamps$Mine" "closed" "I").before [.ref (ad 0), .int x1, .int x2, .int x3].toArray s = true := hts _ (by decide +kernel)
  have f193 : (Cond.fieldLink RX7 193 "SongLamps$Ways" "far" "[I").before [.ref (ad 0), .int x1, .int x2, .int x3].toArray s = true := hts _ (by decide +kernel)
  have i_X6 : ∀ w ∈ wsX60, w ∈ wsX7_way := fun w hw => List.mem_cons_of_mem _ ((List.mem_append_right _ hw))
  have hl := lv_entry ([.ref (ad 0), .int x1, .int x2, .int x3]) (n := 4) (Nat.le_of_ble_eq_true rfl)
  rw [lg_entry_eq]
  generalize (lg_sl ([.ref (ad 0), .int x1, .int x2, .int x3]) ++ List.replicate (4 - (lg_sl ([.ref (ad 0), .int x1, .int x2, .int x3])).length) Slot.unset).toArray = ls at hl ⊢
  have hl : lv_has ls 4 [(0, .ref (ad 0)), (1, .int x1), (2, .int x2), (3, .int x3)] := hl
  have h : qOk (kX7_way M x1 x2 x3) _ := h
  unfold kX7_way at h
  refine lv_iload_n hx hb dX7_way_0 rfl (lv_at hl 1 rfl) ?_
  refine y_cs (va_runS (As := [.int x1]) (rest := []) ⟨hx, hb, hml, hown, hts⟩ (c_X7_isGallery l x1 (qOk.b1 h)) (va_cwS 1 hts gX7_way_X7_isGallery rfl rfl rfl (by decide +kernel) ⟨Nat.le_of_ble_eq_true rfl, Nat.le_of_ble_eq_true rfl⟩) ⟨qPrT.blind, qPrT.at⟩ rfl rfl hl.1 rfl (lv_room (Nat.le_of_ble_eq_true rfl)) dX7_way_1 ⟨Nat.zero_le _, Nat.zero_le _⟩) (fun v1 h => ?_)
  refine lv_if_eq (tgt := 14) hx hb dX7_way_4 (by decide) (fun hc => ?_) (fun hc => ?_)
  · have h := qOk.t hc h
    refine lv_iconst (v := (-1)) hx hb dX7_way_14 (by decide) ?_
    exact W.iret hx hb hr (fun t ht _ => ⟨⟨_, _, rfl, qOk2.s h, qHpt ht hH.1⟩, hH.2.F ht⟩) hH.2.2.2 dX7_way_15
  · have h := qOk.f hc h
    refine lv_iload_n hx hb dX7_way_7 rfl (lv_at hl 2 rfl) ?_
    refine y_cs (va_runS (As := [.int x2]) (rest := []) ⟨hx, hb, hml, hown, hts⟩ (c_X7_isGallery l x2 (qOk.b1 h)) (va_cwS 1 hts gX7_way_X7_isGallery rfl rfl rfl (by decide +kernel) ⟨Nat.le_of_ble_eq_true rfl, Nat.le_of_ble_eq_true rfl⟩) ⟨qPrT.blind, qPrT.at⟩ rfl rfl hl.1 rfl (lv_room (Nat.le_of_ble_eq_true rfl)) dX7_way_8 ⟨Nat.zero_le _, Nat.zero_le _⟩) (fun v2 h => ?_)
    refine lv_if_ne (tgt := 16) hx hb dX7_way_11 (by decide) (fun hc => ?_) (fun hc => ?_)
    · have h := qOk.f hc h
      refine lv_iload_n hx hb dX7_way_16 rfl (lv_at hl 3 rfl) ?_
      refine lv_if_lt (tgt := 25) hx hb dX7_way_17 (by decide) (fun hc => ?_) (fun hc => ?_)
      · have h := qOk.t hc h
        refine lv_bipush (v := (-2)) hx hb dX7_way_25 (by decide) ?_
        exact W.iret hx hb hr (fun t ht _ => ⟨⟨_, _, rfl, qOk2.s h, qHpt ht hH.1⟩, hH.2.F ht⟩) hH.2.2.2 dX7_way_27
      · have h := qOk.f hc h
        refine lv_iload_n hx hb dX7_way_20 rfl (lv_at hl 3 rfl) ?_
        refine lv_iconst (v := 1) hx hb dX7_way_21 (by decide) ?_
        refine lv_icmp_le (tgt := 28) hx hb dX7_way_22 (by decide) (fun hc => ?_) (fun hc => ?_)
        · have h := qOk.t hc h
          refine lv_aload_n hx hb dX7_way_28 rfl (lv_at hl 0 rfl) ?_
          refine y_get hx hb hts i_X7 hown hK hH qOb_7 rfl 4 (by decide) f34 rfl dX7_way_29 ?_
          refine lv_aload_n hx hb dX7_way_32 rfl (lv_at hl 0 rfl) ?_
          refine y_get hx hb hts i_X7 hown hK hH qOb_7 rfl 0 (by decide) f10 rfl dX7_way_33 ?_
          refine y_cv hH (va_runV (As := [.ref (ad 1)]) (rest := []) ⟨hx, hb, hml, hown, hts⟩ (c_X0_shineOn l G ad hI M _ qLa_44 qMi_1 (qOk.b1 h)) (cwV 1 hts gX7_way_X0_shineOn rfl rfl rfl (by decide +kernel) ⟨Nat.le_of_ble_eq_true rfl, Nat.le_of_ble_eq_true rfl⟩) ⟨qPre.blind, qrecv hK hH (qLa_ob qLa_44) rfl, qPre.at hK hH⟩ rfl rfl hl.1 rfl (lv_room (Nat.le_of_ble_eq_true rfl)) dX7_way_36 ⟨Nat.zero_le _, Nat.zero_le _⟩) (fun M3 H locs hH h => ?_)
          refine lv_aload_n hx hb dX7_way_39 rfl (lv_at hl 0 rfl) ?_
          refine y_get hx hb hts i_X7 hown hK hH qOb_7 rfl 6 (by decide) f48 rfl dX7_way_40 ?_
          refine lv_iload_n hx hb dX7_way_43 rfl (lv_at hl 2 rfl) ?_
          refine lv_aload_n hx hb dX7_way_44 rfl (lv_at hl 0 rfl) ?_
          refine y_get hx hb hts i_X7 hown hK hH qOb_7 rfl 0 (by decide) f10 rfl dX7_way_45 ?_
          refine y_get hx hb hts i_X1 hown hK hH (qMi_ob qMi_1) rfl 0 (by decide) f183 rfl dX7_way_48 ?_
          refine lv_aload_n hx hb dX7_way_51 rfl (lv_at hl 0 rfl) ?_
          refine y_get hx hb hts i_X7 hown hK hH qOb_7 rfl 4 (by decide) f34 rfl dX7_way_52 ?_
          refine y_get hx hb hts i_X0 hown hK hH (qLa_ob qLa_44) rfl 2 (by decide) f164 rfl dX7_way_55 ?_
          refine lv_aload_n hx hb dX7_way_58 rfl (lv_at hl 0 rfl) ?_
          refine y_get hx hb hts i_X7 hown hK hH qOb_7 rfl 0 (by decide) f10 rfl dX7_way_59 ?_
          refine y_get hx hb hts i_X1 hown hK hH (qMi_ob qMi_1) rfl 4 (by decide) f186 rfl dX7_way_62 ?_
          refine lv_iconst (v := (-1)) hx hb dX7_way_65 (by decide) ?_
          refine lv_ixor hx hb dX7_way_66 ?_
          refine lv_iand hx hb dX7_way_67 ?_
          refine y_cv hH (va_runV (As := [.int x2, .ref (ad (1 + 1)), .int ((M3 44 2) &&& ((M3 1 4) ^^^ (-1)))]) (rest := []) ⟨hx, hb, hml, hown, hts⟩ (c_X6_measure l G ad hI M3 _ qWy_63 x2 (qMi_a1 qMi_1) ((M3 44 2) &&& ((M3 1 4) ^^^ (-1))) (qOk.b1 h)) (cwV 3 hts gX7_way_X6_measure rfl rfl rfl (by decide +kernel) ⟨Nat.le_of_ble_eq_true rfl, Nat.le_of_ble_eq_true rfl⟩) ⟨qPre.blind, qrecv hK hH (qWy_ob qWy_63) rfl, qPre.at hK hH⟩ rfl rfl hl.1 rfl (lv_room (Nat.le_of_ble_eq_true rfl)) dX7_way_68 ⟨Nat.zero_le _, Nat.zero_le _⟩) (fun M4 H locs hH h => ?_)
          refine lv_iload_n hx hb dX7_way_71 rfl (lv_at hl 3 rfl) ?_
          refine qj1 (G := fun (v5 : Int32) => W p l e (headSpec wsX7_way rm_X7_way).room s m [.ref (ad 0), .int x1, .int x2, .int x3].toArray below meth c H locs 0 0 (MQ below (va_Qi P (fun u t => qHp W1N e1 G ad u t.heap) (qA W1N ad s.heap.size)) [.ref (ad 0), .int x1, .int x2, .int x3].toArray s 0 0 (qA W1N ad s.heap.size)) (F0 m 102 ls [.int v5])) h ?_ ?_
          rotate_left
          · intro h
            refine lv_if_ne (tgt := 87) hx hb dX7_way_72 (by decide) (fun hc => ?_) (fun hc => ?_)
            · have h := qOk.f hc h
              refine lv_aload_n hx hb dX7_way_87 rfl (lv_at hl 0 rfl) ?_
              refine y_get hx hb hts i_X7 hown hK hH qOb_7 rfl 6 (by decide) f48 rfl dX7_way_88 ?_
              refine lv_iload_n hx hb dX7_way_91 rfl (lv_at hl 1 rfl) ?_
              refine lv_aload_n hx hb dX7_way_92 rfl (lv_at hl 0 rfl) ?_
              refine y_get hx hb hts i_X7 hown hK hH qOb_7 rfl 0 (by decide) f10 rfl dX7_way_93 ?_
              refine y_get hx hb hts i_X1 hown hK hH (qMi_ob qMi_1) rfl 0 (by decide) f183 rfl dX7_way_96 ?_
              refine y_cs (va_runV (As := [.int x1, .ref (ad (1 + 1))]) (rest := []) ⟨hx, hb, hml, hown, hts⟩ (c_X6_nextFrom l G ad hI M4 _ qWy_63 x1 (qMi_a1 qMi_1) (qOk.b1 h)) (cwV 2 hts gX7_way_X6_nextFrom rfl rfl rfl (by decide +kernel) ⟨Nat.le_of_ble_eq_true rfl, Nat.le_of_ble_eq_true rfl⟩) ⟨qPre.blind, qrecv hK hH (qWy_ob qWy_63) rfl, qPre.at hK hH⟩ rfl rfl hl.1 rfl (lv_room (Nat.le_of_ble_eq_true rfl)) dX7_way_99 ⟨Nat.zero_le _, Nat.zero_le _⟩) (fun v6 h => ?_)
              have h := qOk.s h
              exact h
            · have h := qOk.t hc h
              refine lv_aload_n hx hb dX7_way_75 rfl (lv_at hl 0 rfl) ?_
              refine y_get hx hb hts i_X7 hown hK hH qOb_7 rfl 6 (by decide) f48 rfl dX7_way_76 ?_
              refine y_get hx hb hts i_X6 hown hK hH (qWy_ob qWy_63) rfl 0 (by decide) f193 rfl dX7_way_79 ?_
              refine lv_iload_n hx hb dX7_way_82 rfl (lv_at hl 1 rfl) ?_
              refine y_iald hx hb hK hH (qWy_a1 qWy_63) h dX7_way_83 (fun v7 h => ?_)
              refine lv_goto (tgt := 102) hx hb dX7_way_84 (by decide) ?_
              have h := qOk.s h
              exact h
          intro v5 h
          exact W.iret hx hb hr (fun t ht _ => ⟨⟨_, _, rfl, qOk2.s h, qHpt ht hH.1⟩, hH.2.F ht⟩) hH.2.2.2 dX7_way_102
        · have h := qOk.f hc h
          refine lv_bipush (v := (-2)) hx hb dX7_way_25 (by decide) ?_
          exact W.iret hx hb hr (fun t ht _ => ⟨⟨_, _, rfl, qOk2.s h, qHpt ht hH.1⟩, hH.2.F ht⟩) hH.2.2.2 dX7_way_27
    · have h := qOk.t hc h
      refine lv_iconst (v := (-1)) hx hb dX7_way_14 (by decide) ?_
      exact W.iret hx hb hr (fun t ht _ => ⟨⟨_, _, rfl, qOk2.s h, qHpt ht hH.1⟩, hH.2.F ht⟩) hH.2.2.2 dX7_way_15
abbrev rm_X7_isBetter : Room := { frames := 1, cells := 0, slots := 0, locals := 21 }
set_option maxHeartbeats 4000000 in
set_option maxRecDepth 100000 in
theorem c_X7_isBetter (l : Launch) (G : qG) (ad : Nat → Nat) (hI : qI W1N ad) (M : qM) (sz : Nat) (x1 : Int32) (x2 : Int32) (x3 : Int32) {P : Int32 → Prop} (h : qOk (kX7_isBetter M x1 x2 x3) P) : Met l yX7_isBetter wsX7_isBetter rm_X7_isBetter (va_Pc [.ref (ad 0), .int x1, .int x2, .int x3] (qPre W1N e1 G ad M sz)) (vp_Si P) 0 0 (fun _ => False) := by
  refine Met.ofW (cc := cX7_isBetter) (maxL := 7) (ret := (some .boolean)) (by decide) rfl ?_
  intro p e s m args below meth c s₁ B hml hv
  obtain ⟨rfl, hsz, hK, hP⟩ := hv
  subst hsz
  have hx := B.exec
  have hb := B.bytes
  have hr := B.returns
  have hts := atoms_spec (ws := wsX7_isBetter) B.pre
  have hown : s.vm.findClass RX7 = some m.cls := findClass_of_methodNamed B.named
  have hlocks := B.notSynchronized
  have hH : qHS W1N e1 G ad M s.heap s.heap [] := ⟨hP, va_S.rf⟩
  have f10 : (Cond.fieldLink RX7 10 "SongLamps" "now" "LSongLamps$Mine;").before [.ref (ad 0), .int x1, .int x2, .int x3].toArray s = true := hts _ (by decide +kernel)
  have i_X7 : ∀ w ∈ wsX70, w ∈ wsX7_isBetter := fun w hw => List.mem_cons_of_mem _ ((List.mem_append_left _ (List.mem_append_right _ hw)))
  have f78 : (Cond.fieldLink RX7 78 "SongLamps$Mine" "echo" "[I").before [.ref (ad 0), .int x1, .int x2, .int x3].toArray s = true := hts _ (by decide +kernel)
  have i_X1 : ∀ w ∈ wsX10, w ∈ wsX7_isBetter := fun w hw => List.mem_cons_of_mem _ ((List.mem_append_right _ hw))
  have hl := lv_entry ([.ref (ad 0), .int x1, .int x2, .int x3]) (n := 7) (Nat.le_of_ble_eq_true rfl)
  rw [lg_entry_eq]
  generalize (lg_sl ([.ref (ad 0), .int x1, .int x2, .int x3]) ++ List.replicate (7 - (lg_sl ([.ref (ad 0), .int x1, .int x2, .int x3])).length) Slot.unset).toArray = ls at hl ⊢
  have hl : lv_has ls 7 [(0, .ref (ad 0)), (1, .int x1), (2, .int x2), (3, .int x3)] := hl
  have h : qOk (kX7_isBetter M x1 x2 x3) _ := h
  unfold kX7_isBetter at h
  refine lv_iload_n hx hb dX7_isBetter_0 rfl (lv_at hl 1 rfl) ?_
  refine y_cs (va_runS (As := [.int x1]) (rest := []) ⟨hx, hb, hml, hown, hts⟩ (c_J6_bitCount_0f7a4 l x1 (qOk.b1 h)) (va_cwS 1 hts gX7_isBetter_J6_bitCount_0f7a4 rfl rfl rfl (by decide +kernel) ⟨Nat.le_of_ble_eq_true rfl, Nat.le_of_ble_eq_true rfl⟩) ⟨qPrT.blind, qPrT.at⟩ rfl rfl hl.1 rfl (lv_room (Nat.le_of_ble_eq_true rfl)) dX7_isBetter_1 ⟨Nat.zero_le _, Nat.zero_le _⟩) (fun v1 h => ?_)
  refine lv_iload_n hx hb dX7_isBetter_4 rfl (lv_at hl 2 rfl) ?_
  refine y_cs (va_runS (As := [.int x2]) (rest := [.int v1]) ⟨hx, hb, hml, hown, hts⟩ (c_J6_bitCount_0f7a4 l x2 (qOk.b1 h)) (va_cwS 1 hts gX7_isBetter_J6_bitCount_0f7a4 rfl rfl rfl (by decide +kernel) ⟨Nat.le_of_ble_eq_true rfl, Nat.le_of_ble_eq_true rfl⟩) ⟨qPrT.blind, qPrT.at⟩ rfl rfl hl.1 rfl (lv_room (Nat.le_of_ble_eq_true rfl)) dX7_isBetter_5 ⟨Nat.zero_le _, Nat.zero_le _⟩) (fun v2 h => ?_)
  refine lv_isub hx hb dX7_isBetter_8 ?_
  refine lv_topi (fun v3 ev3 => ?_)
  have h := qOk.v h ev3
  refine lv_istore (lv' := [(4, .int v3), (0, .ref (ad 0)), (1, .int x1), (2, .int x2), (3, .int x3)]) hx hb dX7_isBetter_9 hl (by decide) rfl (fun ls hl => ?_)
  refine lv_iload hx hb dX7_isBetter_11 (lv_at hl 0 rfl) ?_
  refine lv_if_gt (tgt := 26) hx hb dX7_isBetter_13 (by decide) (fun hc => ?_) (fun hc => ?_)
  · have h := qOk.t hc h
    refine lv_iconst (v := 0) hx hb dX7_isBetter_26 (by decide) ?_
    exact W.zret hx hb hr rfl (fun t ht _ => ⟨_, rfl, qOk.s h, ht⟩) (fun _ hq => by cases hq) dX7_isBetter_27
  · have h := qOk.f hc h
    refine lv_iload hx hb dX7_isBetter_16 (lv_at hl 0 rfl) ?_
    refine lv_if_ne (tgt := 28) hx hb dX7_isBetter_18 (by decide) (fun hc => ?_) (fun hc => ?_)
    · have h := qOk.f hc h
      refine lv_iload_n hx hb dX7_isBetter_28 rfl (lv_at hl 2 rfl) ?_
      refine lv_istore (lv' := [(5, .int x1), (4, .int v3), (0, .ref (ad 0)), (1, .int x1), (2, .int x2), (3, .int x3)]) hx hb dX7_isBetter_29 hl (by decide) rfl (fun ls hl => ?_)
      refine lv_iconst (v := 0) hx hb dX7_isBetter_31 (by decide) ?_
      refine lv_istore (lv' := [(6, .int 0), (5, .int x1), (4, .int v3), (0, .ref (ad 0)), (1, .int x1), (2, .int x2), (3, .int x3)]) hx hb dX7_isBetter_32 hl (by decide) rfl (fun ls hl => ?_)
      refine qj1 (G := fun (v6 : Int32) => ∀ ls : Array Slot, lv_has ls 7 [(3, .int x3), (5, .int v6)] → W p l e (headSpec wsX7_isBetter rm_X7_isBetter).room s m [.ref (ad 0), .int x1, .int x2, .int x3].toArray below meth c s.heap [] 0 0 (MQ below (vp_Si P) [.ref (ad 0), .int x1, .int x2, .int x3].toArray s 0 0 (fun _ => False)) (F0 m 73 ls [])) h ?_ ?_
      rotate_left
      · intro h
        refine qloop2 (I := fun (v4 : Int32) (v5 : Int32) => ∀ ls : Array Slot, lv_has ls 7 [(0, .ref (ad 0)), (1, .int x1), (3, .int x3), (5, .int v4), (6, .int v5)] → W p l e (headSpec wsX7_isBetter rm_X7_isBetter).room s m [.ref (ad 0), .int x1, .int x2, .int x3].toArray below meth c s.heap [] 0 0 (MQ below (vp_Si P) [.ref (ad 0), .int x1, .int x2, .int x3].toArray s 0 0 (fun _ => False)) (F0 m 34 ls [])) ?_ h _ (lv_sub hl [3, 4, 6, 1, 0] rfl)
        intro v4 v5 h ls hl
        have h : qOk (kX7_isBetter_L34 x1 M v4 v5) _ := h
        unfold kX7_isBetter_L34 at h
        refine lv_iload hx hb dX7_isBetter_34 (lv_at hl 4 rfl) ?_
        refine lv_bipush (v := 10) hx hb dX7_isBetter_36 (by decide) ?_
        refine lv_icmp_ge (tgt := 73) hx hb dX7_isBetter_38 (by decide) (fun hc => ?_) (fun hc => ?_)
        · have h := qOk.t hc h
          exact qOk.le h _ (lv_sub hl [2, 3] rfl)
        · have h := qOk.f hc h
          refine lv_iload_n hx hb dX7_isBetter_41 rfl (lv_at hl 1 rfl) ?_
          refine lv_iload hx hb dX7_isBetter_42 (lv_at hl 4 rfl) ?_
          refine y_cs (va_runS (As := [.int x1, .int v5]) (rest := []) ⟨hx, hb, hml, hown, hts⟩ (c_X7_has l x1 v5 (qOk.b1 h)) (va_cwS 2 hts gX7_isBetter_X7_has rfl rfl rfl (by decide +kernel) ⟨Nat.le_of_ble_eq_true rfl, Nat.le_of_ble_eq_true rfl⟩) ⟨qPrT.blind, qPrT.at⟩ rfl rfl hl.1 rfl (lv_room (Nat.le_of_ble_eq_true rfl)) dX7_isBetter_44 ⟨Nat.zero_le _, Nat.zero_le _⟩) (fun v7 h => ?_)
          refine qj1 (G := fun (v8 : Int32) => ∀ ls : Array Slot, lv_has ls 7 [(0, .ref (ad 0)), (1, .int x1), (3, .int x3), (5, .int v8), (6, .int v5)] → W p l e (headSpec wsX7_isBetter rm_X7_isBetter).room s m [.ref (ad 0), .int x1, .int x2, .int x3].toArray below meth c s.heap [] 0 0 (MQ below (vp_Si P) [.ref (ad 0), .int x1, .int x2, .int x3].toArray s 0 0 (fun _ => False)) (F0 m 67 ls [])) h ?_ ?_
          rotate_left
          · intro h
            refine lv_if_eq (tgt := 67) hx hb dX7_isBetter_47 (by decide) (fun hc => ?_) (fun hc => ?_)
            · have h := qOk.t hc h
              have h := qOk.s h
              exact h _ (lv_sub hl [0, 1, 2, 3, 4] rfl)
            · have h := qOk.f hc h
              refine lv_iload hx hb dX7_isBetter_50 (lv_at hl 3 rfl) ?_
              refine lv_iconst (v := 1) hx hb dX7_isBetter_52 (by decide) ?_
              refine lv_aload_n hx hb dX7_isBetter_53 rfl (lv_at hl 0 rfl) ?_
              refine y_get hx hb hts i_X7 hown hK hH qOb_7 rfl 0 (by decide) f10 rfl dX7_isBetter_54 ?_
              refine y_get hx hb hts i_X1 hown hK hH (qMi_ob qMi_1) rfl 1 (by decide) f78 rfl dX7_isBetter_57 ?_
              refine lv_iload hx hb dX7_isBetter_60 (lv_at hl 4 rfl) ?_
              refine y_iald hx hb hK hH (qMi_a2 qMi_1) h dX7_isBetter_62 (fun v9 h => ?_)
              refine lv_ishl hx hb dX7_isBetter_63 ?_
              refine lv_ior hx hb dX7_isBetter_64 ?_
              refine lv_topi (fun v10 ev10 => ?_)
              have h := qOk.v h ev10
              refine lv_istore (lv' := [(5, .int v10), (0, .ref (ad 0)), (1, .int x1), (3, .int x3), (6, .int v5)]) hx hb dX7_isBetter_65 hl (by decide) rfl (fun ls hl => ?_)
              have h := qOk.s h
              exact h _ (lv_sub hl [1, 2, 3, 0, 4] rfl)
          intro v8 h ls hl
          obtain ⟨v11, ev11⟩ : ∃ y : Int32, y = v5 + 1 := ⟨_, rfl⟩
          have h := qOk.v h ev11
          refine lv_iinc (v := v11) (lv' := [(6, .int v11), (0, .ref (ad 0)), (1, .int x1), (3, .int x3), (5, .int v8)]) hx hb dX7_isBetter_67 hl (k := 4) rfl (by rw [ev11]; rfl) (by decide) rfl (fun ls hl => ?_)
          refine lv_goto (tgt := 34) hx hb dX7_isBetter_70 (by decide) ?_
          exact qOk.li h _ (lv_sub hl [1, 2, 3, 4, 0] rfl)
      intro v6 h ls hl
      refine lv_iload_n hx hb dX7_isBetter_73 rfl (lv_at hl 0 rfl) ?_
      refine lv_iload hx hb dX7_isBetter_74 (lv_at hl 1 rfl) ?_
      refine lv_iconst (v := (-1)) hx hb dX7_isBetter_76 (by decide) ?_
      refine lv_ixor hx hb dX7_isBetter_77 ?_
      refine lv_iand hx hb dX7_isBetter_78 ?_
      refine qj1 (G := fun (v12 : Int32) => W p l e (headSpec wsX7_isBetter rm_X7_isBetter).room s m [.ref (ad 0), .int x1, .int x2, .int x3].toArray below meth c s.heap [] 0 0 (MQ below (vp_Si P) [.ref (ad 0), .int x1, .int x2, .int x3].toArray s 0 0 (fun _ => False)) (F0 m 87 ls [.int v12])) h ?_ ?_
      rotate_left
      · intro h
        refine lv_if_ne (tgt := 86) hx hb dX7_isBetter_79 (by decide) (fun hc => ?_) (fun hc => ?_)
        · have h := qOk.f hc h
          refine lv_iconst (v := 0) hx hb dX7_isBetter_86 (by decide) ?_
          have h := qOk.s h
          exact h
        · have h := qOk.t hc h
          refine lv_iconst (v := 1) hx hb dX7_isBetter_82 (by decide) ?_
          refine lv_goto (tgt := 87) hx hb dX7_isBetter_83 (by decide) ?_
          have h := qOk.s h
          exact h
      intro v12 h
      obtain ⟨hbn, h⟩ := qOk.bl h
      exact W.zret hx hb hr (qnarb hbn) (fun t ht _ => ⟨_, rfl, qOk.s h, ht⟩) (fun _ hq => by cases hq) dX7_isBetter_87
    · have h := qOk.t hc h
      refine lv_iload_n hx hb dX7_isBetter_21 rfl (lv_at hl 2 rfl) ?_
      refine lv_iload_n hx hb dX7_isBetter_22 rfl (lv_at hl 3 rfl) ?_
      refine lv_icmp_lt (tgt := 28) hx hb dX7_isBetter_23 (by decide) (fun hc => ?_) (fun hc => ?_)
      · have h := qOk.t hc h
        refine lv_iload_n hx hb dX7_isBetter_28 rfl (lv_at hl 2 rfl) ?_
        refine lv_istore (lv' := [(5, .int x1), (4, .int v3), (0, .ref (ad 0)), (1, .int x1), (2, .int x2), (3, .int x3)]) hx hb dX7_isBetter_29 hl (by decide) rfl (fun ls hl => ?_)
        refine lv_iconst (v := 0) hx hb dX7_isBetter_31 (by decide) ?_
        refine lv_istore (lv' := [(6, .int 0), (5, .int x1), (4, .int v3), (0, .ref (ad 0)), (1, .int x1), (2, .int x2), (3, .int x3)]) hx hb dX7_isBetter_32 hl (by decide) rfl (fun ls hl => ?_)
        refine qj1 (G := fun (v15 : Int32) => ∀ ls : Array Slot, lv_has ls 7 [(3, .int x3), (5, .int v15)] → W p l e (headSpec wsX7_isBetter rm_X7_isBetter).room s m [.ref (ad 0), .int x1, .int x2, .int x3].toArray below meth c s.heap [] 0 0 (MQ below (vp_Si P) [.ref (ad 0), .int x1, .int x2, .int x3].toArray s 0 0 (fun _ => False)) (F0 m 73 ls [])) h ?_ ?_
        rotate_left
        · intro h
          refine qloop2 (I := fun (v13 : Int32) (v14 : Int32) => ∀ ls : Array Slot, lv_has ls 7 [(0, .ref (ad 0)), (1, .int x1), (3, .int x3), (5, .int v13), (6, .int v14)] → W p l e (headSpec wsX7_isBetter rm_X7_isBetter).room s m [.ref (ad 0), .int x1, .int x2, .int x3].toArray below meth c s.heap [] 0 0 (MQ below (vp_Si P) [.ref (ad 0), .int x1, .int x2, .int x3].toArray s 0 0 (fun _ => False)) (F0 m 34 ls [])) ?_ h _ (lv_sub hl [3, 4, 6, 1, 0] rfl)
          intro v13 v14 h ls hl
          have h : qOk (kX7_isBetter_L34 x1 M v13 v14) _ := h
          unfold kX7_isBetter_L34 at h
          refine lv_iload hx hb dX7_isBetter_34 (lv_at hl 4 rfl) ?_
          refine lv_bipush (v := 10) hx hb dX7_isBetter_36 (by decide) ?_
          refine lv_icmp_ge (tgt := 73) hx hb dX7_isBetter_38 (by decide) (fun hc => ?_) (fun hc => ?_)
          · have h := qOk.t hc h
            exact qOk.le h _ (lv_sub hl [2, 3] rfl)
          · have h := qOk.f hc h
            refine lv_iload_n hx hb dX7_isBetter_41 rfl (lv_at hl 1 rfl) ?_
            refine lv_iload hx hb dX7_isBetter_42 (lv_at hl 4 rfl) ?_
            refine y_cs (va_runS (As := [.int x1, .int v14]) (rest := []) ⟨hx, hb, hml, hown, hts⟩ (c_X7_has l x1 v14 (qOk.b1 h)) (va_cwS 2 hts gX7_isBetter_X7_has rfl rfl rfl (by decide +kernel) ⟨Nat.le_of_ble_eq_true rfl, Nat.le_of_ble_eq_true rfl⟩) ⟨qPrT.blind, qPrT.at⟩ rfl rfl hl.1 rfl (lv_room (Nat.le_of_ble_eq_true rfl)) dX7_isBetter_44 ⟨Nat.zero_le _, Nat.zero_le _⟩) (fun v16 h => ?_)
            refine qj1 (G := fun (v17 : Int32) => ∀ ls : Array Slot, lv_has ls 7 [(0, .ref (ad 0)), (1, .int x1), (3, .int x3), (5, .int v17), (6, .int v14)] → W p l e (headSpec wsX7_isBetter rm_X7_isBetter).room s m [.ref (ad 0), .int x1, .int x2, .int x3].toArray below meth c s.heap [] 0 0 (MQ below (vp_Si P) [.ref (ad 0), .int x1, .int x2, .int x3].toArray s 0 0 (fun _ => False)) (F0 m 67 ls [])) h ?_ ?_
            rotate_left
            · intro h
              refine lv_if_eq (tgt := 67) hx hb dX7_isBetter_47 (by decide) (fun hc => ?_) (fun hc => ?_)
              · have h := qOk.t hc h
                have h := qOk.s h
                exact h _ (lv_sub hl [0, 1, 2, 3, 4] rfl)
              · have h := qOk.f hc h
                refine lv_iload hx hb dX7_isBetter_50 (lv_at hl 3 rfl) ?_
                refine lv_iconst (v := 1) hx hb dX7_isBetter_52 (by decide) ?_
                refine lv_aload_n hx hb dX7_isBetter_53 rfl (lv_at hl 0 rfl) ?_
                refine y_get hx hb hts i_X7 hown hK hH qOb_7 rfl 0 (by decide) f10 rfl dX7_isBetter_54 ?_
                refine y_get hx hb hts i_X1 hown hK hH (qMi_ob qMi_1) rfl 1 (by decide) f78 rfl dX7_isBetter_57 ?_
                refine lv_iload hx hb dX7_isBetter_60 (lv_at hl 4 rfl) ?_
                refine y_iald hx hb hK hH (qMi_a2 qMi_1) h dX7_isBetter_62 (fun v18 h => ?_)
                refine lv_ishl hx hb dX7_isBetter_63 ?_
                refine lv_ior hx hb dX7_isBetter_64 ?_
                refine lv_topi (fun v19 ev19 => ?_)
                have h := qOk.v h ev19
                refine lv_istore (lv' := [(5, .int v19), (0, .ref (ad 0)), (1, .int x1), (3, .int x3), (6, .int v14)]) hx hb dX7_isBetter_65 hl (by decide) rfl (fun ls hl => ?_)
                have h := qOk.s h
                exact h _ (lv_sub hl [1, 2, 3, 0, 4] rfl)
            intro v17 h ls hl
            obtain ⟨v20, ev20⟩ : ∃ y : Int32, y = v14 + 1 := ⟨_, rfl⟩
            have h := qOk.v h ev20
            refine lv_iinc (v := v20) (lv' := [(6, .int v20), (0, .ref (ad 0)), (1, .int x1), (3, .int x3), (5, .int v17)]) hx hb dX7_isBetter_67 hl (k := 4) rfl (by rw [ev20]; rfl) (by decide) rfl (fun ls hl => ?_)
            refine lv_goto (tgt := 34) hx hb dX7_isBetter_70 (by decide) ?_
            exact qOk.li h _ (lv_sub hl [1, 2, 3, 4, 0] rfl)
        intro v15 h ls hl
        refine lv_iload_n hx hb dX7_isBetter_73 rfl (lv_at hl 0 rfl) ?_
        refine lv_iload hx hb dX7_isBetter_74 (lv_at hl 1 rfl) ?_
        refine lv_iconst (v := (-1)) hx hb dX7_isBetter_76 (by decide) ?_
        refine lv_ixor hx hb dX7_isBetter_77 ?_
        refine lv_iand hx hb dX7_isBetter_78 ?_
        refine qj1 (G := fun (v21 : Int32) => W p l e (headSpec wsX7_isBetter rm_X7_isBetter).room s m [.ref (ad 0), .int x1, .int x2, .int x3].toArray below meth c s.heap [] 0 0 (MQ below (vp_Si P) [.ref (ad 0), .int x1, .int x2, .int x3].toArray s 0 0 (fun _ => False)) (F0 m 87 ls [.int v21])) h ?_ ?_
        rotate_left
        · intro h
          refine lv_if_ne (tgt := 86) hx hb dX7_isBetter_79 (by decide) (fun hc => ?_) (fun hc => ?_)
          · have h := qOk.f hc h
            refine lv_iconst (v := 0) hx hb dX7_isBetter_86 (by decide) ?_
            have h := qOk.s h
            exact h
          · have h := qOk.t hc h
            refine lv_iconst (v := 1) hx hb dX7_isBetter_82 (by decide) ?_
            refine lv_goto (tgt := 87) hx hb dX7_isBetter_83 (by decide) ?_
            have h := qOk.s h
            exact h
        intro v21 h
        obtain ⟨hbn, h⟩ := qOk.bl h
        exact W.zret hx hb hr (qnarb hbn) (fun t ht _ => ⟨_, rfl, qOk.s h, ht⟩) (fun _ hq => by cases hq) dX7_isBetter_87
      · have h := qOk.f hc h
        refine lv_iconst (v := 0) hx hb dX7_isBetter_26 (by decide) ?_
        exact W.zret hx hb hr rfl (fun t ht _ => ⟨_, rfl, qOk.s h, ht⟩) (fun _ hq => by cases hq) dX7_isBetter_27
abbrev rm_X7_fewest : Room := { frames := 2, cells := 0, slots := 0, locals := 47 }
set_option maxHeartbeats 4000000 in
set_option maxRecDepth 100000 in
theorem c_X7_fewest (l : Launch) (G : qG) (ad : Nat → Nat) (hI : qI W1N ad) (M : qM) (sz : Nat) (x1 : Int32) (x2 : Int32) {P : Int32 → Prop} (h : qOk (kX7_fewest M x1 x2) P) : Met l yX7_fewest wsX7_fewest rm_X7_fewest (va_Pc [.ref (ad 0), .int x1, .int x2] (qPre W1N e1 G ad M sz)) (vp_Si P) 0 0 (fun _ => False) := by
  refine Met.ofW (cc := cX7_fewest) (maxL := 5) (ret := (some .int)) (by decide) rfl ?_
  intro p e s m args below meth c s₁ B hml hv
  obtain ⟨rfl, hsz, hK, hP⟩ := hv
  subst hsz
  have hx := B.exec
  have hb := B.bytes
  have hr := B.returns
  have hts := atoms_spec (ws := wsX7_fewest) B.pre
  have hown : s.vm.findClass RX7 = some m.cls := findClass_of_methodNamed B.named
  have hlocks := B.notSynchronized
  have hH : qHS W1N e1 G ad M s.heap s.heap [] := ⟨hP, va_S.rf⟩
  have hl := lv_entry ([.ref (ad 0), .int x1, .int x2]) (n := 5) (Nat.le_of_ble_eq_true rfl)
  rw [lg_entry_eq]
  generalize (lg_sl ([.ref (ad 0), .int x1, .int x2]) ++ List.replicate (5 - (lg_sl ([.ref (ad 0), .int x1, .int x2])).length) Slot.unset).toArray = ls at hl ⊢
  have hl : lv_has ls 5 [(0, .ref (ad 0)), (1, .int x1), (2, .int x2)] := hl
  have h : qOk (kX7_fewest M x1 x2) _ := h
  unfold kX7_fewest at h
  refine lv_iload_n hx hb dX7_fewest_0 rfl (lv_at hl 1 rfl) ?_
  refine lv_if_lt (tgt := 20) hx hb dX7_fewest_1 (by decide) (fun hc => ?_) (fun hc => ?_)
  · have h := qOk.t hc h
    refine lv_bipush (v := (-2)) hx hb dX7_fewest_20 (by decide) ?_
    exact W.iret hx hb hr (fun t ht _ => ⟨_, rfl, qOk.s h, ht⟩) (fun _ hq => by cases hq) dX7_fewest_22
  · have h := qOk.f hc h
    refine lv_iload_n hx hb dX7_fewest_4 rfl (lv_at hl 1 rfl) ?_
    refine lv_sipush (v := 1023) hx hb dX7_fewest_5 (by decide) ?_
    refine lv_icmp_gt (tgt := 20) hx hb dX7_fewest_8 (by decide) (fun hc => ?_) (fun hc => ?_)
    · have h := qOk.t hc h
      refine lv_bipush (v := (-2)) hx hb dX7_fewest_20 (by decide) ?_
      exact W.iret hx hb hr (fun t ht _ => ⟨_, rfl, qOk.s h, ht⟩) (fun _ hq => by cases hq) dX7_fewest_22
    · have h := qOk.f hc h
      refine lv_iload_n hx hb dX7_fewest_11 rfl (lv_at hl 2 rfl) ?_
      refine lv_if_lt (tgt := 20) hx hb dX7_fewest_12 (by decide) (fun hc => ?_) (fun hc => ?_)
      · have h := qOk.t hc h
        refine lv_bipush (v := (-2)) hx hb dX7_fewest_20 (by decide) ?_
        exact W.iret hx hb hr (fun t ht _ => ⟨_, rfl, qOk.s h, ht⟩) (fun _ hq => by cases hq) dX7_fewest_22
      · have h := qOk.f hc h
        refine lv_iload_n hx hb dX7_fewest_15 rfl (lv_at hl 2 rfl) ?_
        refine lv_iconst (v := 1) hx hb dX7_fewest_16 (by decide) ?_
        refine lv_icmp_le (tgt := 23) hx hb dX7_fewest_17 (by decide) (fun hc => ?_) (fun hc => ?_)
        · have h := qOk.t hc h
          refine lv_iload_n hx hb dX7_fewest_23 rfl (lv_at hl 1 rfl) ?_
          refine lv_istore_n (lv' := [(3, .int x1), (0, .ref (ad 0)), (1, .int x1), (2, .int x2)]) hx hb dX7_fewest_24 rfl hl (by decide) rfl (fun ls hl => ?_)
          refine lv_iconst (v := 0) hx hb dX7_fewest_25 (by decide) ?_
          refine lv_istore (lv' := [(4, .int 0), (3, .int x1), (0, .ref (ad 0)), (1, .int x1), (2, .int x2)]) hx hb dX7_fewest_26 hl (by decide) rfl (fun ls hl => ?_)
          refine qj1 (G := fun (v3 : Int32) => ∀ ls : Array Slot, lv_has ls 5 [(2, .int x2), (3, .int v3)] → W p l e (headSpec wsX7_fewest rm_X7_fewest).room s m [.ref (ad 0), .int x1, .int x2].toArray below meth c s.heap [] 0 0 (MQ below (vp_Si P) [.ref (ad 0), .int x1, .int x2].toArray s 0 0 (fun _ => False)) (F0 m 56 ls [])) h ?_ ?_
          rotate_left
          · intro h
            refine qloop2 (I := fun (v1 : Int32) (v2 : Int32) => ∀ ls : Array Slot, lv_has ls 5 [(0, .ref (ad 0)), (1, .int x1), (2, .int x2), (3, .int v1), (4, .int v2)] → W p l e (headSpec wsX7_fewest rm_X7_fewest).room s m [.ref (ad 0), .int x1, .int x2].toArray below meth c s.heap [] 0 0 (MQ below (vp_Si P) [.ref (ad 0), .int x1, .int x2].toArray s 0 0 (fun _ => False)) (F0 m 28 ls [])) ?_ h _ (lv_sub hl [2, 3, 4, 1, 0] rfl)
            intro v1 v2 h ls hl
            have h : qOk (kX7_fewest_L28 M x1 v1 v2) _ := h
            unfold kX7_fewest_L28 at h
            refine lv_iload hx hb dX7_fewest_28 (lv_at hl 4 rfl) ?_
            refine lv_sipush (v := 1023) hx hb dX7_fewest_30 (by decide) ?_
            refine lv_icmp_gt (tgt := 56) hx hb dX7_fewest_33 (by decide) (fun hc => ?_) (fun hc => ?_)
            · have h := qOk.t hc h
              exact qOk.le h _ (lv_sub hl [2, 3] rfl)
            · have h := qOk.f hc h
              refine lv_aload_n hx hb dX7_fewest_36 rfl (lv_at hl 0 rfl) ?_
              refine lv_iload hx hb dX7_fewest_37 (lv_at hl 4 rfl) ?_
              refine lv_iload_n hx hb dX7_fewest_39 rfl (lv_at hl 3 rfl) ?_
              refine lv_iload_n hx hb dX7_fewest_40 rfl (lv_at hl 1 rfl) ?_
              refine y_cs (va_runV (As := [.int v2, .int v1, .int x1]) (rest := []) ⟨hx, hb, hml, hown, hts⟩ (c_X7_isBetter l G ad hI M _ v2 v1 x1 (qOk.b1 h)) (cwV 3 hts gX7_fewest_X7_isBetter rfl rfl rfl (by decide +kernel) ⟨Nat.le_of_ble_eq_true rfl, Nat.le_of_ble_eq_true rfl⟩) ⟨qPre.blind, qrecv hK hH qOb_7 rfl, qPre.at hK hH⟩ rfl rfl hl.1 rfl (lv_room (Nat.le_of_ble_eq_true rfl)) dX7_fewest_41 ⟨Nat.zero_le _, Nat.zero_le _⟩) (fun v4 h => ?_)
              refine qj1 (G := fun (v5 : Int32) => ∀ ls : Array Slot, lv_has ls 5 [(0, .ref (ad 0)), (1, .int x1), (2, .int x2), (3, .int v5), (4, .int v2)] → W p l e (headSpec wsX7_fewest rm_X7_fewest).room s m [.ref (ad 0), .int x1, .int x2].toArray below meth c s.heap [] 0 0 (MQ below (vp_Si P) [.ref (ad 0), .int x1, .int x2].toArray s 0 0 (fun _ => False)) (F0 m 50 ls [])) h ?_ ?_
              rotate_left
              · intro h
                refine lv_if_eq (tgt := 50) hx hb dX7_fewest_44 (by decide) (fun hc => ?_) (fun hc => ?_)
                · have h := qOk.t hc h
                  have h := qOk.s h
                  exact h _ (lv_sub hl [0, 1, 2, 3, 4] rfl)
                · have h := qOk.f hc h
                  refine lv_iload hx hb dX7_fewest_47 (lv_at hl 4 rfl) ?_
                  refine lv_istore_n (lv' := [(3, .int v2), (0, .ref (ad 0)), (1, .int x1), (2, .int x2), (4, .int v2)]) hx hb dX7_fewest_49 rfl hl (by decide) rfl (fun ls hl => ?_)
                  have h := qOk.s h
                  exact h _ (lv_sub hl [1, 2, 3, 0, 4] rfl)
              intro v5 h ls hl
              obtain ⟨v6, ev6⟩ : ∃ y : Int32, y = v2 + 1 := ⟨_, rfl⟩
              have h := qOk.v h ev6
              refine lv_iinc (v := v6) (lv' := [(4, .int v6), (0, .ref (ad 0)), (1, .int x1), (2, .int x2), (3, .int v5)]) hx hb dX7_fewest_50 hl (k := 4) rfl (by rw [ev6]; rfl) (by decide) rfl (fun ls hl => ?_)
              refine lv_goto (tgt := 28) hx hb dX7_fewest_53 (by decide) ?_
              exact qOk.li h _ (lv_sub hl [1, 2, 3, 4, 0] rfl)
          intro v3 h ls hl
          refine lv_iload_n hx hb dX7_fewest_56 rfl (lv_at hl 0 rfl) ?_
          refine qj1 (G := fun (v7 : Int32) => W p l e (headSpec wsX7_fewest rm_X7_fewest).room s m [.ref (ad 0), .int x1, .int x2].toArray below meth c s.heap [] 0 0 (MQ below (vp_Si P) [.ref (ad 0), .int x1, .int x2].toArray s 0 0 (fun _ => False)) (F0 m 68 ls [.int v7])) h ?_ ?_
          rotate_left
          · intro h
            refine lv_if_ne (tgt := 67) hx hb dX7_fewest_57 (by decide) (fun hc => ?_) (fun hc => ?_)
            · have h := qOk.f hc h
              refine lv_iload_n hx hb dX7_fewest_67 rfl (lv_at hl 1 rfl) ?_
              have h := qOk.s h
              exact h
            · have h := qOk.t hc h
              refine lv_iload_n hx hb dX7_fewest_60 rfl (lv_at hl 1 rfl) ?_
              refine y_cs (va_runS (As := [.int v3]) (rest := []) ⟨hx, hb, hml, hown, hts⟩ (c_J6_bitCount_0f7a4 l v3 (qOk.b1 h)) (va_cwS 1 hts gX7_fewest_J6_bitCount_0f7a4 rfl rfl rfl (by decide +kernel) ⟨Nat.le_of_ble_eq_true rfl, Nat.le_of_ble_eq_true rfl⟩) ⟨qPrT.blind, qPrT.at⟩ rfl rfl hl.1 rfl (lv_room (Nat.le_of_ble_eq_true rfl)) dX7_fewest_61 ⟨Nat.zero_le _, Nat.zero_le _⟩) (fun v8 h => ?_)
              refine lv_goto (tgt := 68) hx hb dX7_fewest_64 (by decide) ?_
              have h := qOk.s h
              exact h
          intro v7 h
          exact W.iret hx hb hr (fun t ht _ => ⟨_, rfl, qOk.s h, ht⟩) (fun _ hq => by cases hq) dX7_fewest_68
        · have h := qOk.f hc h
          refine lv_bipush (v := (-2)) hx hb dX7_fewest_20 (by decide) ?_
          exact W.iret hx hb hr (fun t ht _ => ⟨_, rfl, qOk.s h, ht⟩) (fun _ hq => by cases hq) dX7_fewest_22
abbrev rm_X7_canSingOn : Room := { frames := 2, cells := 0, slots := 0, locals := 45 }
set_option maxHeartbeats 4000000 in
set_option maxRecDepth 100000 in
theorem c_X7_canSingOn (l : Launch) (G : qG) (ad : Nat → Nat) (hI : qI W1N ad) (M : qM) (sz : Nat) (x1 : Int32) {P : Int32 → Prop} (h : qOk (kX7_canSingOn M x1) P) : Met l yX7_canSingOn wsX7_canSingOn rm_X7_canSingOn (va_Pc [.ref (ad 0), .int x1] (qPre W1N e1 G ad M sz)) (vp_Si P) 0 0 (fun _ => False) := by
  refine Met.ofW (cc := cX7_canSingOn) (maxL := 4) (ret := (some .boolean)) (by decide) rfl ?_
  intro p e s m args below meth c s₁ B hml hv
  obtain ⟨rfl, hsz, hK, hP⟩ := hv
  subst hsz
  have hx := B.exec
  have hb := B.bytes
  have hr := B.returns
  have hts := atoms_spec (ws := wsX7_canSingOn) B.pre
  have hown : s.vm.findClass RX7 = some m.cls := findClass_of_methodNamed B.named
  have hlocks := B.notSynchronized
  have hH : qHS W1N e1 G ad M s.heap s.heap [] := ⟨hP, va_S.rf⟩
  have f10 : (Cond.fieldLink RX7 10 "SongLamps" "now" "LSongLamps$Mine;").before [.ref (ad 0), .int x1].toArray s = true := hts _ (by decide +kernel)
  have i_X7 : ∀ w ∈ wsX70, w ∈ wsX7_canSingOn := fun w hw => List.mem_cons_of_mem _ ((List.mem_append_left _ (List.mem_append_right _ hw)))
  have hl := lv_entry ([.ref (ad 0), .int x1]) (n := 4) (Nat.le_of_ble_eq_true rfl)
  rw [lg_entry_eq]
  generalize (lg_sl ([.ref (ad 0), .int x1]) ++ List.replicate (4 - (lg_sl ([.ref (ad 0), .int x1])).length) Slot.unset).toArray = ls at hl ⊢
  have hl : lv_has ls 4 [(0, .ref (ad 0)), (1, .int x1)] := hl
  have h : qOk (kX7_canSingOn M x1) _ := h
  unfold kX7_canSingOn at h
  refine lv_iconst (v := 0) hx hb dX7_canSingOn_0 (by decide) ?_
  refine lv_istore_n (lv' := [(2, .int 0), (0, .ref (ad 0)), (1, .int x1)]) hx hb dX7_canSingOn_1 rfl hl (by decide) rfl (fun ls hl => ?_)
  refine qjx0 (G := ∀ ls : Array Slot, lv_has ls 4 [] → W p l e (headSpec wsX7_canSingOn rm_X7_canSingOn).room s m [.ref (ad 0), .int x1].toArray below meth c s.heap [] 0 0 (MQ below (vp_Si P) [.ref (ad 0), .int x1].toArray s 0 0 (fun _ => False)) (F0 m 57 ls [])) h ?_ ?_
  rotate_left
  · intro h
    refine qloop1 (I := fun (v1 : Int32) => ∀ ls : Array Slot, lv_has ls 4 [(0, .ref (ad 0)), (1, .int x1), (2, .int v1)] → W p l e (headSpec wsX7_canSingOn rm_X7_canSingOn).room s m [.ref (ad 0), .int x1].toArray below meth c s.heap [] 0 0 (MQ below (vp_Si P) [.ref (ad 0), .int x1].toArray s 0 0 (fun _ => False)) (F0 m 2 ls [])) ?_ h _ (lv_sub hl [1, 2, 0] rfl)
    intro v1 h ls hl
    have h : qOk (kX7_canSingOn_L2 x1 M v1) _ := h
    unfold kX7_canSingOn_L2 at h
    refine lv_iload_n hx hb dX7_canSingOn_2 rfl (lv_at hl 2 rfl) ?_
    refine lv_bipush (v := 8) hx hb dX7_canSingOn_3 (by decide) ?_
    refine lv_icmp_ge (tgt := 57) hx hb dX7_canSingOn_5 (by decide) (fun hc => ?_) (fun hc => ?_)
    · have h := qOk.t hc h
      exact qOk.lx h _ (lv_sub hl [] rfl)
    · have h := qOk.f hc h
      refine lv_iconst (v := 0) hx hb dX7_canSingOn_8 (by decide) ?_
      refine lv_istore_n (lv' := [(3, .int 0), (0, .ref (ad 0)), (1, .int x1), (2, .int v1)]) hx hb dX7_canSingOn_9 rfl hl (by decide) rfl (fun ls hl => ?_)
      refine qjx0 (G := ∀ ls : Array Slot, lv_has ls 4 [(0, .ref (ad 0)), (1, .int x1), (2, .int v1)] → W p l e (headSpec wsX7_canSingOn rm_X7_canSingOn).room s m [.ref (ad 0), .int x1].toArray below meth c s.heap [] 0 0 (MQ below (vp_Si P) [.ref (ad 0), .int x1].toArray s 0 0 (fun _ => False)) (F0 m 51 ls [])) h ?_ ?_
      rotate_left
      · intro h
        refine qloop1 (I := fun (v2 : Int32) => ∀ ls : Array Slot, lv_has ls 4 [(0, .ref (ad 0)), (1, .int x1), (2, .int v1), (3, .int v2)] → W p l e (headSpec wsX7_canSingOn rm_X7_canSingOn).room s m [.ref (ad 0), .int x1].toArray below meth c s.heap [] 0 0 (MQ below (vp_Si P) [.ref (ad 0), .int x1].toArray s 0 0 (fun _ => False)) (F0 m 10 ls [])) ?_ h _ (lv_sub hl [1, 2, 3, 0] rfl)
        intro v2 h ls hl
        have h : qOk (kX7_canSingOn_L10 v1 x1 M v2) _ := h
        unfold kX7_canSingOn_L10 at h
        refine lv_iload_n hx hb dX7_canSingOn_10 rfl (lv_at hl 3 rfl) ?_
        refine lv_iload_n hx hb dX7_canSingOn_11 rfl (lv_at hl 2 rfl) ?_
        refine lv_icmp_ge (tgt := 51) hx hb dX7_canSingOn_12 (by decide) (fun hc => ?_) (fun hc => ?_)
        · have h := qOk.t hc h
          exact qOk.lx h _ (lv_sub hl [0, 1, 2] rfl)
        · have h := qOk.f hc h
          refine lv_iload_n hx hb dX7_canSingOn_15 rfl (lv_at hl 1 rfl) ?_
          refine lv_iload_n hx hb dX7_canSingOn_16 rfl (lv_at hl 2 rfl) ?_
          refine y_cs (va_runS (As := [.int x1, .int v1]) (rest := []) ⟨hx, hb, hml, hown, hts⟩ (c_X7_has l x1 v1 (qOk.b1 h)) (va_cwS 2 hts gX7_canSingOn_X7_has rfl rfl rfl (by decide +kernel) ⟨Nat.le_of_ble_eq_true rfl, Nat.le_of_ble_eq_true rfl⟩) ⟨qPrT.blind, qPrT.at⟩ rfl rfl hl.1 rfl (lv_room (Nat.le_of_ble_eq_true rfl)) dX7_canSingOn_17 ⟨Nat.zero_le _, Nat.zero_le _⟩) (fun v3 h => ?_)
          refine lv_if_eq (tgt := 45) hx hb dX7_canSingOn_20 (by decide) (fun hc => ?_) (fun hc => ?_)
          · have h := qOk.t hc h
            obtain ⟨v4, ev4⟩ : ∃ y : Int32, y = v2 + 1 := ⟨_, rfl⟩
            have h := qOk.v h ev4
            refine lv_iinc (v := v4) (lv' := [(3, .int v4), (0, .ref (ad 0)), (1, .int x1), (2, .int v1)]) hx hb dX7_canSingOn_45 hl (k := 3) rfl (by rw [ev4]; rfl) (by decide) rfl (fun ls hl => ?_)
            refine lv_goto (tgt := 10) hx hb dX7_canSingOn_48 (by decide) ?_
            exact qOk.li h _ (lv_sub hl [1, 2, 3, 0] rfl)
          · have h := qOk.f hc h
            refine lv_iload_n hx hb dX7_canSingOn_23 rfl (lv_at hl 1 rfl) ?_
            refine lv_iload_n hx hb dX7_canSingOn_24 rfl (lv_at hl 3 rfl) ?_
            refine y_cs (va_runS (As := [.int x1, .int v2]) (rest := []) ⟨hx, hb, hml, hown, hts⟩ (c_X7_has l x1 v2 (qOk.b1 h)) (va_cwS 2 hts gX7_canSingOn_X7_has rfl rfl rfl (by decide +kernel) ⟨Nat.le_of_ble_eq_true rfl, Nat.le_of_ble_eq_true rfl⟩) ⟨qPrT.blind, qPrT.at⟩ rfl rfl hl.1 rfl (lv_room (Nat.le_of_ble_eq_true rfl)) dX7_canSingOn_25 ⟨Nat.zero_le _, Nat.zero_le _⟩) (fun v5 h => ?_)
            refine lv_if_eq (tgt := 45) hx hb dX7_canSingOn_28 (by decide) (fun hc => ?_) (fun hc => ?_)
            · have h := qOk.t hc h
              obtain ⟨v6, ev6⟩ : ∃ y : Int32, y = v2 + 1 := ⟨_, rfl⟩
              have h := qOk.v h ev6
              refine lv_iinc (v := v6) (lv' := [(3, .int v6), (0, .ref (ad 0)), (1, .int x1), (2, .int v1)]) hx hb dX7_canSingOn_45 hl (k := 3) rfl (by rw [ev6]; rfl) (by decide) rfl (fun ls hl => ?_)
              refine lv_goto (tgt := 10) hx hb dX7_canSingOn_48 (by decide) ?_
              exact qOk.li h _ (lv_sub hl [1, 2, 3, 0] rfl)
            · have h := qOk.f hc h
              refine lv_aload_n hx hb dX7_canSingOn_31 rfl (lv_at hl 0 rfl) ?_
              refine y_get hx hb hts i_X7 hown hK hH qOb_7 rfl 0 (by decide) f10 rfl dX7_canSingOn_32 ?_
              refine lv_iload_n hx hb dX7_canSingOn_35 rfl (lv_at hl 2 rfl) ?_
              refine lv_iload_n hx hb dX7_canSingOn_36 rfl (lv_at hl 3 rfl) ?_
              refine y_cs (va_runV (As := [.int v1, .int v2]) (rest := []) ⟨hx, hb, hml, hown, hts⟩ (c_X1_clash l G ad hI M _ qMi_1 v1 v2 (qOk.b1 h)) (cwV 2 hts gX7_canSingOn_X1_clash rfl rfl rfl (by decide +kernel) ⟨Nat.le_of_ble_eq_true rfl, Nat.le_of_ble_eq_true rfl⟩) ⟨qPre.blind, qrecv hK hH (qMi_ob qMi_1) rfl, qPre.at hK hH⟩ rfl rfl hl.1 rfl (lv_room (Nat.le_of_ble_eq_true rfl)) dX7_canSingOn_37 ⟨Nat.zero_le _, Nat.zero_le _⟩) (fun v7 h => ?_)
              refine lv_if_eq (tgt := 45) hx hb dX7_canSingOn_40 (by decide) (fun hc => ?_) (fun hc => ?_)
              · have h := qOk.t hc h
                obtain ⟨v8, ev8⟩ : ∃ y : Int32, y = v2 + 1 := ⟨_, rfl⟩
                have h := qOk.v h ev8
                refine lv_iinc (v := v8) (lv' := [(3, .int v8), (0, .ref (ad 0)), (1, .int x1), (2, .int v1)]) hx hb dX7_canSingOn_45 hl (k := 3) rfl (by rw [ev8]; rfl) (by decide) rfl (fun ls hl => ?_)
                refine lv_goto (tgt := 10) hx hb dX7_canSingOn_48 (by decide) ?_
                exact qOk.li h _ (lv_sub hl [1, 2, 3, 0] rfl)
              · have h := qOk.f hc h
                refine lv_iconst (v := 0) hx hb dX7_canSingOn_43 (by decide) ?_
                have h := qOk.lr h
                have h := qOk.lr h
                exact W.zret hx hb hr rfl (fun t ht _ => ⟨_, rfl, qOk.s h, ht⟩) (fun _ hq => by cases hq) dX7_canSingOn_44
      intro  h ls hl
      obtain ⟨v9, ev9⟩ : ∃ y : Int32, y = v1 + 1 := ⟨_, rfl⟩
      have h := qOk.v h ev9
      refine lv_iinc (v := v9) (lv' := [(2, .int v9), (0, .ref (ad 0)), (1, .int x1)]) hx hb dX7_canSingOn_51 hl (k := 2) rfl (by rw [ev9]; rfl) (by decide) rfl (fun ls hl => ?_)
      refine lv_goto (tgt := 2) hx hb dX7_canSingOn_54 (by decide) ?_
      exact qOk.li h _ (lv_sub hl [1, 2, 0] rfl)
  intro  h ls hl
  refine lv_iconst (v := 1) hx hb dX7_canSingOn_57 (by decide) ?_
  exact W.zret hx hb hr rfl (fun t ht _ => ⟨_, rfl, qOk.s h, ht⟩) (fun _ hq => by cases hq) dX7_canSingOn_58
abbrev rm_X7_keep : Room := { frames := 3, cells := 0, slots := 0, locals := 68 }
set_option maxHeartbeats 4000000 in
set_option maxRecDepth 100000 in
theorem c_X7_keep (l : Launch) (G : qG) (ad : Nat → Nat) (hI : qI W1N ad) (M : qM) (sz : Nat) (x1 : Int32) {P : Int32 → Prop} (h : qOk (kX7_keep M x1) P) : Met l yX7_keep wsX7_keep rm_X7_keep (va_Pc [.ref (ad 0), .int x1] (qPre W1N e1 G ad M sz)) (vp_Si P) 0 0 (fun _ => False) := by
  refine Met.ofW (cc := cX7_keep) (maxL := 5) (ret := (some .int)) (by decide) rfl ?_
  intro p e s m args below meth c s₁ B hml hv
  obtain ⟨rfl, hsz, hK, hP⟩ := hv
  subst hsz
  have hx := B.exec
  have hb := B.bytes
  have hr := B.returns
  have hts := atoms_spec (ws := wsX7_keep) B.pre
  have hown : s.vm.findClass RX7 = some m.cls := findClass_of_methodNamed B.named
  have hlocks := B.notSynchronized
  have hH : qHS W1N e1 G ad M s.heap s.heap [] := ⟨hP, va_S.rf⟩
  have f10 : (Cond.fieldLink RX7 10 "SongLamps" "now" "LSongLamps$Mine;").before [.ref (ad 0), .int x1].toArray s = true := hts _ (by decide +kernel)
  have i_X7 : ∀ w ∈ wsX70, w ∈ wsX7_keep := fun w hw => List.mem_cons_of_mem _ ((List.mem_append_left _ (List.mem_append_right _ hw)))
  have hl := lv_entry ([.ref (ad 0), .int x1]) (n := 5) (Nat.le_of_ble_eq_true rfl)
  rw [lg_entry_eq]
  generalize (lg_sl ([.ref (ad 0), .int x1]) ++ List.replicate (5 - (lg_sl ([.ref (ad 0), .int x1])).length) Slot.unset).toArray = ls at hl ⊢
  have hl : lv_has ls 5 [(0, .ref (ad 0)), (1, .int x1)] := hl
  have h : qOk (kX7_keep M x1) _ := h
  unfold kX7_keep at h
  refine lv_iload_n hx hb dX7_keep_0 rfl (lv_at hl 1 rfl) ?_
  refine lv_if_lt (tgt := 9) hx hb dX7_keep_1 (by decide) (fun hc => ?_) (fun hc => ?_)
  · have h := qOk.t hc h
    refine lv_bipush (v := (-2)) hx hb dX7_keep_9 (by decide) ?_
    exact W.iret hx hb hr (fun t ht _ => ⟨_, rfl, qOk.s h, ht⟩) (fun _ hq => by cases hq) dX7_keep_11
  · have h := qOk.f hc h
    refine lv_iload_n hx hb dX7_keep_4 rfl (lv_at hl 1 rfl) ?_
    refine lv_iconst (v := 1) hx hb dX7_keep_5 (by decide) ?_
    refine lv_icmp_le (tgt := 12) hx hb dX7_keep_6 (by decide) (fun hc => ?_) (fun hc => ?_)
    · have h := qOk.t hc h
      refine lv_aload_n hx hb dX7_keep_12 rfl (lv_at hl 0 rfl) ?_
      refine y_get hx hb hts i_X7 hown hK hH qOb_7 rfl 0 (by decide) f10 rfl dX7_keep_13 ?_
      refine y_cs (va_runV (As := []) (rest := []) ⟨hx, hb, hml, hown, hts⟩ (c_X1_singing l G ad hI M _ qMi_1 (qOk.b1 h)) (cwV 0 hts gX7_keep_X1_singing rfl rfl rfl (by decide +kernel) ⟨Nat.le_of_ble_eq_true rfl, Nat.le_of_ble_eq_true rfl⟩) ⟨qPre.blind, qrecv hK hH (qMi_ob qMi_1) rfl, qPre.at hK hH⟩ rfl rfl hl.1 rfl (lv_room (Nat.le_of_ble_eq_true rfl)) dX7_keep_16 ⟨Nat.zero_le _, Nat.zero_le _⟩) (fun v1 h => ?_)
      refine lv_istore_n (lv' := [(2, .int v1), (0, .ref (ad 0)), (1, .int x1)]) hx hb dX7_keep_19 rfl hl (by decide) rfl (fun ls hl => ?_)
      refine lv_iconst (v := 0) hx hb dX7_keep_20 (by decide) ?_
      refine lv_istore_n (lv' := [(3, .int 0), (2, .int v1), (0, .ref (ad 0)), (1, .int x1)]) hx hb dX7_keep_21 rfl hl (by decide) rfl (fun ls hl => ?_)
      refine lv_iconst (v := 1) hx hb dX7_keep_22 (by decide) ?_
      refine lv_istore (lv' := [(4, .int 1), (3, .int 0), (2, .int v1), (0, .ref (ad 0)), (1, .int x1)]) hx hb dX7_keep_23 hl (by decide) rfl (fun ls hl => ?_)
      refine qj1 (G := fun (v4 : Int32) => ∀ ls : Array Slot, lv_has ls 5 [(1, .int x1), (3, .int v4)] → W p l e (headSpec wsX7_keep rm_X7_keep).room s m [.ref (ad 0), .int x1].toArray below meth c s.heap [] 0 0 (MQ below (vp_Si P) [.ref (ad 0), .int x1].toArray s 0 0 (fun _ => False)) (F0 m 70 ls [])) h ?_ ?_
      rotate_left
      · intro h
        refine qloop2 (I := fun (v2 : Int32) (v3 : Int32) => ∀ ls : Array Slot, lv_has ls 5 [(0, .ref (ad 0)), (1, .int x1), (2, .int v1), (3, .int v2), (4, .int v3)] → W p l e (headSpec wsX7_keep rm_X7_keep).room s m [.ref (ad 0), .int x1].toArray below meth c s.heap [] 0 0 (MQ below (vp_Si P) [.ref (ad 0), .int x1].toArray s 0 0 (fun _ => False)) (F0 m 25 ls [])) ?_ h _ (lv_sub hl [3, 4, 2, 1, 0] rfl)
        intro v2 v3 h ls hl
        have h : qOk (kX7_keep_L25 v1 M v2 v3) _ := h
        unfold kX7_keep_L25 at h
        refine lv_iload hx hb dX7_keep_25 (lv_at hl 4 rfl) ?_
        refine lv_iload_n hx hb dX7_keep_27 rfl (lv_at hl 2 rfl) ?_
        refine lv_icmp_gt (tgt := 70) hx hb dX7_keep_28 (by decide) (fun hc => ?_) (fun hc => ?_)
        · have h := qOk.t hc h
          exact qOk.le h _ (lv_sub hl [1, 3] rfl)
        · have h := qOk.f hc h
          refine lv_iload hx hb dX7_keep_31 (lv_at hl 4 rfl) ?_
          refine lv_iload_n hx hb dX7_keep_33 rfl (lv_at hl 2 rfl) ?_
          refine lv_iconst (v := (-1)) hx hb dX7_keep_34 (by decide) ?_
          refine lv_ixor hx hb dX7_keep_35 ?_
          refine lv_iand hx hb dX7_keep_36 ?_
          refine qj1 (G := fun (v5 : Int32) => ∀ ls : Array Slot, lv_has ls 5 [(0, .ref (ad 0)), (1, .int x1), (2, .int v1), (3, .int v5), (4, .int v3)] → W p l e (headSpec wsX7_keep rm_X7_keep).room s m [.ref (ad 0), .int x1].toArray below meth c s.heap [] 0 0 (MQ below (vp_Si P) [.ref (ad 0), .int x1].toArray s 0 0 (fun _ => False)) (F0 m 64 ls [])) h ?_ ?_
          rotate_left
          · intro h
            refine lv_if_ne (tgt := 64) hx hb dX7_keep_37 (by decide) (fun hc => ?_) (fun hc => ?_)
            · have h := qOk.f hc h
              have h := qOk.s h
              exact h _ (lv_sub hl [0, 1, 2, 3, 4] rfl)
            · have h := qOk.t hc h
              refine lv_iload hx hb dX7_keep_40 (lv_at hl 4 rfl) ?_
              refine y_cs (va_runS (As := [.int v3]) (rest := []) ⟨hx, hb, hml, hown, hts⟩ (c_J6_bitCount_0f7a4 l v3 (qOk.b1 h)) (va_cwS 1 hts gX7_keep_J6_bitCount_0f7a4 rfl rfl rfl (by decide +kernel) ⟨Nat.le_of_ble_eq_true rfl, Nat.le_of_ble_eq_true rfl⟩) ⟨qPrT.blind, qPrT.at⟩ rfl rfl hl.1 rfl (lv_room (Nat.le_of_ble_eq_true rfl)) dX7_keep_42 ⟨Nat.zero_le _, Nat.zero_le _⟩) (fun v6 h => ?_)
              refine lv_iload_n hx hb dX7_keep_45 rfl (lv_at hl 3 rfl) ?_
              refine y_cs (va_runS (As := [.int v2]) (rest := [.int v6]) ⟨hx, hb, hml, hown, hts⟩ (c_J6_bitCount_0f7a4 l v2 (qOk.b1 h)) (va_cwS 1 hts gX7_keep_J6_bitCount_0f7a4 rfl rfl rfl (by decide +kernel) ⟨Nat.le_of_ble_eq_true rfl, Nat.le_of_ble_eq_true rfl⟩) ⟨qPrT.blind, qPrT.at⟩ rfl rfl hl.1 rfl (lv_room (Nat.le_of_ble_eq_true rfl)) dX7_keep_46 ⟨Nat.zero_le _, Nat.zero_le _⟩) (fun v7 h => ?_)
              refine lv_icmp_le (tgt := 64) hx hb dX7_keep_49 (by decide) (fun hc => ?_) (fun hc => ?_)
              · have h := qOk.t hc h
                have h := qOk.s h
                exact h _ (lv_sub hl [0, 1, 2, 3, 4] rfl)
              · have h := qOk.f hc h
                refine lv_aload_n hx hb dX7_keep_52 rfl (lv_at hl 0 rfl) ?_
                refine lv_iload hx hb dX7_keep_53 (lv_at hl 4 rfl) ?_
                refine y_cs (va_runV (As := [.int v3]) (rest := []) ⟨hx, hb, hml, hown, hts⟩ (c_X7_canSingOn l G ad hI M _ v3 (qOk.b1 h)) (cwV 1 hts gX7_keep_X7_canSingOn rfl rfl rfl (by decide +kernel) ⟨Nat.le_of_ble_eq_true rfl, Nat.le_of_ble_eq_true rfl⟩) ⟨qPre.blind, qrecv hK hH qOb_7 rfl, qPre.at hK hH⟩ rfl rfl hl.1 rfl (lv_room (Nat.le_of_ble_eq_true rfl)) dX7_keep_55 ⟨Nat.zero_le _, Nat.zero_le _⟩) (fun v8 h => ?_)
                refine lv_if_eq (tgt := 64) hx hb dX7_keep_58 (by decide) (fun hc => ?_) (fun hc => ?_)
                · have h := qOk.t hc h
                  have h := qOk.s h
                  exact h _ (lv_sub hl [0, 1, 2, 3, 4] rfl)
                · have h := qOk.f hc h
                  refine lv_iload hx hb dX7_keep_61 (lv_at hl 4 rfl) ?_
                  refine lv_istore_n (lv' := [(3, .int v3), (0, .ref (ad 0)), (1, .int x1), (2, .int v1), (4, .int v3)]) hx hb dX7_keep_63 rfl hl (by decide) rfl (fun ls hl => ?_)
                  have h := qOk.s h
                  exact h _ (lv_sub hl [1, 2, 3, 0, 4] rfl)
          intro v5 h ls hl
          obtain ⟨v9, ev9⟩ : ∃ y : Int32, y = v3 + 1 := ⟨_, rfl⟩
          have h := qOk.v h ev9
          refine lv_iinc (v := v9) (lv' := [(4, .int v9), (0, .ref (ad 0)), (1, .int x1), (2, .int v1), (3, .int v5)]) hx hb dX7_keep_64 hl (k := 4) rfl (by rw [ev9]; rfl) (by decide) rfl (fun ls hl => ?_)
          refine lv_goto (tgt := 25) hx hb dX7_keep_67 (by decide) ?_
          exact qOk.li h _ (lv_sub hl [1, 2, 3, 4, 0] rfl)
      intro v4 h ls hl
      refine lv_iload_n hx hb dX7_keep_70 rfl (lv_at hl 0 rfl) ?_
      refine qj1 (G := fun (v10 : Int32) => W p l e (headSpec wsX7_keep rm_X7_keep).room s m [.ref (ad 0), .int x1].toArray below meth c s.heap [] 0 0 (MQ below (vp_Si P) [.ref (ad 0), .int x1].toArray s 0 0 (fun _ => False)) (F0 m 82 ls [.int v10])) h ?_ ?_
      rotate_left
      · intro h
        refine lv_if_ne (tgt := 81) hx hb dX7_keep_71 (by decide) (fun hc => ?_) (fun hc => ?_)
        · have h := qOk.f hc h
          refine lv_iload_n hx hb dX7_keep_81 rfl (lv_at hl 1 rfl) ?_
          have h := qOk.s h
          exact h
        · have h := qOk.t hc h
          refine lv_iload_n hx hb dX7_keep_74 rfl (lv_at hl 1 rfl) ?_
          refine y_cs (va_runS (As := [.int v4]) (rest := []) ⟨hx, hb, hml, hown, hts⟩ (c_J6_bitCount_0f7a4 l v4 (qOk.b1 h)) (va_cwS 1 hts gX7_keep_J6_bitCount_0f7a4 rfl rfl rfl (by decide +kernel) ⟨Nat.le_of_ble_eq_true rfl, Nat.le_of_ble_eq_true rfl⟩) ⟨qPrT.blind, qPrT.at⟩ rfl rfl hl.1 rfl (lv_room (Nat.le_of_ble_eq_true rfl)) dX7_keep_75 ⟨Nat.zero_le _, Nat.zero_le _⟩) (fun v11 h => ?_)
          refine lv_goto (tgt := 82) hx hb dX7_keep_78 (by decide) ?_
          have h := qOk.s h
          exact h
      intro v10 h
      exact W.iret hx hb hr (fun t ht _ => ⟨_, rfl, qOk.s h, ht⟩) (fun _ hq => by cases hq) dX7_keep_82
    · have h := qOk.f hc h
      refine lv_bipush (v := (-2)) hx hb dX7_keep_9 (by decide) ?_
      exact W.iret hx hb hr (fun t ht _ => ⟨_, rfl, qOk.s h, ht⟩) (fun _ hq => by cases hq) dX7_keep_11
abbrev rm_X7_cut : Room := { frames := 2, cells := 0, slots := 0, locals := 51 }
set_option maxHeartbeats 4000000 in
set_option maxRecDepth 100000 in
theorem c_X7_cut (l : Launch) (G : qG) (ad : Nat → Nat) (hI : qI W1N ad) (M : qM) (sz : Nat) {P : Int32 → qM → Prop} (h : qOk2 (kX7_cut M) P) : Met l yX7_cut wsX7_cut rm_X7_cut (va_Pc [.ref (ad 0)] (qPre W1N e1 G ad M sz)) (va_Qi P (fun u t => qHp W1N e1 G ad u t.heap) (qA W1N ad sz)) 0 0 (qA W1N ad sz) := by
  refine Met.ofW (cc := cX7_cut) (maxL := 3) (ret := (some .int)) (by decide) rfl ?_
  intro p e s m args below meth c s₁ B hml hv
  obtain ⟨rfl, hsz, hK, hP⟩ := hv
  subst hsz
  have hx := B.exec
  have hb := B.bytes
  have hr := B.returns
  have hts := atoms_spec (ws := wsX7_cut) B.pre
  have hown : s.vm.findClass RX7 = some m.cls := findClass_of_methodNamed B.named
  have hlocks := B.notSynchronized
  have hH : qHS W1N e1 G ad M s.heap s.heap [] := ⟨hP, va_S.rf⟩
  have f48 : (Cond.fieldLink RX7 48 "SongLamps" "ways" "LSongLamps$Ways;").before [.ref (ad 0)].toArray s = true := hts _ (by decide +kernel)
  have i_X7 : ∀ w ∈ wsX70, w ∈ wsX7_cut := fun w hw => List.mem_cons_of_mem _ ((List.mem_append_left _ (List.mem_append_left _ (List.mem_append_right _ hw))))
  have f10 : (Cond.fieldLink RX7 10 "SongLamps" "now" "LSongLamps$Mine;").before [.ref (ad 0)].toArray s = true := hts _ (by decide +kernel)
  have f183 : (Cond.fieldLink RX7 183 "SongLamps$Mine" "passages" "[I").before [.ref (ad 0)].toArray s = true := hts _ (by decide +kernel)
  have i_X1 : ∀ w ∈ wsX10, w ∈ wsX7_cut := fun w hw => List.mem_cons_of_mem _ ((List.mem_append_left _ (List.mem_append_right _ hw)))
  have f186 : (Cond.fieldLink RX7 186 "SongLamps$Mine" "closed" "I").before [.ref (ad 0)].toArray s = true := hts _ (by decide +kernel)
  have f193 : (Cond.fieldLink RX7 193 "SongLamps$Ways" "far" "[I").before [.ref (ad 0)].toArray s = true := hts _ (by decide +kernel)
  have i_X6 : ∀ w ∈ wsX60, w ∈ wsX7_cut := fun w hw => List.mem_cons_of_mem _ ((List.mem_append_right _ hw))
  have f104 : (Cond.fieldLink RX7 104 "SongLamps$Mine" "place" "[I").before [.ref (ad 0)].toArray s = true := hts _ (by decide +kernel)
  have hl := lv_entry ([.ref (ad 0)]) (n := 3) (Nat.le_of_ble_eq_true rfl)
  rw [lg_entry_eq]
  generalize (lg_sl ([.ref (ad 0)]) ++ List.replicate (3 - (lg_sl ([.ref (ad 0)])).length) Slot.unset).toArray = ls at hl ⊢
  have hl : lv_has ls 3 [(0, .ref (ad 0))] := hl
  have h : qOk (kX7_cut M) _ := h
  unfold kX7_cut at h
  refine lv_aload_n hx hb dX7_cut_0 rfl (lv_at hl 0 rfl) ?_
  refine y_get hx hb hts i_X7 hown hK hH qOb_7 rfl 6 (by decide) f48 rfl dX7_cut_1 ?_
  refine lv_iconst (v := 0) hx hb dX7_cut_4 (by decide) ?_
  refine lv_aload_n hx hb dX7_cut_5 rfl (lv_at hl 0 rfl) ?_
  refine y_get hx hb hts i_X7 hown hK hH qOb_7 rfl 0 (by decide) f10 rfl dX7_cut_6 ?_
  refine y_get hx hb hts i_X1 hown hK hH (qMi_ob qMi_1) rfl 0 (by decide) f183 rfl dX7_cut_9 ?_
  refine lv_sipush (v := 1023) hx hb dX7_cut_12 (by decide) ?_
  refine lv_aload_n hx hb dX7_cut_15 rfl (lv_at hl 0 rfl) ?_
  refine y_get hx hb hts i_X7 hown hK hH qOb_7 rfl 0 (by decide) f10 rfl dX7_cut_16 ?_
  refine y_get hx hb hts i_X1 hown hK hH (qMi_ob qMi_1) rfl 4 (by decide) f186 rfl dX7_cut_19 ?_
  refine lv_iconst (v := (-1)) hx hb dX7_cut_22 (by decide) ?_
  refine lv_ixor hx hb dX7_cut_23 ?_
  refine lv_iand hx hb dX7_cut_24 ?_
  refine y_cv hH (va_runV (As := [.int 0, .ref (ad (1 + 1)), .int (1023 &&& ((M 1 4) ^^^ (-1)))]) (rest := []) ⟨hx, hb, hml, hown, hts⟩ (c_X6_measure l G ad hI M _ qWy_63 0 (qMi_a1 qMi_1) (1023 &&& ((M 1 4) ^^^ (-1))) (qOk.b1 h)) (cwV 3 hts gX7_cut_X6_measure rfl rfl rfl (by decide +kernel) ⟨Nat.le_of_ble_eq_true rfl, Nat.le_of_ble_eq_true rfl⟩) ⟨qPre.blind, qrecv hK hH (qWy_ob qWy_63) rfl, qPre.at hK hH⟩ rfl rfl hl.1 rfl (lv_room (Nat.le_of_ble_eq_true rfl)) dX7_cut_25 ⟨Nat.zero_le _, Nat.zero_le _⟩) (fun M1 H locs hH h => ?_)
  refine lv_iconst (v := 0) hx hb dX7_cut_28 (by decide) ?_
  refine lv_istore_n (lv' := [(1, .int 0), (0, .ref (ad 0))]) hx hb dX7_cut_29 rfl hl (by decide) rfl (fun ls hl => ?_)
  refine lv_iconst (v := 0) hx hb dX7_cut_30 (by decide) ?_
  refine lv_istore_n (lv' := [(2, .int 0), (1, .int 0), (0, .ref (ad 0))]) hx hb dX7_cut_31 rfl hl (by decide) rfl (fun ls hl => ?_)
  refine qj1 (G := fun (v4 : Int32) => ∀ ls : Array Slot, lv_has ls 3 [(1, .int v4)] → W p l e (headSpec wsX7_cut rm_X7_cut).room s m [.ref (ad 0)].toArray below meth c H locs 0 0 (MQ below (va_Qi P (fun u t => qHp W1N e1 G ad u t.heap) (qA W1N ad s.heap.size)) [.ref (ad 0)].toArray s 0 0 (qA W1N ad s.heap.size)) (F0 m 83 ls [])) h ?_ ?_
  rotate_left
  · intro h
    refine qloop2 (I := fun (v2 : Int32) (v3 : Int32) => ∀ ls : Array Slot, lv_has ls 3 [(0, .ref (ad 0)), (1, .int v2), (2, .int v3)] → W p l e (headSpec wsX7_cut rm_X7_cut).room s m [.ref (ad 0)].toArray below meth c H locs 0 0 (MQ below (va_Qi P (fun u t => qHp W1N e1 G ad u t.heap) (qA W1N ad s.heap.size)) [.ref (ad 0)].toArray s 0 0 (qA W1N ad s.heap.size)) (F0 m 32 ls [])) ?_ h _ (lv_sub hl [2, 1, 0] rfl)
    intro v2 v3 h ls hl
    have h : qOk (kX7_cut_L32 M1 v2 v3) _ := h
    unfold kX7_cut_L32 at h
    refine lv_iload_n hx hb dX7_cut_32 rfl (lv_at hl 2 rfl) ?_
    refine lv_bipush (v := 8) hx hb dX7_cut_33 (by decide) ?_
    refine lv_icmp_ge (tgt := 83) hx hb dX7_cut_35 (by decide) (fun hc => ?_) (fun hc => ?_)
    · have h := qOk.t hc h
      exact qOk.le h _ (lv_sub hl [1] rfl)
    · have h := qOk.f hc h
      refine lv_aload_n hx hb dX7_cut_38 rfl (lv_at hl 0 rfl) ?_
      refine y_get hx hb hts i_X7 hown hK hH qOb_7 rfl 0 (by decide) f10 rfl dX7_cut_39 ?_
      refine lv_iload_n hx hb dX7_cut_42 rfl (lv_at hl 2 rfl) ?_
      refine y_cs (va_runV (As := [.int v3]) (rest := []) ⟨hx, hb, hml, hown, hts⟩ (c_X1_isThere l G ad hI M1 _ qMi_1 v3 (qOk.b1 h)) (cwV 1 hts gX7_cut_X1_isThere rfl rfl rfl (by decide +kernel) ⟨Nat.le_of_ble_eq_true rfl, Nat.le_of_ble_eq_true rfl⟩) ⟨qPre.blind, qrecv hK hH (qMi_ob qMi_1) rfl, qPre.at hK hH⟩ rfl rfl hl.1 rfl (lv_room (Nat.le_of_ble_eq_true rfl)) dX7_cut_43 ⟨Nat.zero_le _, Nat.zero_le _⟩) (fun v5 h => ?_)
      refine qj1 (G := fun (v6 : Int32) => ∀ ls : Array Slot, lv_has ls 3 [(0, .ref (ad 0)), (1, .int v6), (2, .int v3)] → W p l e (headSpec wsX7_cut rm_X7_cut).room s m [.ref (ad 0)].toArray below meth c H locs 0 0 (MQ below (va_Qi P (fun u t => qHp W1N e1 G ad u t.heap) (qA W1N ad s.heap.size)) [.ref (ad 0)].toArray s 0 0 (qA W1N ad s.heap.size)) (F0 m 77 ls [])) h ?_ ?_
      rotate_left
      · intro h
        refine lv_if_eq (tgt := 77) hx hb dX7_cut_46 (by decide) (fun hc => ?_) (fun hc => ?_)
        · have h := qOk.t hc h
          have h := qOk.s h
          exact h _ (lv_sub hl [0, 1, 2] rfl)
        · have h := qOk.f hc h
          refine lv_aload_n hx hb dX7_cut_49 rfl (lv_at hl 0 rfl) ?_
          refine y_get hx hb hts i_X7 hown hK hH qOb_7 rfl 6 (by decide) f48 rfl dX7_cut_50 ?_
          refine y_get hx hb hts i_X6 hown hK hH (qWy_ob qWy_63) rfl 0 (by decide) f193 rfl dX7_cut_53 ?_
          refine lv_aload_n hx hb dX7_cut_56 rfl (lv_at hl 0 rfl) ?_
          refine y_get hx hb hts i_X7 hown hK hH qOb_7 rfl 0 (by decide) f10 rfl dX7_cut_57 ?_
          refine y_get hx hb hts i_X1 hown hK hH (qMi_ob qMi_1) rfl 12 (by decide) f104 rfl dX7_cut_60 ?_
          refine lv_iload_n hx hb dX7_cut_63 rfl (lv_at hl 2 rfl) ?_
          refine y_iald hx hb hK hH (qMi_a8 qMi_1) h dX7_cut_64 (fun v7 h => ?_)
          refine y_iald hx hb hK hH (qWy_a1 qWy_63) h dX7_cut_65 (fun v8 h => ?_)
          refine lv_bipush (v := (-6)) hx hb dX7_cut_66 (by decide) ?_
          refine lv_icmp_ne (tgt := 77) hx hb dX7_cut_68 (by decide) (fun hc => ?_) (fun hc => ?_)
          · have h := qOk.f hc h
            have h := qOk.s h
            exact h _ (lv_sub hl [0, 1, 2] rfl)
          · have h := qOk.t hc h
            refine lv_iload_n hx hb dX7_cut_71 rfl (lv_at hl 1 rfl) ?_
            refine lv_iconst (v := 1) hx hb dX7_cut_72 (by decide) ?_
            refine lv_iload_n hx hb dX7_cut_73 rfl (lv_at hl 2 rfl) ?_
            refine lv_ishl hx hb dX7_cut_74 ?_
            refine lv_ior hx hb dX7_cut_75 ?_
            refine lv_topi (fun v9 ev9 => ?_)
            have h := qOk.v h ev9
            refine lv_istore_n (lv' := [(1, .int v9), (0, .ref (ad 0)), (2, .int v3)]) hx hb dX7_cut_76 rfl hl (by decide) rfl (fun ls hl => ?_)
            have h := qOk.s h
            exact h _ (lv_sub hl [1, 0, 2] rfl)
      intro v6 h ls hl
      obtain ⟨v10, ev10⟩ : ∃ y : Int32, y = v3 + 1 := ⟨_, rfl⟩
      have h := qOk.v h ev10
      refine lv_iinc (v := v10) (lv' := [(2, .int v10), (0, .ref (ad 0)), (1, .int v6)]) hx hb dX7_cut_77 hl (k := 2) rfl (by rw [ev10]; rfl) (by decide) rfl (fun ls hl => ?_)
      refine lv_goto (tgt := 32) hx hb dX7_cut_80 (by decide) ?_
      exact qOk.li h _ (lv_sub hl [1, 2, 0] rfl)
  intro v4 h ls hl
  refine lv_iload_n hx hb dX7_cut_83 rfl (lv_at hl 0 rfl) ?_
  exact W.iret hx hb hr (fun t ht _ => ⟨⟨_, _, rfl, qOk2.s h, qHpt ht hH.1⟩, hH.2.F ht⟩) hH.2.2.2 dX7_cut_84
