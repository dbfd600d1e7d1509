abbrev rm_X4_drawActs : Room := { frames := 4, cells := 0, slots := 0, locals := 90 }
set_option maxHeartbeats 4000000 in
set_option maxRecDepth 100000 in
theorem c_X4_drawActs (l : Launch) (G : qG) (ad : Nat → Nat) (hI : qI W1N ad) (M : qM) (sz : Nat) {b1 : Nat} (w1 : qMi b1) (x2 : Int32) (x3 : Int32) {P : qM → Prop} (h : qOk (kX4_drawActs M b1 x2 x3) P) : Met l yX4_drawActs wsX4_drawActs rm_X4_drawActs (va_Pc [.ref (ad 47), .ref (ad b1), .int x2, .int x3] (qPre W1N e1 G ad M sz)) (va_Qv P (fun u t => qHp W1N e1 G ad u t.heap) (qA W1N ad sz)) 0 0 (qA W1N ad sz) := by
  refine Met.ofW (cc := cX4_drawActs) (maxL := 8) (ret := none) (by decide) rfl ?_
  intro p e s m args below meth c s₁ B hml hv
  obtain ⟨rfl, hsz, hK, hP⟩ := hv
  subst hsz
  have hx := B.exec
  have hb := B.bytes
  have hr := B.returns
  have hts := atoms_spec (ws := wsX4_drawActs) B.pre
  have hown : s.vm.findClass RX4 = some m.cls := findClass_of_methodNamed B.named
  have hlocks := B.notSynchronized
  have hH : qHS W1N e1 G ad M s.heap s.heap [] := ⟨hP, va_S.rf⟩
  have f12 : (Cond.fieldLink RX4 12 "SongLamps$Trial" "mine" "LSongLamps$Mine;").before [.ref (ad 47), .ref (ad b1), .int x2, .int x3].toArray s = true := hts _ (by decide +kernel)
  have i_X4 : ∀ w ∈ wsX40, w ∈ wsX4_drawActs := fun w hw => List.mem_cons_of_mem _ ((List.mem_append_left _ (List.mem_append_left _ (List.mem_append_right _ hw))))
  have q75 : (Cond.constant RX4 75 (65537)).before [.ref (ad 47), .ref (ad b1), .int x2, .int x3].toArray s = true := hts _ (by decide +kernel)
  have f34 : (Cond.fieldLink RX4 34 "SongLamps$Trial" "lamps" "LSongLamps$Lamps;").before [.ref (ad 47), .ref (ad b1), .int x2, .int x3].toArray s = true := hts _ (by decide +kernel)
  have hl := lv_entry ([.ref (ad 47), .ref (ad b1), .int x2, .int x3]) (n := 8) (Nat.le_of_ble_eq_true rfl)
  rw [lg_entry_eq]
  generalize (lg_sl ([.ref (ad 47), .ref (ad b1), .int x2, .int x3]) ++ List.replicate (8 - (lg_sl ([.ref (ad 47), .ref (ad b1), .int x2, .int x3])).length) Slot.unset).toArray = ls at hl ⊢
  have hl : lv_has ls 8 [(0, .ref (ad 47)), (1, .ref (ad b1)), (2, .int x2), (3, .int x3)] := hl
  have h : qOk (kX4_drawActs M b1 x2 x3) _ := h
  unfold kX4_drawActs at h
  refine lv_aload_n hx hb dX4_drawActs_0 rfl (lv_at hl 0 rfl) ?_
  refine y_get hx hb hts i_X4 hown hK hH qOb_4 rfl 0 (by decide) f12 rfl dX4_drawActs_1 ?_
  refine lv_aload_n hx hb dX4_drawActs_4 rfl (lv_at hl 1 rfl) ?_
  refine y_cv hH (va_runV (As := [.ref (ad b1)]) (rest := []) ⟨hx, hb, hml, hown, hts⟩ (c_X1_become l G ad hI M _ qMi_48 w1 (qOk.b1 h)) (cwV 1 hts gX4_drawActs_X1_become rfl rfl rfl (by decide +kernel) ⟨Nat.le_of_ble_eq_true rfl, Nat.le_of_ble_eq_true rfl⟩) ⟨qPre.blind, qrecv hK hH (qMi_ob qMi_48) rfl, qPre.at hK hH⟩ rfl rfl hl.1 rfl (lv_room (Nat.le_of_ble_eq_true rfl)) dX4_drawActs_5 ⟨Nat.zero_le _, Nat.zero_le _⟩) (fun M1 H locs hH h => ?_)
  refine lv_iload_n hx hb dX4_drawActs_8 rfl (lv_at hl 2 rfl) ?_
  refine lv_istore (lv' := [(4, .int x2), (0, .ref (ad 47)), (1, .ref (ad b1)), (2, .int x2), (3, .int x3)]) hx hb dX4_drawActs_9 hl (by decide) rfl (fun ls hl => ?_)
  refine lv_iconst (v := 0) hx hb dX4_drawActs_11 (by decide) ?_
  refine lv_istore (lv' := [(5, .int 0), (4, .int x2), (0, .ref (ad 47)), (1, .ref (ad b1)), (2, .int x2), (3, .int x3)]) hx hb dX4_drawActs_12 hl (by decide) rfl (fun ls hl => ?_)
  refine qj1 (G := fun (M5 : qM) => ∀ (H : Heap) (locs : List Loc), qHS W1N e1 G ad M5 s.heap H locs → ∀ ls : Array Slot, lv_has ls 8 [] → W p l e (headSpec wsX4_drawActs rm_X4_drawActs).room s m [.ref (ad 47), .ref (ad b1), .int x2, .int x3].toArray below meth c H locs 0 0 (MQ below (va_Qv P (fun u t => qHp W1N e1 G ad u t.heap) (qA W1N ad s.heap.size)) [.ref (ad 47), .ref (ad b1), .int x2, .int x3].toArray s 0 0 (qA W1N ad s.heap.size)) (F0 m 118 ls [])) h ?_ ?_
  rotate_left
  · intro h
    refine qloop3 (I := fun (v2 : Int32) (v3 : Int32) (M4 : qM) => ∀ (H : Heap) (locs : List Loc), qHS W1N e1 G ad M4 s.heap H locs → ∀ ls : Array Slot, lv_has ls 8 [(0, .ref (ad 47)), (3, .int x3), (4, .int v2), (5, .int v3)] → W p l e (headSpec wsX4_drawActs rm_X4_drawActs).room s m [.ref (ad 47), .ref (ad b1), .int x2, .int x3].toArray below meth c H locs 0 0 (MQ below (va_Qv P (fun u t => qHp W1N e1 G ad u t.heap) (qA W1N ad s.heap.size)) [.ref (ad 47), .ref (ad b1), .int x2, .int x3].toArray s 0 0 (qA W1N ad s.heap.size)) (F0 m 14 ls [])) ?_ h _ _ hH _ (lv_sub hl [2, 5, 1, 0] rfl)
    intro v2 v3 M4 h H locs hH ls hl
    have h : qOk (kX4_drawActs_L14 x3 v2 v3 M4) _ := h
    unfold kX4_drawActs_L14 at h
    refine lv_iload hx hb dX4_drawActs_14 (lv_at hl 3 rfl) ?_
    refine lv_iload_n hx hb dX4_drawActs_16 rfl (lv_at hl 1 rfl) ?_
    refine lv_icmp_ge (tgt := 118) hx hb dX4_drawActs_17 (by decide) (fun hc => ?_) (fun hc => ?_)
    · have h := qOk.t hc h
      exact qOk.le h _ _ hH _ (lv_sub hl [] rfl)
    · have h := qOk.f hc h
      refine lv_bipush (v := 75) hx hb dX4_drawActs_20 (by decide) ?_
      refine lv_iload hx hb dX4_drawActs_22 (lv_at hl 2 rfl) ?_
      refine lv_imul hx hb dX4_drawActs_24 ?_
      refine lv_bipush (v := 74) hx hb dX4_drawActs_25 (by decide) ?_
      refine lv_iadd hx hb dX4_drawActs_27 ?_
      refine lv_ldc (v := 65537) hx hb hown q75 dX4_drawActs_28 ?_
      refine lv_irem hx hb dX4_drawActs_30 (by decide) ?_
      refine lv_topi (fun v6 ev6 => ?_)
      have h := qOk.v h ev6
      refine lv_istore (lv' := [(4, .int v6), (0, .ref (ad 47)), (3, .int x3), (5, .int v3)]) hx hb dX4_drawActs_31 hl (by decide) rfl (fun ls hl => ?_)
      refine lv_iload hx hb dX4_drawActs_33 (lv_at hl 0 rfl) ?_
      refine lv_bipush (v := 8) hx hb dX4_drawActs_35 (by decide) ?_
      refine lv_idiv hx hb dX4_drawActs_37 (by decide) ?_
      refine lv_bipush (v := 8) hx hb dX4_drawActs_38 (by decide) ?_
      refine lv_irem hx hb dX4_drawActs_40 (by decide) ?_
      refine y_cs (va_runS (As := [.int ((v6 / 8) - (v6 / 8) / 8 * 8)]) (rest := []) ⟨hx, hb, hml, hown, hts⟩ (c_X4_drawnKind l ((v6 / 8) - (v6 / 8) / 8 * 8) (qOk.b1 h)) (va_cwS 1 hts gX4_drawActs_X4_drawnKind rfl rfl rfl (by decide +kernel) ⟨Nat.le_of_ble_eq_true rfl, Nat.le_of_ble_eq_true rfl⟩) ⟨qPrT.blind, qPrT.at⟩ rfl rfl hl.1 rfl (lv_room (Nat.le_of_ble_eq_true rfl)) dX4_drawActs_41 ⟨Nat.zero_le _, Nat.zero_le _⟩) (fun v7 h => ?_)
      refine lv_istore (lv' := [(6, .int v7), (4, .int v6), (0, .ref (ad 47)), (3, .int x3), (5, .int v3)]) hx hb dX4_drawActs_44 hl (by decide) rfl (fun ls hl => ?_)
      refine lv_iload hx hb dX4_drawActs_46 (lv_at hl 1 rfl) ?_
      refine lv_bipush (v := 64) hx hb dX4_drawActs_48 (by decide) ?_
      refine lv_idiv hx hb dX4_drawActs_50 (by decide) ?_
      refine lv_iload hx hb dX4_drawActs_51 (lv_at hl 0 rfl) ?_
      refine qj1 (G := fun (v8 : Int32) => W p l e (headSpec wsX4_drawActs rm_X4_drawActs).room s m [.ref (ad 47), .ref (ad b1), .int x2, .int x3].toArray below meth c H locs 0 0 (MQ below (va_Qv P (fun u t => qHp W1N e1 G ad u t.heap) (qA W1N ad s.heap.size)) [.ref (ad 47), .ref (ad b1), .int x2, .int x3].toArray s 0 0 (qA W1N ad s.heap.size)) (F0 m 63 ls [.int v8, .int (v6 / 64)])) h ?_ ?_
      rotate_left
      · intro h
        refine lv_if_ne (tgt := 61) hx hb dX4_drawActs_53 (by decide) (fun hc => ?_) (fun hc => ?_)
        · have h := qOk.f hc h
          refine lv_bipush (v := 10) hx hb dX4_drawActs_61 (by decide) ?_
          have h := qOk.s h
          exact h
        · have h := qOk.t hc h
          refine lv_bipush (v := 24) hx hb dX4_drawActs_56 (by decide) ?_
          refine lv_goto (tgt := 63) hx hb dX4_drawActs_58 (by decide) ?_
          have h := qOk.s h
          exact h
      intro v8 h
      obtain ⟨hz, h⟩ := qOk.nz h
      refine lv_irem hx hb dX4_drawActs_63 hz ?_
      refine lv_topi (fun v9 ev9 => ?_)
      have h := qOk.v h ev9
      refine lv_istore (lv' := [(7, .int v9), (6, .int v7), (4, .int v6), (0, .ref (ad 47)), (3, .int x3), (5, .int v3)]) hx hb dX4_drawActs_64 hl (by decide) rfl (fun ls hl => ?_)
      refine lv_aload_n hx hb dX4_drawActs_66 rfl (lv_at hl 3 rfl) ?_
      refine lv_iload hx hb dX4_drawActs_67 (lv_at hl 1 rfl) ?_
      refine lv_iload hx hb dX4_drawActs_69 (lv_at hl 2 rfl) ?_
      refine lv_bipush (v := 8) hx hb dX4_drawActs_71 (by decide) ?_
      refine lv_irem hx hb dX4_drawActs_73 (by decide) ?_
      refine lv_iload hx hb dX4_drawActs_74 (lv_at hl 0 rfl) ?_
      refine y_cs (va_runV (As := [.int v7, .int (v6 - v6 / 8 * 8), .int v9]) (rest := []) ⟨hx, hb, hml, hown, hts⟩ (c_X4_whyNot l G ad hI M4 _ v7 (v6 - v6 / 8 * 8) v9 (qOk.b1 h)) (cwV 3 hts gX4_drawActs_X4_whyNot rfl rfl rfl (by decide +kernel) ⟨Nat.le_of_ble_eq_true rfl, Nat.le_of_ble_eq_true rfl⟩) ⟨qPre.blind, qrecv hK hH qOb_4 rfl, qPre.at hK hH⟩ rfl rfl hl.1 rfl (lv_room (Nat.le_of_ble_eq_true rfl)) dX4_drawActs_76 ⟨Nat.zero_le _, Nat.zero_le _⟩) (fun v10 h => ?_)
      refine qj1 (G := fun (M11 : qM) => ∀ (H : Heap) (locs : List Loc), qHS W1N e1 G ad M11 s.heap H locs → W p l e (headSpec wsX4_drawActs rm_X4_drawActs).room s m [.ref (ad 47), .ref (ad b1), .int x2, .int x3].toArray below meth c H locs 0 0 (MQ below (va_Qv P (fun u t => qHp W1N e1 G ad u t.heap) (qA W1N ad s.heap.size)) [.ref (ad 47), .ref (ad b1), .int x2, .int x3].toArray s 0 0 (qA W1N ad s.heap.size)) (F0 m 112 ls [])) h ?_ ?_
      rotate_left
      · intro h
        refine lv_if_ne (tgt := 112) hx hb dX4_drawActs_79 (by decide) (fun hc => ?_) (fun hc => ?_)
        · have h := qOk.f hc h
          have h := qOk.s h
          exact h _ _ hH
        · have h := qOk.t hc h
          refine lv_iload hx hb dX4_drawActs_82 (lv_at hl 1 rfl) ?_
          refine lv_iconst (v := 4) hx hb dX4_drawActs_84 (by decide) ?_
          refine qj1 (G := fun (M12 : qM) => ∀ (H : Heap) (locs : List Loc), qHS W1N e1 G ad M12 s.heap H locs → W p l e (headSpec wsX4_drawActs rm_X4_drawActs).room s m [.ref (ad 47), .ref (ad b1), .int x2, .int x3].toArray below meth c H locs 0 0 (MQ below (va_Qv P (fun u t => qHp W1N e1 G ad u t.heap) (qA W1N ad s.heap.size)) [.ref (ad 47), .ref (ad b1), .int x2, .int x3].toArray s 0 0 (qA W1N ad s.heap.size)) (F0 m 99 ls [])) h ?_ ?_
          rotate_left
          · intro h
            refine lv_icmp_ne (tgt := 99) hx hb dX4_drawActs_85 (by decide) (fun hc => ?_) (fun hc => ?_)
            · have h := qOk.f hc h
              have h := qOk.s h
              exact h _ _ hH
            · have h := qOk.t hc h
              refine lv_aload_n hx hb dX4_drawActs_88 rfl (lv_at hl 3 rfl) ?_
              refine y_get hx hb hts i_X4 hown hK hH qOb_4 rfl 5 (by decide) f34 rfl dX4_drawActs_89 ?_
              refine lv_aload_n hx hb dX4_drawActs_92 rfl (lv_at hl 3 rfl) ?_
              refine y_get hx hb hts i_X4 hown hK hH qOb_4 rfl 0 (by decide) f12 rfl dX4_drawActs_93 ?_
              refine y_cv hH (va_runV (As := [.ref (ad 48)]) (rest := []) ⟨hx, hb, hml, hown, hts⟩ (c_X0_shineOn l G ad hI M4 _ qLa_60 qMi_48 (qOk.b1 h)) (cwV 1 hts gX4_drawActs_X0_shineOn rfl rfl rfl (by decide +kernel) ⟨Nat.le_of_ble_eq_true rfl, Nat.le_of_ble_eq_true rfl⟩) ⟨qPre.blind, qrecv hK hH (qLa_ob qLa_60) rfl, qPre.at hK hH⟩ rfl rfl hl.1 rfl (lv_room (Nat.le_of_ble_eq_true rfl)) dX4_drawActs_96 ⟨Nat.zero_le _, Nat.zero_le _⟩) (fun M13 H locs hH h => ?_)
              have h := qOk.s h
              exact h _ _ hH
          intro M12 h H locs hH
          refine lv_aload_n hx hb dX4_drawActs_99 rfl (lv_at hl 3 rfl) ?_
          refine lv_iload hx hb dX4_drawActs_100 (lv_at hl 1 rfl) ?_
          refine lv_iload hx hb dX4_drawActs_102 (lv_at hl 2 rfl) ?_
          refine lv_bipush (v := 8) hx hb dX4_drawActs_104 (by decide) ?_
          refine lv_irem hx hb dX4_drawActs_106 (by decide) ?_
          refine lv_iload hx hb dX4_drawActs_107 (lv_at hl 0 rfl) ?_
          refine y_cv hH (va_runV (As := [.int v7, .int (v6 - v6 / 8 * 8), .int v9]) (rest := []) ⟨hx, hb, hml, hown, hts⟩ (c_X4_act l G ad hI M12 _ v7 (v6 - v6 / 8 * 8) v9 (qOk.b1 h)) (cwV 3 hts gX4_drawActs_X4_act rfl rfl rfl (by decide +kernel) ⟨Nat.le_of_ble_eq_true rfl, Nat.le_of_ble_eq_true rfl⟩) ⟨qPre.blind, qrecv hK hH qOb_4 rfl, qPre.at hK hH⟩ rfl rfl hl.1 rfl (lv_room (Nat.le_of_ble_eq_true rfl)) dX4_drawActs_109 ⟨Nat.zero_le _, Nat.zero_le _⟩) (fun M14 H locs hH h => ?_)
          have h := qOk.s h
          exact h _ _ hH
      intro M11 h H locs hH
      obtain ⟨v15, ev15⟩ : ∃ y : Int32, y = v3 + 1 := ⟨_, rfl⟩
      have h := qOk.v h ev15
      refine lv_iinc (v := v15) (lv' := [(5, .int v15), (7, .int v9), (6, .int v7), (4, .int v6), (0, .ref (ad 47)), (3, .int x3)]) hx hb dX4_drawActs_112 hl (k := 5) rfl (by rw [ev15]; rfl) (by decide) rfl (fun ls hl => ?_)
      refine lv_goto (tgt := 14) hx hb dX4_drawActs_115 (by decide) ?_
      exact qOk.li h _ _ hH _ (lv_sub hl [4, 5, 3, 0] rfl)
  intro M5 h H locs hH ls hl
  exact W.vret hx hb hr (fun t ht _ => ⟨⟨_, rfl, qOk.s h, qHpt ht hH.1⟩, hH.2.F ht⟩) hH.2.2.2 dX4_drawActs_118
abbrev rm_X5_meet : Room := { frames := 0, cells := 0, slots := 0, locals := 0 }
set_option maxHeartbeats 4000000 in
set_option maxRecDepth 100000 in
theorem c_X5_meet (l : Launch) (G : qG) (ad : Nat → Nat) (hI : qI W1N ad) (M : qM) (sz : Nat) (x1 : Int32) {P : qM → Prop} (h : qOk (kX5_meet M x1) P) : Met l yX5_meet wsX5_meet rm_X5_meet (va_Pc [.ref (ad 70), .int x1] (qPre W1N e1 G ad M sz)) (va_Qv P (fun u t => qHp W1N e1 G ad u t.heap) (qA W1N ad sz)) 0 0 (qA W1N ad sz) := by
  refine Met.ofW (cc := cX5_meet) (maxL := 2) (ret := none) (by decide) rfl ?_
  intro p e s m args below meth c s₁ B hml hv
  obtain ⟨rfl, hsz, hK, hP⟩ := hv
  subst hsz
  have hx := B.exec
  have hb := B.bytes
  have hr := B.returns
  have hts := atoms_spec (ws := wsX5_meet) B.pre
  have hown : s.vm.findClass RX5 = some m.cls := findClass_of_methodNamed B.named
  have hlocks := B.notSynchronized
  have hH : qHS W1N e1 G ad M s.heap s.heap [] := ⟨hP, va_S.rf⟩
  have f18 : (Cond.fieldLink RX5 18 "SongLamps$Turns" "further" "[I").before [.ref (ad 70), .int x1].toArray s = true := hts _ (by decide +kernel)
  have i_X5 : ∀ w ∈ wsX50, w ∈ wsX5_meet := fun w hw => List.mem_cons_of_mem _ ((List.mem_append_right _ hw))
  have f47 : (Cond.fieldLink RX5 47 "SongLamps$Turns" "meets" "I").before [.ref (ad 70), .int x1].toArray s = true := hts _ (by decide +kernel)
  have f21 : (Cond.fieldLink RX5 21 "SongLamps$Turns" "met" "[I").before [.ref (ad 70), .int x1].toArray s = true := hts _ (by decide +kernel)
  have hl := lv_entry ([.ref (ad 70), .int x1]) (n := 2) (Nat.le_of_ble_eq_true rfl)
  rw [lg_entry_eq]
  generalize (lg_sl ([.ref (ad 70), .int x1]) ++ List.replicate (2 - (lg_sl ([.ref (ad 70), .int x1])).length) Slot.unset).toArray = ls at hl ⊢
  have hl : lv_has ls 2 [(0, .ref (ad 70)), (1, .int x1)] := hl
  have h : qOk (kX5_meet M x1) _ := h
  unfold kX5_meet at h
  refine lv_iload_n hx hb dX5_meet_0 rfl (lv_at hl 1 rfl) ?_
  refine qj1 (G := fun (M1 : qM) => ∀ (H : Heap) (locs : List Loc), qHS W1N e1 G ad M1 s.heap H locs → W p l e (headSpec wsX5_meet rm_X5_meet).room s m [.ref (ad 70), .int x1].toArray below meth c H locs 0 0 (MQ below (va_Qv P (fun u t => qHp W1N e1 G ad u t.heap) (qA W1N ad s.heap.size)) [.ref (ad 70), .int x1].toArray s 0 0 (qA W1N ad s.heap.size)) (F0 m 59 ls [])) h ?_ ?_
  rotate_left
  · intro h
    refine lv_if_lt (tgt := 59) hx hb dX5_meet_1 (by decide) (fun hc => ?_) (fun hc => ?_)
    · have h := qOk.t hc h
      have h := qOk.s h
      exact h _ _ hH
    · have h := qOk.f hc h
      refine lv_iload_n hx hb dX5_meet_4 rfl (lv_at hl 1 rfl) ?_
      refine lv_sipush (v := 300) hx hb dX5_meet_5 (by decide) ?_
      refine lv_icmp_ge (tgt := 59) hx hb dX5_meet_8 (by decide) (fun hc => ?_) (fun hc => ?_)
      · have h := qOk.t hc h
        have h := qOk.s h
        exact h _ _ hH
      · have h := qOk.f hc h
        refine lv_aload_n hx hb dX5_meet_11 rfl (lv_at hl 0 rfl) ?_
        refine y_get hx hb hts i_X5 hown hK hH qOb_5 rfl 2 (by decide) f18 rfl dX5_meet_12 ?_
        refine lv_iload_n hx hb dX5_meet_15 rfl (lv_at hl 1 rfl) ?_
        refine y_iald hx hb hK hH qAr_73 h dX5_meet_16 (fun v2 h => ?_)
        refine lv_bipush (v := (-6)) hx hb dX5_meet_17 (by decide) ?_
        refine lv_icmp_ne (tgt := 59) hx hb dX5_meet_19 (by decide) (fun hc => ?_) (fun hc => ?_)
        · have h := qOk.f hc h
          have h := qOk.s h
          exact h _ _ hH
        · have h := qOk.t hc h
          refine lv_aload_n hx hb dX5_meet_22 rfl (lv_at hl 0 rfl) ?_
          refine y_get hx hb hts i_X5 hown hK hH qOb_5 rfl 4 (by decide) f47 rfl dX5_meet_23 ?_
          refine lv_sipush (v := 300) hx hb dX5_meet_26 (by decide) ?_
          refine lv_icmp_ge (tgt := 59) hx hb dX5_meet_29 (by decide) (fun hc => ?_) (fun hc => ?_)
          · have h := qOk.t hc h
            have h := qOk.s h
            exact h _ _ hH
          · have h := qOk.f hc h
            refine lv_aload_n hx hb dX5_meet_32 rfl (lv_at hl 0 rfl) ?_
            refine y_get hx hb hts i_X5 hown hK hH qOb_5 rfl 2 (by decide) f18 rfl dX5_meet_33 ?_
            refine lv_iload_n hx hb dX5_meet_36 rfl (lv_at hl 1 rfl) ?_
            refine lv_iconst (v := 0) hx hb dX5_meet_37 (by decide) ?_
            refine y_iast hx hb hK hI hH qAr_73 h dX5_meet_38 (fun M3 H locs hH h => ?_)
            refine lv_aload_n hx hb dX5_meet_39 rfl (lv_at hl 0 rfl) ?_
            refine y_get hx hb hts i_X5 hown hK hH qOb_5 rfl 3 (by decide) f21 rfl dX5_meet_40 ?_
            refine lv_aload_n hx hb dX5_meet_43 rfl (lv_at hl 0 rfl) ?_
            refine y_get hx hb hts i_X5 hown hK hH qOb_5 rfl 4 (by decide) f47 rfl dX5_meet_44 ?_
            refine lv_iload_n hx hb dX5_meet_47 rfl (lv_at hl 1 rfl) ?_
            refine y_iast hx hb hK hI hH qAr_74 h dX5_meet_48 (fun M4 H locs hH h => ?_)
            refine lv_aload_n hx hb dX5_meet_49 rfl (lv_at hl 0 rfl) ?_
            refine lv_dup hx hb dX5_meet_50 rfl ?_
            refine y_get hx hb hts i_X5 hown hK hH qOb_5 rfl 4 (by decide) f47 rfl dX5_meet_51 ?_
            refine lv_iconst (v := 1) hx hb dX5_meet_54 (by decide) ?_
            refine lv_iadd hx hb dX5_meet_55 ?_
            refine y_put hx hb hts i_X5 tyX5 tyX5_ok nmX5 hown hK hI hH qOb_5 rfl 4 (by decide) f47 rfl (by decide +kernel) (Nat.le_of_ble_eq_true rfl) (fun _ => rfl) h dX5_meet_56 (fun M5 H locs hH h => ?_)
            have h := qOk.s h
            exact h _ _ hH
  intro M1 h H locs hH
  exact W.vret hx hb hr (fun t ht _ => ⟨⟨_, rfl, qOk.s h, qHpt ht hH.1⟩, hH.2.F ht⟩) hH.2.2.2 dX5_meet_59
abbrev rm_X5_firstOther : Room := { frames := 0, cells := 0, slots := 0, locals := 0 }
set_option maxHeartbeats 4000000 in
set_option maxRecDepth 100000 in
theorem c_X5_firstOther (l : Launch) (x0 : Int32) {P : Int32 → Prop} (h : qOk (kX5_firstOther x0) P) : Met l yX5_firstOther wsX5_firstOther rm_X5_firstOther (va_Pc [.int x0] (fun _ => True)) (vp_Si P) 0 0 (fun _ => False) := by
  refine Met.ofW (cc := cX5_firstOther) (maxL := 1) (ret := (some .int)) (by decide) rfl ?_
  intro p e s m args below meth c s₁ B hml hv
  obtain ⟨rfl, -⟩ := hv
  have hx := B.exec
  have hb := B.bytes
  have hr := B.returns
  have hts := atoms_spec (ws := wsX5_firstOther) B.pre
  have hown : s.vm.findClass RX5 = some m.cls := findClass_of_methodNamed B.named
  have hlocks := B.notSynchronized
  have hl := lv_entry ([.int x0]) (n := 1) (Nat.le_of_ble_eq_true rfl)
  rw [lg_entry_eq]
  generalize (lg_sl ([.int x0]) ++ List.replicate (1 - (lg_sl ([.int x0])).length) Slot.unset).toArray = ls at hl ⊢
  have hl : lv_has ls 1 [(0, .int x0)] := hl
  have h : qOk (kX5_firstOther x0) _ := h
  unfold kX5_firstOther at h
  refine lv_iload_n hx hb dX5_firstOther_0 rfl (lv_at hl 0 rfl) ?_
  refine qj1 (G := fun (v1 : Int32) => W p l e (headSpec wsX5_firstOther rm_X5_firstOther).room s m [.int x0].toArray below meth c s.heap [] 0 0 (MQ below (vp_Si P) [.int x0].toArray s 0 0 (fun _ => False)) (F0 m 9 ls [.int v1])) h ?_ ?_
  rotate_left
  · intro h
    refine lv_if_ne (tgt := 8) hx hb dX5_firstOther_1 (by decide) (fun hc => ?_) (fun hc => ?_)
    · have h := qOk.f hc h
      refine lv_iconst (v := 0) hx hb dX5_firstOther_8 (by decide) ?_
      have h := qOk.s h
      exact h
    · have h := qOk.t hc h
      refine lv_iconst (v := 1) hx hb dX5_firstOther_4 (by decide) ?_
      refine lv_goto (tgt := 9) hx hb dX5_firstOther_5 (by decide) ?_
      have h := qOk.s h
      exact h
  intro v1 h
  exact W.iret hx hb hr (fun t ht _ => ⟨_, rfl, qOk.s h, ht⟩) (fun _ hq => by cases hq) dX5_firstOther_9
abbrev rm_X5_restLeft : Room := { frames := 1, cells := 0, slots := 0, locals := 20 }
set_option maxHeartbeats 4000000 in
set_option maxRecDepth 100000 in
theorem c_X5_restLeft (l : Launch) (G : qG) (ad : Nat → Nat) (hI : qI W1N ad) (M : qM) (sz : Nat) (x1 : Int32) (x2 : Int32) {P : Int32 → Prop} (h : qOk (kX5_restLeft M x1 x2) P) : Met l yX5_restLeft wsX5_restLeft rm_X5_restLeft (va_Pc [.ref (ad 70), .int x1, .int x2] (qPre W1N e1 G ad M sz)) (vp_Si P) 0 0 (fun _ => False) := by
  refine Met.ofW (cc := cX5_restLeft) (maxL := 4) (ret := (some .int)) (by decide) rfl ?_
  intro p e s m args below meth c s₁ B hml hv
  obtain ⟨rfl, hsz, hK, hP⟩ := hv
  subst hsz
  have hx := B.exec
  have hb := B.bytes
  have hr := B.returns
  have hts := atoms_spec (ws := wsX5_restLeft) B.pre
  have hown : s.vm.findClass RX5 = some m.cls := findClass_of_methodNamed B.named
  have hlocks := B.notSynchronized
  have hH : qHS W1N e1 G ad M s.heap s.heap [] := ⟨hP, va_S.rf⟩
  have f15 : (Cond.fieldLink RX5 15 "SongLamps$Turns" "rest" "[I").before [.ref (ad 70), .int x1, .int x2].toArray s = true := hts _ (by decide +kernel)
  have i_X5 : ∀ w ∈ wsX50, w ∈ wsX5_restLeft := fun w hw => List.mem_cons_of_mem _ ((List.mem_append_right _ hw))
  have hl := lv_entry ([.ref (ad 70), .int x1, .int x2]) (n := 4) (Nat.le_of_ble_eq_true rfl)
  rw [lg_entry_eq]
  generalize (lg_sl ([.ref (ad 70), .int x1, .int x2]) ++ List.replicate (4 - (lg_sl ([.ref (ad 70), .int x1, .int x2])).length) Slot.unset).toArray = ls at hl ⊢
  have hl : lv_has ls 4 [(0, .ref (ad 70)), (1, .int x1), (2, .int x2)] := hl
  have h : qOk (kX5_restLeft M x1 x2) _ := h
  unfold kX5_restLeft at h
  refine lv_iload_n hx hb dX5_restLeft_0 rfl (lv_at hl 1 rfl) ?_
  refine lv_bipush (v := 100) hx hb dX5_restLeft_1 (by decide) ?_
  refine lv_idiv hx hb dX5_restLeft_3 (by decide) ?_
  refine lv_topi (fun v1 ev1 => ?_)
  have h := qOk.v h ev1
  refine lv_istore_n (lv' := [(3, .int v1), (0, .ref (ad 70)), (1, .int x1), (2, .int x2)]) hx hb dX5_restLeft_4 rfl hl (by decide) rfl (fun ls hl => ?_)
  refine lv_iload_n hx hb dX5_restLeft_5 rfl (lv_at hl 3 rfl) ?_
  refine lv_iload_n hx hb dX5_restLeft_6 rfl (lv_at hl 0 rfl) ?_
  refine lv_icmp_ne (tgt := 17) hx hb dX5_restLeft_7 (by decide) (fun hc => ?_) (fun hc => ?_)
  · have h := qOk.f hc h
    refine lv_iload_n hx hb dX5_restLeft_17 rfl (lv_at hl 3 rfl) ?_
    refine lv_iload_n hx hb dX5_restLeft_18 rfl (lv_at hl 0 rfl) ?_
    refine y_cs (va_runS (As := [.int v1]) (rest := [.int x2]) ⟨hx, hb, hml, hown, hts⟩ (c_X5_firstOther l v1 (qOk.b1 h)) (va_cwS 1 hts gX5_restLeft_X5_firstOther rfl rfl rfl (by decide +kernel) ⟨Nat.le_of_ble_eq_true rfl, Nat.le_of_ble_eq_true rfl⟩) ⟨qPrT.blind, qPrT.at⟩ rfl rfl hl.1 rfl (lv_room (Nat.le_of_ble_eq_true rfl)) dX5_restLeft_19 ⟨Nat.zero_le _, Nat.zero_le _⟩) (fun v2 h => ?_)
    refine qj1 (G := fun (v3 : Int32) => W p l e (headSpec wsX5_restLeft rm_X5_restLeft).room s m [.ref (ad 70), .int x1, .int x2].toArray below meth c s.heap [] 0 0 (MQ below (vp_Si P) [.ref (ad 70), .int x1, .int x2].toArray s 0 0 (fun _ => False)) (F0 m 39 ls [.int v3])) h ?_ ?_
    rotate_left
    · intro h
      refine lv_icmp_ne (tgt := 35) hx hb dX5_restLeft_22 (by decide) (fun hc => ?_) (fun hc => ?_)
      · have h := qOk.f hc h
        refine lv_iload_n hx hb dX5_restLeft_35 rfl (lv_at hl 2 rfl) ?_
        refine lv_bipush (v := 10) hx hb dX5_restLeft_36 (by decide) ?_
        refine lv_irem hx hb dX5_restLeft_38 (by decide) ?_
        have h := qOk.s h
        exact h
      · have h := qOk.t hc h
        refine lv_iload_n hx hb dX5_restLeft_25 rfl (lv_at hl 2 rfl) ?_
        refine lv_bipush (v := 10) hx hb dX5_restLeft_26 (by decide) ?_
        refine lv_idiv hx hb dX5_restLeft_28 (by decide) ?_
        refine lv_bipush (v := 10) hx hb dX5_restLeft_29 (by decide) ?_
        refine lv_irem hx hb dX5_restLeft_31 (by decide) ?_
        refine lv_goto (tgt := 39) hx hb dX5_restLeft_32 (by decide) ?_
        have h := qOk.s h
        exact h
    intro v3 h
    exact W.iret hx hb hr (fun t ht _ => ⟨_, rfl, qOk.s h, ht⟩) (fun _ hq => by cases hq) dX5_restLeft_39
  · have h := qOk.t hc h
    refine lv_aload_n hx hb dX5_restLeft_10 rfl (lv_at hl 1 rfl) ?_
    refine y_get hx hb hts i_X5 hown hK hH qOb_5 rfl 1 (by decide) f15 rfl dX5_restLeft_11 ?_
    refine lv_iload_n hx hb dX5_restLeft_14 rfl (lv_at hl 3 rfl) ?_
    refine y_iald hx hb hK hH qAr_72 h dX5_restLeft_15 (fun v4 h => ?_)
    exact W.iret hx hb hr (fun t ht _ => ⟨_, rfl, qOk.s h, ht⟩) (fun _ hq => by cases hq) dX5_restLeft_16
abbrev rm_X5_secondOther : Room := { frames := 0, cells := 0, slots := 0, locals := 0 }
set_option maxHeartbeats 4000000 in
set_option maxRecDepth 100000 in
theorem c_X5_secondOther (l : Launch) (x0 : Int32) {P : Int32 → Prop} (h : qOk (kX5_secondOther x0) P) : Met l yX5_secondOther wsX5_secondOther rm_X5_secondOther (va_Pc [.int x0] (fun _ => True)) (vp_Si P) 0 0 (fun _ => False) := by
  refine Met.ofW (cc := cX5_secondOther) (maxL := 1) (ret := (some .int)) (by decide) rfl ?_
  intro p e s m args below meth c s₁ B hml hv
  obtain ⟨rfl, -⟩ := hv
  have hx := B.exec
  have hb := B.bytes
  have hr := B.returns
  have hts := atoms_spec (ws := wsX5_secondOther) B.pre
  have hown : s.vm.findClass RX5 = some m.cls := findClass_of_methodNamed B.named
  have hlocks := B.notSynchronized
  have hl := lv_entry ([.int x0]) (n := 1) (Nat.le_of_ble_eq_true rfl)
  rw [lg_entry_eq]
  generalize (lg_sl ([.int x0]) ++ List.replicate (1 - (lg_sl ([.int x0])).length) Slot.unset).toArray = ls at hl ⊢
  have hl : lv_has ls 1 [(0, .int x0)] := hl
  have h : qOk (kX5_secondOther x0) _ := h
  unfold kX5_secondOther at h
  refine lv_iload_n hx hb dX5_secondOther_0 rfl (lv_at hl 0 rfl) ?_
  refine lv_iconst (v := 2) hx hb dX5_secondOther_1 (by decide) ?_
  refine qj1 (G := fun (v1 : Int32) => W p l e (headSpec wsX5_secondOther rm_X5_secondOther).room s m [.int x0].toArray below meth c s.heap [] 0 0 (MQ below (vp_Si P) [.int x0].toArray s 0 0 (fun _ => False)) (F0 m 10 ls [.int v1])) h ?_ ?_
  rotate_left
  · intro h
    refine lv_icmp_ne (tgt := 9) hx hb dX5_secondOther_2 (by decide) (fun hc => ?_) (fun hc => ?_)
    · have h := qOk.f hc h
      refine lv_iconst (v := 2) hx hb dX5_secondOther_9 (by decide) ?_
      have h := qOk.s h
      exact h
    · have h := qOk.t hc h
      refine lv_iconst (v := 1) hx hb dX5_secondOther_5 (by decide) ?_
      refine lv_goto (tgt := 10) hx hb dX5_secondOther_6 (by decide) ?_
      have h := qOk.s h
      exact h
  intro v1 h
  exact W.iret hx hb hr (fun t ht _ => ⟨_, rfl, qOk.s h, ht⟩) (fun _ hq => by cases hq) dX5_secondOther_10
abbrev rm_X5_stateBehind : Room := { frames := 2, cells := 0, slots := 0, locals := 43 }
set_option maxHeartbeats 4000000 in
set_option maxRecDepth 100000 in
theorem c_X5_stateBehind (l : Launch) (G : qG) (ad : Nat → Nat) (hI : qI W1N ad) (M : qM) (sz : Nat) (x1 : Int32) (x2 : Int32) {P : Int32 → Prop} (h : qOk (kX5_stateBehind M x1 x2) P) : Met l yX5_stateBehind wsX5_stateBehind rm_X5_stateBehind (va_Pc [.ref (ad 70), .int x1, .int x2] (qPre W1N e1 G ad M sz)) (vp_Si P) 0 0 (fun _ => False) := by
  refine Met.ofW (cc := cX5_stateBehind) (maxL := 5) (ret := (some .int)) (by decide) rfl ?_
  intro p e s m args below meth c s₁ B hml hv
  obtain ⟨rfl, hsz, hK, hP⟩ := hv
  subst hsz
  have hx := B.exec
  have hb := B.bytes
  have hr := B.returns
  have hts := atoms_spec (ws := wsX5_stateBehind) B.pre
  have hown : s.vm.findClass RX5 = some m.cls := findClass_of_methodNamed B.named
  have hlocks := B.notSynchronized
  have hH : qHS W1N e1 G ad M s.heap s.heap [] := ⟨hP, va_S.rf⟩
  have f11 : (Cond.fieldLink RX5 11 "SongLamps$Turns" "song" "[I").before [.ref (ad 70), .int x1, .int x2].toArray s = true := hts _ (by decide +kernel)
  have i_X5 : ∀ w ∈ wsX50, w ∈ wsX5_stateBehind := fun w hw => List.mem_cons_of_mem _ ((List.mem_append_right _ hw))
  have ml61 : (Cond.methodLink RX5 61 Lib.Math.max.name).before [.ref (ad 70), .int x1, .int x2].toArray s = true := hts _ (by decide +kernel)
  have ms_max : (Cond.static Lib.Math.max.name).before [.ref (ad 70), .int x1, .int x2].toArray s = true := hts _ (by decide +kernel)
  have mi : (Cond.initialized "java/lang/Math").before [.ref (ad 70), .int x1, .int x2].toArray s = true := hts _ (by decide +kernel)
  have mc_max : (Cond.code Lib.Math.max.name Lib.Math.max.code 2 (some .int)).before [.ref (ad 70), .int x1, .int x2].toArray s = true := hts _ (by decide +kernel)
  have hl := lv_entry ([.ref (ad 70), .int x1, .int x2]) (n := 5) (Nat.le_of_ble_eq_true rfl)
  rw [lg_entry_eq]
  generalize (lg_sl ([.ref (ad 70), .int x1, .int x2]) ++ List.replicate (5 - (lg_sl ([.ref (ad 70), .int x1, .int x2])).length) Slot.unset).toArray = ls at hl ⊢
  have hl : lv_has ls 5 [(0, .ref (ad 70)), (1, .int x1), (2, .int x2)] := hl
  have h : qOk (kX5_stateBehind M x1 x2) _ := h
  unfold kX5_stateBehind at h
  refine lv_aload_n hx hb dX5_stateBehind_0 rfl (lv_at hl 0 rfl) ?_
  refine lv_iload_n hx hb dX5_stateBehind_1 rfl (lv_at hl 1 rfl) ?_
  refine lv_iload_n hx hb dX5_stateBehind_2 rfl (lv_at hl 2 rfl) ?_
  refine y_cs (va_runV (As := [.int x1, .int x2]) (rest := []) ⟨hx, hb, hml, hown, hts⟩ (c_X5_restLeft l G ad hI M _ x1 x2 (qOk.b1 h)) (cwV 2 hts gX5_stateBehind_X5_restLeft rfl rfl rfl (by decide +kernel) ⟨Nat.le_of_ble_eq_true rfl, Nat.le_of_ble_eq_true rfl⟩) ⟨qPre.blind, qrecv hK hH qOb_5 rfl, qPre.at hK hH⟩ rfl rfl hl.1 rfl (lv_room (Nat.le_of_ble_eq_true rfl)) dX5_stateBehind_3 ⟨Nat.zero_le _, Nat.zero_le _⟩) (fun v1 h => ?_)
  refine lv_if_le (tgt := 12) hx hb dX5_stateBehind_6 (by decide) (fun hc => ?_) (fun hc => ?_)
  · have h := qOk.t hc h
    refine lv_iconst (v := 0) hx hb dX5_stateBehind_12 (by decide) ?_
    refine lv_aload_n hx hb dX5_stateBehind_13 rfl (lv_at hl 0 rfl) ?_
    refine lv_iload_n hx hb dX5_stateBehind_14 rfl (lv_at hl 1 rfl) ?_
    refine lv_iload_n hx hb dX5_stateBehind_15 rfl (lv_at hl 2 rfl) ?_
    refine y_cs (va_runS (As := [.int x2]) (rest := [.int x1, .ref (ad 70), .int 0]) ⟨hx, hb, hml, hown, hts⟩ (c_X5_firstOther l x2 (qOk.b1 h)) (va_cwS 1 hts gX5_stateBehind_X5_firstOther rfl rfl rfl (by decide +kernel) ⟨Nat.le_of_ble_eq_true rfl, Nat.le_of_ble_eq_true rfl⟩) ⟨qPrT.blind, qPrT.at⟩ rfl rfl hl.1 rfl (lv_room (Nat.le_of_ble_eq_true rfl)) dX5_stateBehind_16 ⟨Nat.zero_le _, Nat.zero_le _⟩) (fun v2 h => ?_)
    refine y_cs (va_runV (As := [.int x1, .int v2]) (rest := [.int 0]) ⟨hx, hb, hml, hown, hts⟩ (c_X5_restLeft l G ad hI M _ x1 v2 (qOk.b1 h)) (cwV 2 hts gX5_stateBehind_X5_restLeft rfl rfl rfl (by decide +kernel) ⟨Nat.le_of_ble_eq_true rfl, Nat.le_of_ble_eq_true rfl⟩) ⟨qPre.blind, qrecv hK hH qOb_5 rfl, qPre.at hK hH⟩ rfl rfl hl.1 rfl (lv_room (Nat.le_of_ble_eq_true rfl)) dX5_stateBehind_19 ⟨Nat.zero_le _, Nat.zero_le _⟩) (fun v3 h => ?_)
    refine lv_aload_n hx hb dX5_stateBehind_22 rfl (lv_at hl 0 rfl) ?_
    refine y_get hx hb hts i_X5 hown hK hH qOb_5 rfl 0 (by decide) f11 rfl dX5_stateBehind_23 ?_
    refine lv_iload_n hx hb dX5_stateBehind_26 rfl (lv_at hl 2 rfl) ?_
    refine y_iald hx hb hK hH qAr_71 h dX5_stateBehind_27 (fun v4 h => ?_)
    refine lv_isub hx hb dX5_stateBehind_28 ?_
    refine va_mmax hx hb (hml.trans hl.1.symm) hown ml61 ms_max mi mc_max (Nat.le_of_ble_eq_true rfl) (Nat.le_of_ble_eq_true rfl) (Nat.zero_le _) (Nat.zero_le _) dX5_stateBehind_29 ?_
    refine lv_topi (fun v5 ev5 => ?_)
    have h := qOk.v h ev5
    refine lv_istore_n (lv' := [(3, .int v5), (0, .ref (ad 70)), (1, .int x1), (2, .int x2)]) hx hb dX5_stateBehind_32 rfl hl (by decide) rfl (fun ls hl => ?_)
    refine lv_iconst (v := 0) hx hb dX5_stateBehind_33 (by decide) ?_
    refine lv_aload_n hx hb dX5_stateBehind_34 rfl (lv_at hl 1 rfl) ?_
    refine lv_iload_n hx hb dX5_stateBehind_35 rfl (lv_at hl 2 rfl) ?_
    refine lv_iload_n hx hb dX5_stateBehind_36 rfl (lv_at hl 3 rfl) ?_
    refine y_cs (va_runS (As := [.int x2]) (rest := [.int x1, .ref (ad 70), .int 0]) ⟨hx, hb, hml, hown, hts⟩ (c_X5_secondOther l x2 (qOk.b1 h)) (va_cwS 1 hts gX5_stateBehind_X5_secondOther rfl rfl rfl (by decide +kernel) ⟨Nat.le_of_ble_eq_true rfl, Nat.le_of_ble_eq_true rfl⟩) ⟨qPrT.blind, qPrT.at⟩ rfl rfl hl.1 rfl (lv_room (Nat.le_of_ble_eq_true rfl)) dX5_stateBehind_37 ⟨Nat.zero_le _, Nat.zero_le _⟩) (fun v6 h => ?_)
    refine y_cs (va_runV (As := [.int x1, .int v6]) (rest := [.int 0]) ⟨hx, hb, hml, hown, hts⟩ (c_X5_restLeft l G ad hI M _ x1 v6 (qOk.b1 h)) (cwV 2 hts gX5_stateBehind_X5_restLeft rfl rfl rfl (by decide +kernel) ⟨Nat.le_of_ble_eq_true rfl, Nat.le_of_ble_eq_true rfl⟩) ⟨qPre.blind, qrecv hK hH qOb_5 rfl, qPre.at hK hH⟩ rfl rfl hl.1 rfl (lv_room (Nat.le_of_ble_eq_true rfl)) dX5_stateBehind_40 ⟨Nat.zero_le _, Nat.zero_le _⟩) (fun v7 h => ?_)
    refine lv_aload_n hx hb dX5_stateBehind_43 rfl (lv_at hl 1 rfl) ?_
    refine y_get hx hb hts i_X5 hown hK hH qOb_5 rfl 0 (by decide) f11 rfl dX5_stateBehind_44 ?_
    refine lv_iload_n hx hb dX5_stateBehind_47 rfl (lv_at hl 3 rfl) ?_
    refine y_iald hx hb hK hH qAr_71 h dX5_stateBehind_48 (fun v8 h => ?_)
    refine lv_isub hx hb dX5_stateBehind_49 ?_
    refine va_mmax hx hb (hml.trans hl.1.symm) hown ml61 ms_max mi mc_max (Nat.le_of_ble_eq_true rfl) (Nat.le_of_ble_eq_true rfl) (Nat.zero_le _) (Nat.zero_le _) dX5_stateBehind_50 ?_
    refine lv_topi (fun v9 ev9 => ?_)
    have h := qOk.v h ev9
    refine lv_istore (lv' := [(4, .int v9), (3, .int v5), (0, .ref (ad 70)), (1, .int x1), (2, .int x2)]) hx hb dX5_stateBehind_53 hl (by decide) rfl (fun ls hl => ?_)
    refine lv_bipush (v := 100) hx hb dX5_stateBehind_55 (by decide) ?_
    refine lv_iload_n hx hb dX5_stateBehind_57 rfl (lv_at hl 4 rfl) ?_
    refine lv_imul hx hb dX5_stateBehind_58 ?_
    refine lv_bipush (v := 10) hx hb dX5_stateBehind_59 (by decide) ?_
    refine lv_iload_n hx hb dX5_stateBehind_61 rfl (lv_at hl 1 rfl) ?_
    refine lv_imul hx hb dX5_stateBehind_62 ?_
    refine lv_iadd hx hb dX5_stateBehind_63 ?_
    refine lv_iload hx hb dX5_stateBehind_64 (lv_at hl 0 rfl) ?_
    refine lv_iadd hx hb dX5_stateBehind_66 ?_
    exact W.iret hx hb hr (fun t ht _ => ⟨_, rfl, qOk.s h, ht⟩) (fun _ hq => by cases hq) dX5_stateBehind_67
  · have h := qOk.f hc h
    refine lv_bipush (v := (-6)) hx hb dX5_stateBehind_9 (by decide) ?_
    exact W.iret hx hb hr (fun t ht _ => ⟨_, rfl, qOk.s h, ht⟩) (fun _ hq => by cases hq) dX5_stateBehind_11
abbrev rm_X5_meetStates : Room := { frames := 3, cells := 0, slots := 0, locals := 67 }
set_option maxHeartbeats 4000000 in
set_option maxRecDepth 100000 in
theorem c_X5_meetStates (l : Launch) (G : qG) (ad : Nat → Nat) (hI : qI W1N ad) (M : qM) (sz : Nat) {P : qM → Prop} (h : qOk (kX5_meetStates M) P) : Met l yX5_meetStates wsX5_meetStates rm_X5_meetStates (va_Pc [.ref (ad 70)] (qPre W1N e1 G ad M sz)) (va_Qv P (fun u t => qHp W1N e1 G ad u t.heap) (qA W1N ad sz)) 0 0 (qA W1N ad sz) := by
  refine Met.ofW (cc := cX5_meetStates) (maxL := 3) (ret := none) (by decide) rfl ?_
  intro p e s m args below meth c s₁ B hml hv
  obtain ⟨rfl, hsz, hK, hP⟩ := hv
  subst hsz
  have hx := B.exec
  have hb := B.bytes
  have hr := B.returns
  have hts := atoms_spec (ws := wsX5_meetStates) B.pre
  have hown : s.vm.findClass RX5 = some m.cls := findClass_of_methodNamed B.named
  have hlocks := B.notSynchronized
  have hH : qHS W1N e1 G ad M s.heap s.heap [] := ⟨hP, va_S.rf⟩
  have f18 : (Cond.fieldLink RX5 18 "SongLamps$Turns" "further" "[I").before [.ref (ad 70)].toArray s = true := hts _ (by decide +kernel)
  have i_X5 : ∀ w ∈ wsX50, w ∈ wsX5_meetStates := fun w hw => List.mem_cons_of_mem _ ((List.mem_append_right _ hw))
  have f47 : (Cond.fieldLink RX5 47 "SongLamps$Turns" "meets" "I").before [.ref (ad 70)].toArray s = true := hts _ (by decide +kernel)
  have f21 : (Cond.fieldLink RX5 21 "SongLamps$Turns" "met" "[I").before [.ref (ad 70)].toArray s = true := hts _ (by decide +kernel)
  have hl := lv_entry ([.ref (ad 70)]) (n := 3) (Nat.le_of_ble_eq_true rfl)
  rw [lg_entry_eq]
  generalize (lg_sl ([.ref (ad 70)]) ++ List.replicate (3 - (lg_sl ([.ref (ad 70)])).length) Slot.unset).toArray = ls at hl ⊢
  have hl : lv_has ls 3 [(0, .ref (ad 70))] := hl
  have h : qOk (kX5_meetStates M) _ := h
  unfold kX5_meetStates at h
  refine lv_aload_n hx hb dX5_meetStates_0 rfl (lv_at hl 0 rfl) ?_
  refine y_get hx hb hts i_X5 hown hK hH qOb_5 rfl 2 (by decide) f18 rfl dX5_meetStates_1 ?_
  refine lv_bipush (v := (-6)) hx hb dX5_meetStates_4 (by decide) ?_
  refine y_cv hH (va_runS (As := [.ref (ad 73), .int (-6)]) (rest := []) ⟨hx, hb, hml, hown, hts⟩ (c_J7_fill_53178 l G ad hI M _ qAr_73 (-6) (qOk.b1 h)) (va_cwS 2 hts gX5_meetStates_J7_fill_53178 rfl rfl rfl (by decide +kernel) ⟨Nat.le_of_ble_eq_true rfl, Nat.le_of_ble_eq_true rfl⟩) ⟨qPre.blind, qPre.at hK hH⟩ rfl rfl hl.1 rfl (lv_room (Nat.le_of_ble_eq_true rfl)) dX5_meetStates_6 ⟨Nat.zero_le _, Nat.zero_le _⟩) (fun M1 H locs hH h => ?_)
  refine lv_aload_n hx hb dX5_meetStates_9 rfl (lv_at hl 0 rfl) ?_
  refine lv_iconst (v := 0) hx hb dX5_meetStates_10 (by decide) ?_
  refine y_put hx hb hts i_X5 tyX5 tyX5_ok nmX5 hown hK hI hH qOb_5 rfl 4 (by decide) f47 rfl (by decide +kernel) (Nat.le_of_ble_eq_true rfl) (fun _ => rfl) h dX5_meetStates_11 (fun M2 H locs hH h => ?_)
  refine lv_iconst (v := 0) hx hb dX5_meetStates_14 (by decide) ?_
  refine lv_istore_n (lv' := [(1, .int 0), (0, .ref (ad 70))]) hx hb dX5_meetStates_15 rfl hl (by decide) rfl (fun ls hl => ?_)
  refine qj1 (G := fun (M5 : qM) => ∀ (H : Heap) (locs : List Loc), qHS W1N e1 G ad M5 s.heap H locs → ∀ ls : Array Slot, lv_has ls 3 [(0, .ref (ad 70))] → W p l e (headSpec wsX5_meetStates rm_X5_meetStates).room s m [.ref (ad 70)].toArray below meth c H locs 0 0 (MQ below (va_Qv P (fun u t => qHp W1N e1 G ad u t.heap) (qA W1N ad s.heap.size)) [.ref (ad 70)].toArray s 0 0 (qA W1N ad s.heap.size)) (F0 m 35 ls [])) h ?_ ?_
  rotate_left
  · intro h
    refine qloop2 (I := fun (v3 : Int32) (M4 : qM) => ∀ (H : Heap) (locs : List Loc), qHS W1N e1 G ad M4 s.heap H locs → ∀ ls : Array Slot, lv_has ls 3 [(0, .ref (ad 70)), (1, .int v3)] → W p l e (headSpec wsX5_meetStates rm_X5_meetStates).room s m [.ref (ad 70)].toArray below meth c H locs 0 0 (MQ below (va_Qv P (fun u t => qHp W1N e1 G ad u t.heap) (qA W1N ad s.heap.size)) [.ref (ad 70)].toArray s 0 0 (qA W1N ad s.heap.size)) (F0 m 16 ls [])) ?_ h _ _ hH _ (lv_sub hl [1, 0] rfl)
    intro v3 M4 h H locs hH ls hl
    have h : qOk (kX5_meetStates_L16 v3 M4) _ := h
    unfold kX5_meetStates_L16 at h
    refine lv_iload_n hx hb dX5_meetStates_16 rfl (lv_at hl 1 rfl) ?_
    refine lv_iconst (v := 3) hx hb dX5_meetStates_17 (by decide) ?_
    refine lv_icmp_ge (tgt := 35) hx hb dX5_meetStates_18 (by decide) (fun hc => ?_) (fun hc => ?_)
    · have h := qOk.t hc h
      exact qOk.le h _ _ hH _ (lv_sub hl [0] rfl)
    · have h := qOk.f hc h
      refine lv_aload_n hx hb dX5_meetStates_21 rfl (lv_at hl 0 rfl) ?_
      refine lv_bipush (v := 100) hx hb dX5_meetStates_22 (by decide) ?_
      refine lv_iload_n hx hb dX5_meetStates_24 rfl (lv_at hl 1 rfl) ?_
      refine lv_imul hx hb dX5_meetStates_25 ?_
      refine y_cv hH (va_runV (As := [.int (100 * v3)]) (rest := []) ⟨hx, hb, hml, hown, hts⟩ (c_X5_meet l G ad hI M4 _ (100 * v3) (qOk.b1 h)) (cwV 1 hts gX5_meetStates_X5_meet rfl rfl rfl (by decide +kernel) ⟨Nat.le_of_ble_eq_true rfl, Nat.le_of_ble_eq_true rfl⟩) ⟨qPre.blind, qrecv hK hH qOb_5 rfl, qPre.at hK hH⟩ rfl rfl hl.1 rfl (lv_room (Nat.le_of_ble_eq_true rfl)) dX5_meetStates_26 ⟨Nat.zero_le _, Nat.zero_le _⟩) (fun M6 H locs hH h => ?_)
      obtain ⟨v7, ev7⟩ : ∃ y : Int32, y = v3 + 1 := ⟨_, rfl⟩
      have h := qOk.v h ev7
      refine lv_iinc (v := v7) (lv' := [(1, .int v7), (0, .ref (ad 70))]) hx hb dX5_meetStates_29 hl (k := 1) rfl (by rw [ev7]; rfl) (by decide) rfl (fun ls hl => ?_)
      refine lv_goto (tgt := 16) hx hb dX5_meetStates_32 (by decide) ?_
      exact qOk.li h _ _ hH _ (lv_sub hl [1, 0] rfl)
  intro M5 h H locs hH ls hl
  refine lv_iconst (v := 0) hx hb dX5_meetStates_35 (by decide) ?_
  refine lv_istore_n (lv' := [(1, .int 0), (0, .ref (ad 70))]) hx hb dX5_meetStates_36 rfl hl (by decide) rfl (fun ls hl => ?_)
  refine qj1 (G := fun (M10 : qM) => ∀ (H : Heap) (locs : List Loc), qHS W1N e1 G ad M10 s.heap H locs → ∀ ls : Array Slot, lv_has ls 3 [] → W p l e (headSpec wsX5_meetStates rm_X5_meetStates).room s m [.ref (ad 70)].toArray below meth c H locs 0 0 (MQ below (va_Qv P (fun u t => qHp W1N e1 G ad u t.heap) (qA W1N ad s.heap.size)) [.ref (ad 70)].toArray s 0 0 (qA W1N ad s.heap.size)) (F0 m 86 ls [])) h ?_ ?_
  rotate_left
  · intro h
    refine qloop2 (I := fun (v8 : Int32) (M9 : qM) => ∀ (H : Heap) (locs : List Loc), qHS W1N e1 G ad M9 s.heap H locs → ∀ ls : Array Slot, lv_has ls 3 [(0, .ref (ad 70)), (1, .int v8)] → W p l e (headSpec wsX5_meetStates rm_X5_meetStates).room s m [.ref (ad 70)].toArray below meth c H locs 0 0 (MQ below (va_Qv P (fun u t => qHp W1N e1 G ad u t.heap) (qA W1N ad s.heap.size)) [.ref (ad 70)].toArray s 0 0 (qA W1N ad s.heap.size)) (F0 m 37 ls [])) ?_ h _ _ hH _ (lv_sub hl [1, 0] rfl)
    intro v8 M9 h H locs hH ls hl
    have h : qOk (kX5_meetStates_L37 v8 M9) _ := h
    unfold kX5_meetStates_L37 at h
    refine lv_iload_n hx hb dX5_meetStates_37 rfl (lv_at hl 1 rfl) ?_
    refine lv_aload_n hx hb dX5_meetStates_38 rfl (lv_at hl 0 rfl) ?_
    refine y_get hx hb hts i_X5 hown hK hH qOb_5 rfl 4 (by decide) f47 rfl dX5_meetStates_39 ?_
    refine lv_icmp_ge (tgt := 86) hx hb dX5_meetStates_42 (by decide) (fun hc => ?_) (fun hc => ?_)
    · have h := qOk.t hc h
      exact qOk.le h _ _ hH _ (lv_sub hl [] rfl)
    · have h := qOk.f hc h
      refine lv_iload_n hx hb dX5_meetStates_45 rfl (lv_at hl 1 rfl) ?_
      refine lv_sipush (v := 300) hx hb dX5_meetStates_46 (by decide) ?_
      refine lv_icmp_ge (tgt := 86) hx hb dX5_meetStates_49 (by decide) (fun hc => ?_) (fun hc => ?_)
      · have h := qOk.t hc h
        exact qOk.le h _ _ hH _ (lv_sub hl [] rfl)
      · have h := qOk.f hc h
        refine lv_iconst (v := 0) hx hb dX5_meetStates_52 (by decide) ?_
        refine lv_istore_n (lv' := [(2, .int 0), (0, .ref (ad 70)), (1, .int v8)]) hx hb dX5_meetStates_53 rfl hl (by decide) rfl (fun ls hl => ?_)
        refine qj1 (G := fun (M13 : qM) => ∀ (H : Heap) (locs : List Loc), qHS W1N e1 G ad M13 s.heap H locs → ∀ ls : Array Slot, lv_has ls 3 [(0, .ref (ad 70)), (1, .int v8)] → W p l e (headSpec wsX5_meetStates rm_X5_meetStates).room s m [.ref (ad 70)].toArray below meth c H locs 0 0 (MQ below (va_Qv P (fun u t => qHp W1N e1 G ad u t.heap) (qA W1N ad s.heap.size)) [.ref (ad 70)].toArray s 0 0 (qA W1N ad s.heap.size)) (F0 m 80 ls [])) h ?_ ?_
        rotate_left
        · intro h
          refine qloop2 (I := fun (v11 : Int32) (M12 : qM) => ∀ (H : Heap) (locs : List Loc), qHS W1N e1 G ad M12 s.heap H locs → ∀ ls : Array Slot, lv_has ls 3 [(0, .ref (ad 70)), (1, .int v8), (2, .int v11)] → W p l e (headSpec wsX5_meetStates rm_X5_meetStates).room s m [.ref (ad 70)].toArray below meth c H locs 0 0 (MQ below (va_Qv P (fun u t => qHp W1N e1 G ad u t.heap) (qA W1N ad s.heap.size)) [.ref (ad 70)].toArray s 0 0 (qA W1N ad s.heap.size)) (F0 m 54 ls [])) ?_ h _ _ hH _ (lv_sub hl [1, 2, 0] rfl)
          intro v11 M12 h H locs hH ls hl
          have h : qOk (kX5_meetStates_L54 v8 v11 M12) _ := h
          unfold kX5_meetStates_L54 at h
          refine lv_iload_n hx hb dX5_meetStates_54 rfl (lv_at hl 2 rfl) ?_
          refine lv_iconst (v := 3) hx hb dX5_meetStates_55 (by decide) ?_
          refine lv_icmp_ge (tgt := 80) hx hb dX5_meetStates_56 (by decide) (fun hc => ?_) (fun hc => ?_)
          · have h := qOk.t hc h
            exact qOk.le h _ _ hH _ (lv_sub hl [0, 1] rfl)
          · have h := qOk.f hc h
            refine lv_aload_n hx hb dX5_meetStates_59 rfl (lv_at hl 0 rfl) ?_
            refine lv_aload_n hx hb dX5_meetStates_60 rfl (lv_at hl 0 rfl) ?_
            refine lv_aload_n hx hb dX5_meetStates_61 rfl (lv_at hl 0 rfl) ?_
            refine y_get hx hb hts i_X5 hown hK hH qOb_5 rfl 3 (by decide) f21 rfl dX5_meetStates_62 ?_
            refine lv_iload_n hx hb dX5_meetStates_65 rfl (lv_at hl 1 rfl) ?_
            refine y_iald hx hb hK hH qAr_74 h dX5_meetStates_66 (fun v14 h => ?_)
            refine lv_iload_n hx hb dX5_meetStates_67 rfl (lv_at hl 2 rfl) ?_
            refine y_cs (va_runV (As := [.int v14, .int v11]) (rest := [.ref (ad 70)]) ⟨hx, hb, hml, hown, hts⟩ (c_X5_stateBehind l G ad hI M12 _ v14 v11 (qOk.b1 h)) (cwV 2 hts gX5_meetStates_X5_stateBehind rfl rfl rfl (by decide +kernel) ⟨Nat.le_of_ble_eq_true rfl, Nat.le_of_ble_eq_true rfl⟩) ⟨qPre.blind, qrecv hK hH qOb_5 rfl, qPre.at hK hH⟩ rfl rfl hl.1 rfl (lv_room (Nat.le_of_ble_eq_true rfl)) dX5_meetStates_68 ⟨Nat.zero_le _, Nat.zero_le _⟩) (fun v15 h => ?_)
            refine y_cv hH (va_runV (As := [.int v15]) (rest := []) ⟨hx, hb, hml, hown, hts⟩ (c_X5_meet l G ad hI M12 _ v15 (qOk.b1 h)) (cwV 1 hts gX5_meetStates_X5_meet rfl rfl rfl (by decide +kernel) ⟨Nat.le_of_ble_eq_true rfl, Nat.le_of_ble_eq_true rfl⟩) ⟨qPre.blind, qrecv hK hH qOb_5 rfl, qPre.at hK hH⟩ rfl rfl hl.1 rfl (lv_room (Nat.le_of_ble_eq_true rfl)) dX5_meetStates_71 ⟨Nat.zero_le _, Nat.zero_le _⟩) (fun M16 H locs hH h => ?_)
            obtain ⟨v17, ev17⟩ : ∃ y : Int32, y = v11 + 1 := ⟨_, rfl⟩
            have h := qOk.v h ev17
            refine lv_iinc (v := v17) (lv' := [(2, .int v17), (0, .ref (ad 70)), (1, .int v8)]) hx hb dX5_meetStates_74 hl (k := 2) rfl (by rw [ev17]; rfl) (by decide) rfl (fun ls hl => ?_)
            refine lv_goto (tgt := 54) hx hb dX5_meetStates_77 (by decide) ?_
            exact qOk.li h _ _ hH _ (lv_sub hl [1, 2, 0] rfl)
        intro M13 h H locs hH ls hl
        obtain ⟨v18, ev18⟩ : ∃ y : Int32, y = v8 + 1 := ⟨_, rfl⟩
        have h := qOk.v h ev18
        refine lv_iinc (v := v18) (lv' := [(1, .int v18), (0, .ref (ad 70))]) hx hb dX5_meetStates_80 hl (k := 1) rfl (by rw [ev18]; rfl) (by decide) rfl (fun ls hl => ?_)
        refine lv_goto (tgt := 37) hx hb dX5_meetStates_83 (by decide) ?_
        exact qOk.li h _ _ hH _ (lv_sub hl [1, 0] rfl)
  intro M10 h H locs hH ls hl
  exact W.vret hx hb hr (fun t ht _ => ⟨⟨_, rfl, qOk.s h, qHpt ht hH.1⟩, hH.2.F ht⟩) hH.2.2.2 dX5_meetStates_86
abbrev rm_X5_beatsBehind : Room := { frames := 3, cells := 0, slots := 0, locals := 67 }
set_option maxHeartbeats 4000000 in
set_option maxRecDepth 100000 in
theorem c_X5_beatsBehind (l : Launch) (G : qG) (ad : Nat → Nat) (hI : qI W1N ad) (M : qM) (sz : Nat) (x1 : Int32) {P : Int32 → Prop} (h : qOk (kX5_beatsBehind M x1) P) : Met l yX5_beatsBehind wsX5_beatsBehind rm_X5_beatsBehind (va_Pc [.ref (ad 70), .int x1] (qPre W1N e1 G ad M sz)) (vp_Si P) 0 0 (fun _ => False) := by
  refine Met.ofW (cc := cX5_beatsBehind) (maxL := 5) (ret := (some .int)) (by decide) rfl ?_
  intro p e s m args below meth c s₁ B hml hv
  obtain ⟨rfl, hsz, hK, hP⟩ := hv
  subst hsz
  have hx := B.exec
  have hb := B.bytes
  have hr := B.returns
  have hts := atoms_spec (ws := wsX5_beatsBehind) B.pre
  have hown : s.vm.findClass RX5 = some m.cls := findClass_of_methodNamed B.named
  have hlocks := B.notSynchronized
  have hH : qHS W1N e1 G ad M s.heap s.heap [] := ⟨hP, va_S.rf⟩
  have f11 : (Cond.fieldLink RX5 11 "SongLamps$Turns" "song" "[I").before [.ref (ad 70), .int x1].toArray s = true := hts _ (by decide +kernel)
  have i_X5 : ∀ w ∈ wsX50, w ∈ wsX5_beatsBehind := fun w hw => List.mem_cons_of_mem _ ((List.mem_append_right _ hw))
  have f18 : (Cond.fieldLink RX5 18 "SongLamps$Turns" "further" "[I").before [.ref (ad 70), .int x1].toArray s = true := hts _ (by decide +kernel)
  have ml61 : (Cond.methodLink RX5 61 Lib.Math.max.name).before [.ref (ad 70), .int x1].toArray s = true := hts _ (by decide +kernel)
  have ms_max : (Cond.static Lib.Math.max.name).before [.ref (ad 70), .int x1].toArray s = true := hts _ (by decide +kernel)
  have mi : (Cond.initialized "java/lang/Math").before [.ref (ad 70), .int x1].toArray s = true := hts _ (by decide +kernel)
  have mc_max : (Cond.code Lib.Math.max.name Lib.Math.max.code 2 (some .int)).before [.ref (ad 70), .int x1].toArray s = true := hts _ (by decide +kernel)
  have ml31 : (Cond.methodLink RX5 31 Lib.Math.min.name).before [.ref (ad 70), .int x1].toArray s = true := hts _ (by decide +kernel)
  have ms_min : (Cond.static Lib.Math.min.name).before [.ref (ad 70), .int x1].toArray s = true := hts _ (by decide +kernel)
  have mc_min : (Cond.code Lib.Math.min.name Lib.Math.min.code 2 (some .int)).before [.ref (ad 70), .int x1].toArray s = true := hts _ (by decide +kernel)
  have hl := lv_entry ([.ref (ad 70), .int x1]) (n := 5) (Nat.le_of_ble_eq_true rfl)
  rw [lg_entry_eq]
  generalize (lg_sl ([.ref (ad 70), .int x1]) ++ List.replicate (5 - (lg_sl ([.ref (ad 70), .int x1])).length) Slot.unset).toArray = ls at hl ⊢
  have hl : lv_has ls 5 [(0, .ref (ad 70)), (1, .int x1)] := hl
  have h : qOk (kX5_beatsBehind M x1) _ := h
  unfold kX5_beatsBehind at h
  refine lv_iconst (v := 0) hx hb dX5_beatsBehind_0 (by decide) ?_
  refine lv_istore_n (lv' := [(2, .int 0), (0, .ref (ad 70)), (1, .int x1)]) hx hb dX5_beatsBehind_1 rfl hl (by decide) rfl (fun ls hl => ?_)
  refine lv_iconst (v := 0) hx hb dX5_beatsBehind_2 (by decide) ?_
  refine lv_istore_n (lv' := [(3, .int 0), (2, .int 0), (0, .ref (ad 70)), (1, .int x1)]) hx hb dX5_beatsBehind_3 rfl hl (by decide) rfl (fun ls hl => ?_)
  refine qj1 (G := fun (v3 : Int32) => ∀ ls : Array Slot, lv_has ls 5 [(2, .int v3)] → W p l e (headSpec wsX5_beatsBehind rm_X5_beatsBehind).room s m [.ref (ad 70), .int x1].toArray below meth c s.heap [] 0 0 (MQ below (vp_Si P) [.ref (ad 70), .int x1].toArray s 0 0 (fun _ => False)) (F0 m 55 ls [])) h ?_ ?_
  rotate_left
  · intro h
    refine qloop2 (I := fun (v1 : Int32) (v2 : Int32) => ∀ ls : Array Slot, lv_has ls 5 [(0, .ref (ad 70)), (1, .int x1), (2, .int v1), (3, .int v2)] → W p l e (headSpec wsX5_beatsBehind rm_X5_beatsBehind).room s m [.ref (ad 70), .int x1].toArray below meth c s.heap [] 0 0 (MQ below (vp_Si P) [.ref (ad 70), .int x1].toArray s 0 0 (fun _ => False)) (F0 m 4 ls [])) ?_ h _ (lv_sub hl [2, 3, 1, 0] rfl)
    intro v1 v2 h ls hl
    have h : qOk (kX5_beatsBehind_L4 M x1 v1 v2) _ := h
    unfold kX5_beatsBehind_L4 at h
    refine lv_iload_n hx hb dX5_beatsBehind_4 rfl (lv_at hl 3 rfl) ?_
    refine lv_iconst (v := 3) hx hb dX5_beatsBehind_5 (by decide) ?_
    refine lv_icmp_ge (tgt := 55) hx hb dX5_beatsBehind_6 (by decide) (fun hc => ?_) (fun hc => ?_)
    · have h := qOk.t hc h
      exact qOk.le h _ (lv_sub hl [2] rfl)
    · have h := qOk.f hc h
      refine lv_aload_n hx hb dX5_beatsBehind_9 rfl (lv_at hl 0 rfl) ?_
      refine lv_iload_n hx hb dX5_beatsBehind_10 rfl (lv_at hl 1 rfl) ?_
      refine lv_iload_n hx hb dX5_beatsBehind_11 rfl (lv_at hl 3 rfl) ?_
      refine y_cs (va_runV (As := [.int x1, .int v2]) (rest := []) ⟨hx, hb, hml, hown, hts⟩ (c_X5_stateBehind l G ad hI M _ x1 v2 (qOk.b1 h)) (cwV 2 hts gX5_beatsBehind_X5_stateBehind rfl rfl rfl (by decide +kernel) ⟨Nat.le_of_ble_eq_true rfl, Nat.le_of_ble_eq_true rfl⟩) ⟨qPre.blind, qrecv hK hH qOb_5 rfl, qPre.at hK hH⟩ rfl rfl hl.1 rfl (lv_room (Nat.le_of_ble_eq_true rfl)) dX5_beatsBehind_12 ⟨Nat.zero_le _, Nat.zero_le _⟩) (fun v4 h => ?_)
      refine lv_istore (lv' := [(4, .int v4), (0, .ref (ad 70)), (1, .int x1), (2, .int v1), (3, .int v2)]) hx hb dX5_beatsBehind_15 hl (by decide) rfl (fun ls hl => ?_)
      refine lv_iload hx hb dX5_beatsBehind_17 (lv_at hl 0 rfl) ?_
      refine qj1 (G := fun (v5 : Int32) => ∀ ls : Array Slot, lv_has ls 5 [(0, .ref (ad 70)), (1, .int x1), (2, .int v5), (3, .int v2)] → W p l e (headSpec wsX5_beatsBehind rm_X5_beatsBehind).room s m [.ref (ad 70), .int x1].toArray below meth c s.heap [] 0 0 (MQ below (vp_Si P) [.ref (ad 70), .int x1].toArray s 0 0 (fun _ => False)) (F0 m 49 ls [])) h ?_ ?_
      rotate_left
      · intro h
        refine lv_if_lt (tgt := 49) hx hb dX5_beatsBehind_19 (by decide) (fun hc => ?_) (fun hc => ?_)
        · have h := qOk.t hc h
          have h := qOk.s h
          exact h _ (lv_sub hl [1, 2, 3, 4] rfl)
        · have h := qOk.f hc h
          refine lv_iload hx hb dX5_beatsBehind_22 (lv_at hl 0 rfl) ?_
          refine lv_sipush (v := 300) hx hb dX5_beatsBehind_24 (by decide) ?_
          refine lv_icmp_ge (tgt := 49) hx hb dX5_beatsBehind_27 (by decide) (fun hc => ?_) (fun hc => ?_)
          · have h := qOk.t hc h
            have h := qOk.s h
            exact h _ (lv_sub hl [1, 2, 3, 4] rfl)
          · have h := qOk.f hc h
            refine lv_iload_n hx hb dX5_beatsBehind_30 rfl (lv_at hl 3 rfl) ?_
            refine lv_aload_n hx hb dX5_beatsBehind_31 rfl (lv_at hl 1 rfl) ?_
            refine y_get hx hb hts i_X5 hown hK hH qOb_5 rfl 0 (by decide) f11 rfl dX5_beatsBehind_32 ?_
            refine lv_iload_n hx hb dX5_beatsBehind_35 rfl (lv_at hl 4 rfl) ?_
            refine y_iald hx hb hK hH qAr_71 h dX5_beatsBehind_36 (fun v6 h => ?_)
            refine lv_aload_n hx hb dX5_beatsBehind_37 rfl (lv_at hl 1 rfl) ?_
            refine y_get hx hb hts i_X5 hown hK hH qOb_5 rfl 2 (by decide) f18 rfl dX5_beatsBehind_38 ?_
            refine lv_iload hx hb dX5_beatsBehind_41 (lv_at hl 0 rfl) ?_
            refine y_iald hx hb hK hH qAr_73 h dX5_beatsBehind_43 (fun v7 h => ?_)
            refine lv_iadd hx hb dX5_beatsBehind_44 ?_
            refine va_mmax hx hb (hml.trans hl.1.symm) hown ml61 ms_max mi mc_max (Nat.le_of_ble_eq_true rfl) (Nat.le_of_ble_eq_true rfl) (Nat.zero_le _) (Nat.zero_le _) dX5_beatsBehind_45 ?_
            refine lv_topi (fun v8 ev8 => ?_)
            have h := qOk.v h ev8
            refine lv_istore_n (lv' := [(2, .int v8), (4, .int v4), (0, .ref (ad 70)), (1, .int x1), (3, .int v2)]) hx hb dX5_beatsBehind_48 rfl hl (by decide) rfl (fun ls hl => ?_)
            have h := qOk.s h
            exact h _ (lv_sub hl [2, 3, 0, 4] rfl)
      intro v5 h ls hl
      obtain ⟨v9, ev9⟩ : ∃ y : Int32, y = v2 + 1 := ⟨_, rfl⟩
      have h := qOk.v h ev9
      refine lv_iinc (v := v9) (lv' := [(3, .int v9), (0, .ref (ad 70)), (1, .int x1), (2, .int v5)]) hx hb dX5_beatsBehind_49 hl (k := 3) rfl (by rw [ev9]; rfl) (by decide) rfl (fun ls hl => ?_)
      refine lv_goto (tgt := 4) hx hb dX5_beatsBehind_52 (by decide) ?_
      exact qOk.li h _ (lv_sub hl [1, 2, 3, 0] rfl)
  intro v3 h ls hl
  refine lv_bipush (v := 99) hx hb dX5_beatsBehind_55 (by decide) ?_
  refine lv_iload_n hx hb dX5_beatsBehind_57 rfl (lv_at hl 0 rfl) ?_
  refine va_mmin hx hb (hml.trans hl.1.symm) hown ml31 ms_min mi mc_min (Nat.le_of_ble_eq_true rfl) (Nat.le_of_ble_eq_true rfl) (Nat.zero_le _) (Nat.zero_le _) dX5_beatsBehind_58 ?_
  exact W.iret hx hb hr (fun t ht _ => ⟨_, rfl, qOk.s h, ht⟩) (fun _ hq => by cases hq) dX5_beatsBehind_61
abbrev rm_X5_lookFurther : Room := { frames := 4, cells := 0, slots := 0, locals := 91 }
set_option maxHeartbeats 4000000 in
set_option maxRecDepth 100000 in
theorem c_X5_lookFurther (l : Launch) (G : qG) (ad : Nat → Nat) (hI : qI W1N ad) (M : qM) (sz : Nat) {P : Int32 → qM → Prop} (h : qOk2 (kX5_lookFurther M) P) : Met l yX5_lookFurther wsX5_lookFurther rm_X5_lookFurther (va_Pc [.ref (ad 70)] (qPre W1N e1 G ad M sz)) (va_Qi P (fun u t => qHp W1N e1 G ad u t.heap) (qA W1N ad sz)) 0 0 (qA W1N ad sz) := by
  refine Met.ofW (cc := cX5_lookFurther) (maxL := 4) (ret := (some .boolean)) (by decide) rfl ?_
  intro p e s m args below meth c s₁ B hml hv
  obtain ⟨rfl, hsz, hK, hP⟩ := hv
  subst hsz
  have hx := B.exec
  have hb := B.bytes
  have hr := B.returns
  have hts := atoms_spec (ws := wsX5_lookFurther) B.pre
  have hown : s.vm.findClass RX5 = some m.cls := findClass_of_methodNamed B.named
  have hlocks := B.notSynchronized
  have hH : qHS W1N e1 G ad M s.heap s.heap [] := ⟨hP, va_S.rf⟩
  have f47 : (Cond.fieldLink RX5 47 "SongLamps$Turns" "meets" "I").before [.ref (ad 70)].toArray s = true := hts _ (by decide +kernel)
  have i_X5 : ∀ w ∈ wsX50, w ∈ wsX5_lookFurther := fun w hw => List.mem_cons_of_mem _ ((List.mem_append_right _ hw))
  have f21 : (Cond.fieldLink RX5 21 "SongLamps$Turns" "met" "[I").before [.ref (ad 70)].toArray s = true := hts _ (by decide +kernel)
  have f18 : (Cond.fieldLink RX5 18 "SongLamps$Turns" "further" "[I").before [.ref (ad 70)].toArray s = true := hts _ (by decide +kernel)
  have hl := lv_entry ([.ref (ad 70)]) (n := 4) (Nat.le_of_ble_eq_true rfl)
  rw [lg_entry_eq]
  generalize (lg_sl ([.ref (ad 70)]) ++ List.replicate (4 - (lg_sl ([.ref (ad 70)])).length) Slot.unset).toArray = ls at hl ⊢
  have hl : lv_has ls 4 [(0, .ref (ad 70))] := hl
  have h : qOk (kX5_lookFurther M) _ := h
  unfold kX5_lookFurther at h
  refine lv_iconst (v := 0) hx hb dX5_lookFurther_0 (by decide) ?_
  refine lv_istore_n (lv' := [(1, .int 0), (0, .ref (ad 70))]) hx hb dX5_lookFurther_1 rfl hl (by decide) rfl (fun ls hl => ?_)
  refine lv_aload_n hx hb dX5_lookFurther_2 rfl (lv_at hl 1 rfl) ?_
  refine y_get hx hb hts i_X5 hown hK hH qOb_5 rfl 4 (by decide) f47 rfl dX5_lookFurther_3 ?_
  refine lv_iconst (v := 1) hx hb dX5_lookFurther_6 (by decide) ?_
  refine lv_isub hx hb dX5_lookFurther_7 ?_
  refine lv_topi (fun v1 ev1 => ?_)
  have h := qOk.v h ev1
  refine lv_istore_n (lv' := [(2, .int v1), (1, .int 0), (0, .ref (ad 70))]) hx hb dX5_lookFurther_8 rfl hl (by decide) rfl (fun ls hl => ?_)
  refine qj2 (G := fun (v5 : Int32) (M6 : qM) => ∀ (H : Heap) (locs : List Loc), qHS W1N e1 G ad M6 s.heap H locs → ∀ ls : Array Slot, lv_has ls 4 [(1, .int v5)] → W p l e (headSpec wsX5_lookFurther rm_X5_lookFurther).room s m [.ref (ad 70)].toArray below meth c H locs 0 0 (MQ below (va_Qi P (fun u t => qHp W1N e1 G ad u t.heap) (qA W1N ad s.heap.size)) [.ref (ad 70)].toArray s 0 0 (qA W1N ad s.heap.size)) (F0 m 59 ls [])) h ?_ ?_
  rotate_left
  · intro h
    refine qloop3 (I := fun (v2 : Int32) (v3 : Int32) (M4 : qM) => ∀ (H : Heap) (locs : List Loc), qHS W1N e1 G ad M4 s.heap H locs → ∀ ls : Array Slot, lv_has ls 4 [(0, .ref (ad 70)), (1, .int v2), (2, .int v3)] → W p l e (headSpec wsX5_lookFurther rm_X5_lookFurther).room s m [.ref (ad 70)].toArray below meth c H locs 0 0 (MQ below (va_Qi P (fun u t => qHp W1N e1 G ad u t.heap) (qA W1N ad s.heap.size)) [.ref (ad 70)].toArray s 0 0 (qA W1N ad s.heap.size)) (F0 m 9 ls [])) ?_ h _ _ hH _ (lv_sub hl [2, 1, 0] rfl)
    intro v2 v3 M4 h H locs hH ls hl
    have h : qOk (kX5_lookFurther_L9 v2 v3 M4) _ := h
    unfold kX5_lookFurther_L9 at h
    refine lv_iload_n hx hb dX5_lookFurther_9 rfl (lv_at hl 2 rfl) ?_
    refine lv_if_lt (tgt := 59) hx hb dX5_lookFurther_10 (by decide) (fun hc => ?_) (fun hc => ?_)
    · have h := qOk.t hc h
      exact qOk.le h _ _ hH _ (lv_sub hl [1] rfl)
    · have h := qOk.f hc h
      refine lv_aload_n hx hb dX5_lookFurther_13 rfl (lv_at hl 0 rfl) ?_
      refine lv_aload_n hx hb dX5_lookFurther_14 rfl (lv_at hl 0 rfl) ?_
      refine y_get hx hb hts i_X5 hown hK hH qOb_5 rfl 3 (by decide) f21 rfl dX5_lookFurther_15 ?_
      refine lv_iload_n hx hb dX5_lookFurther_18 rfl (lv_at hl 2 rfl) ?_
      refine y_iald hx hb hK hH qAr_74 h dX5_lookFurther_19 (fun v7 h => ?_)
      refine y_cs (va_runV (As := [.int v7]) (rest := []) ⟨hx, hb, hml, hown, hts⟩ (c_X5_beatsBehind l G ad hI M4 _ v7 (qOk.b1 h)) (cwV 1 hts gX5_lookFurther_X5_beatsBehind rfl rfl rfl (by decide +kernel) ⟨Nat.le_of_ble_eq_true rfl, Nat.le_of_ble_eq_true rfl⟩) ⟨qPre.blind, qrecv hK hH qOb_5 rfl, qPre.at hK hH⟩ rfl rfl hl.1 rfl (lv_room (Nat.le_of_ble_eq_true rfl)) dX5_lookFurther_20 ⟨Nat.zero_le _, Nat.zero_le _⟩) (fun v8 h => ?_)
      refine lv_istore_n (lv' := [(3, .int v8), (0, .ref (ad 70)), (1, .int v2), (2, .int v3)]) hx hb dX5_lookFurther_23 rfl hl (by decide) rfl (fun ls hl => ?_)
      refine lv_iload_n hx hb dX5_lookFurther_24 rfl (lv_at hl 0 rfl) ?_
      refine lv_aload_n hx hb dX5_lookFurther_25 rfl (lv_at hl 1 rfl) ?_
      refine y_get hx hb hts i_X5 hown hK hH qOb_5 rfl 2 (by decide) f18 rfl dX5_lookFurther_26 ?_
      refine lv_aload_n hx hb dX5_lookFurther_29 rfl (lv_at hl 1 rfl) ?_
      refine y_get hx hb hts i_X5 hown hK hH qOb_5 rfl 3 (by decide) f21 rfl dX5_lookFurther_30 ?_
      refine lv_iload_n hx hb dX5_lookFurther_33 rfl (lv_at hl 3 rfl) ?_
      refine y_iald hx hb hK hH qAr_74 h dX5_lookFurther_34 (fun v9 h => ?_)
      refine y_iald hx hb hK hH qAr_73 h dX5_lookFurther_35 (fun v10 h => ?_)
      refine qj2 (G := fun (v11 : Int32) (M12 : qM) => ∀ (H : Heap) (locs : List Loc), qHS W1N e1 G ad M12 s.heap H locs → ∀ ls : Array Slot, lv_has ls 4 [(0, .ref (ad 70)), (1, .int v11), (2, .int v3)] → W p l e (headSpec wsX5_lookFurther rm_X5_lookFurther).room s m [.ref (ad 70)].toArray below meth c H locs 0 0 (MQ below (va_Qi P (fun u t => qHp W1N e1 G ad u t.heap) (qA W1N ad s.heap.size)) [.ref (ad 70)].toArray s 0 0 (qA W1N ad s.heap.size)) (F0 m 53 ls [])) h ?_ ?_
      rotate_left
      · intro h
        refine lv_icmp_le (tgt := 53) hx hb dX5_lookFurther_36 (by decide) (fun hc => ?_) (fun hc => ?_)
        · have h := qOk.t hc h
          have h := qOk.s h
          exact h _ _ hH _ (lv_sub hl [1, 2, 3] rfl)
        · have h := qOk.f hc h
          refine lv_aload_n hx hb dX5_lookFurther_39 rfl (lv_at hl 1 rfl) ?_
          refine y_get hx hb hts i_X5 hown hK hH qOb_5 rfl 2 (by decide) f18 rfl dX5_lookFurther_40 ?_
          refine lv_aload_n hx hb dX5_lookFurther_43 rfl (lv_at hl 1 rfl) ?_
          refine y_get hx hb hts i_X5 hown hK hH qOb_5 rfl 3 (by decide) f21 rfl dX5_lookFurther_44 ?_
          refine lv_iload_n hx hb dX5_lookFurther_47 rfl (lv_at hl 3 rfl) ?_
          refine y_iald hx hb hK hH qAr_74 h dX5_lookFurther_48 (fun v13 h => ?_)
          refine lv_iload_n hx hb dX5_lookFurther_49 rfl (lv_at hl 0 rfl) ?_
          refine y_iast hx hb hK hI hH qAr_73 h dX5_lookFurther_50 (fun M14 H locs hH h => ?_)
          refine lv_iconst (v := 1) hx hb dX5_lookFurther_51 (by decide) ?_
          refine lv_istore_n (lv' := [(1, .int 1), (3, .int v8), (0, .ref (ad 70)), (2, .int v3)]) hx hb dX5_lookFurther_52 rfl hl (by decide) rfl (fun ls hl => ?_)
          have h := qOk.s h
          exact h _ _ hH _ (lv_sub hl [2, 0, 3] rfl)
      intro v11 M12 h H locs hH ls hl
      obtain ⟨v15, ev15⟩ : ∃ y : Int32, y = v3 + (-1) := ⟨_, rfl⟩
      have h := qOk.v h ev15
      refine lv_iinc (v := v15) (lv' := [(2, .int v15), (0, .ref (ad 70)), (1, .int v11)]) hx hb dX5_lookFurther_53 hl (k := 2) rfl (by rw [ev15]; rfl) (by decide) rfl (fun ls hl => ?_)
      refine lv_goto (tgt := 9) hx hb dX5_lookFurther_56 (by decide) ?_
      exact qOk.li h _ _ hH _ (lv_sub hl [1, 2, 0] rfl)
  intro v5 M6 h H locs hH ls hl
  refine lv_iload_n hx hb dX5_lookFurther_59 rfl (lv_at hl 0 rfl) ?_
  obtain ⟨hbn, h⟩ := qOk.bl h
  exact W.zret hx hb hr (qnarb hbn) (fun t ht _ => ⟨⟨_, _, rfl, qOk2.s h, qHpt ht hH.1⟩, hH.2.F ht⟩) hH.2.2.2 dX5_lookFurther_60
abbrev rm_X5_settle : Room := { frames := 5, cells := 0, slots := 0, locals := 114 }
set_option maxHeartbeats 4000000 in
set_option maxRecDepth 100000 in
theorem c_X5_settle (l : Launch) (G : qG) (ad : Nat → Nat) (hI : qI W1N ad) (M : qM) (sz : Nat) (x1 : Int32) (x2 : Int32) {P : qM → Prop} (h : qOk (kX5_settle M x1 x2) P) : Met l yX5_settle wsX5_settle rm_X5_settle (va_Pc [.ref (ad 70), .int x1, .int x2] (qPre W1N e1 G ad M sz)) (va_Qv P (fun u t => qHp W1N e1 G ad u t.heap) (qA W1N ad sz)) 0 0 (qA W1N ad sz) := by
  refine Met.ofW (cc := cX5_settle) (maxL := 5) (ret := none) (by decide) rfl ?_
  intro p e s m args below meth c s₁ B hml hv
  obtain ⟨rfl, hsz, hK, hP⟩ := hv
  subst hsz
  have hx := B.exec
  have hb := B.bytes
  have hr := B.returns
  have hts := atoms_spec (ws := wsX5_settle) B.pre
  have hown : s.vm.findClass RX5 = some m.cls := findClass_of_methodNamed B.named
  have hlocks := B.notSynchronized
  have hH : qHS W1N e1 G ad M s.heap s.heap [] := ⟨hP, va_S.rf⟩
  have f11 : (Cond.fieldLink RX5 11 "SongLamps$Turns" "song" "[I").before [.ref (ad 70), .int x1, .int x2].toArray s = true := hts _ (by decide +kernel)
  have i_X5 : ∀ w ∈ wsX50, w ∈ wsX5_settle := fun w hw => List.mem_cons_of_mem _ ((List.mem_append_right _ hw))
  have f15 : (Cond.fieldLink RX5 15 "SongLamps$Turns" "rest" "[I").before [.ref (ad 70), .int x1, .int x2].toArray s = true := hts _ (by decide +kernel)
  have hl := lv_entry ([.ref (ad 70), .int x1, .int x2]) (n := 5) (Nat.le_of_ble_eq_true rfl)
  rw [lg_entry_eq]
  generalize (lg_sl ([.ref (ad 70), .int x1, .int x2]) ++ List.replicate (5 - (lg_sl ([.ref (ad 70), .int x1, .int x2])).length) Slot.unset).toArray = ls at hl ⊢
  have hl : lv_has ls 5 [(0, .ref (ad 70)), (1, .int x1), (2, .int x2)] := hl
  have h : qOk (kX5_settle M x1 x2) _ := h
  unfold kX5_settle at h
  refine lv_aload_n hx hb dX5_settle_0 rfl (lv_at hl 0 rfl) ?_
  refine y_get hx hb hts i_X5 hown hK hH qOb_5 rfl 0 (by decide) f11 rfl dX5_settle_1 ?_
  refine lv_iconst (v := 0) hx hb dX5_settle_4 (by decide) ?_
  refine lv_iload_n hx hb dX5_settle_5 rfl (lv_at hl 1 rfl) ?_
  refine lv_bipush (v := 100) hx hb dX5_settle_6 (by decide) ?_
  refine lv_idiv hx hb dX5_settle_8 (by decide) ?_
  refine y_iast hx hb hK hI hH qAr_71 h dX5_settle_9 (fun M1 H locs hH h => ?_)
  refine lv_aload_n hx hb dX5_settle_10 rfl (lv_at hl 0 rfl) ?_
  refine y_get hx hb hts i_X5 hown hK hH qOb_5 rfl 0 (by decide) f11 rfl dX5_settle_11 ?_
  refine lv_iconst (v := 1) hx hb dX5_settle_14 (by decide) ?_
  refine lv_iload_n hx hb dX5_settle_15 rfl (lv_at hl 1 rfl) ?_
  refine lv_bipush (v := 10) hx hb dX5_settle_16 (by decide) ?_
  refine lv_idiv hx hb dX5_settle_18 (by decide) ?_
  refine lv_bipush (v := 10) hx hb dX5_settle_19 (by decide) ?_
  refine lv_irem hx hb dX5_settle_21 (by decide) ?_
  refine y_iast hx hb hK hI hH qAr_71 h dX5_settle_22 (fun M2 H locs hH h => ?_)
  refine lv_aload_n hx hb dX5_settle_23 rfl (lv_at hl 0 rfl) ?_
  refine y_get hx hb hts i_X5 hown hK hH qOb_5 rfl 0 (by decide) f11 rfl dX5_settle_24 ?_
  refine lv_iconst (v := 2) hx hb dX5_settle_27 (by decide) ?_
  refine lv_iload_n hx hb dX5_settle_28 rfl (lv_at hl 1 rfl) ?_
  refine lv_bipush (v := 10) hx hb dX5_settle_29 (by decide) ?_
  refine lv_irem hx hb dX5_settle_31 (by decide) ?_
  refine y_iast hx hb hK hI hH qAr_71 h dX5_settle_32 (fun M3 H locs hH h => ?_)
  refine lv_aload_n hx hb dX5_settle_33 rfl (lv_at hl 0 rfl) ?_
  refine y_get hx hb hts i_X5 hown hK hH qOb_5 rfl 1 (by decide) f15 rfl dX5_settle_34 ?_
  refine lv_iconst (v := 0) hx hb dX5_settle_37 (by decide) ?_
  refine lv_iload_n hx hb dX5_settle_38 rfl (lv_at hl 2 rfl) ?_
  refine lv_bipush (v := 100) hx hb dX5_settle_39 (by decide) ?_
  refine lv_idiv hx hb dX5_settle_41 (by decide) ?_
  refine y_iast hx hb hK hI hH qAr_72 h dX5_settle_42 (fun M4 H locs hH h => ?_)
  refine lv_aload_n hx hb dX5_settle_43 rfl (lv_at hl 0 rfl) ?_
  refine y_get hx hb hts i_X5 hown hK hH qOb_5 rfl 1 (by decide) f15 rfl dX5_settle_44 ?_
  refine lv_iconst (v := 1) hx hb dX5_settle_47 (by decide) ?_
  refine lv_iload_n hx hb dX5_settle_48 rfl (lv_at hl 2 rfl) ?_
  refine lv_bipush (v := 10) hx hb dX5_settle_49 (by decide) ?_
  refine lv_idiv hx hb dX5_settle_51 (by decide) ?_
  refine lv_bipush (v := 10) hx hb dX5_settle_52 (by decide) ?_
  refine lv_irem hx hb dX5_settle_54 (by decide) ?_
  refine y_iast hx hb hK hI hH qAr_72 h dX5_settle_55 (fun M5 H locs hH h => ?_)
  refine lv_aload_n hx hb dX5_settle_56 rfl (lv_at hl 0 rfl) ?_
  refine y_get hx hb hts i_X5 hown hK hH qOb_5 rfl 1 (by decide) f15 rfl dX5_settle_57 ?_
  refine lv_iconst (v := 2) hx hb dX5_settle_60 (by decide) ?_
  refine lv_iload_n hx hb dX5_settle_61 rfl (lv_at hl 2 rfl) ?_
  refine lv_bipush (v := 10) hx hb dX5_settle_62 (by decide) ?_
  refine lv_irem hx hb dX5_settle_64 (by decide) ?_
  refine y_iast hx hb hK hI hH qAr_72 h dX5_settle_65 (fun M6 H locs hH h => ?_)
  refine lv_aload_n hx hb dX5_settle_66 rfl (lv_at hl 0 rfl) ?_
  refine y_cv hH (va_runV (As := []) (rest := []) ⟨hx, hb, hml, hown, hts⟩ (c_X5_meetStates l G ad hI M6 _  (qOk.b1 h)) (cwV 0 hts gX5_settle_X5_meetStates rfl rfl rfl (by decide +kernel) ⟨Nat.le_of_ble_eq_true rfl, Nat.le_of_ble_eq_true rfl⟩) ⟨qPre.blind, qrecv hK hH qOb_5 rfl, qPre.at hK hH⟩ rfl rfl hl.1 rfl (lv_room (Nat.le_of_ble_eq_true rfl)) dX5_settle_67 ⟨Nat.zero_le _, Nat.zero_le _⟩) (fun M7 H locs hH h => ?_)
  refine lv_iconst (v := 1) hx hb dX5_settle_70 (by decide) ?_
  refine lv_istore_n (lv' := [(3, .int 1), (0, .ref (ad 70)), (1, .int x1), (2, .int x2)]) hx hb dX5_settle_71 rfl hl (by decide) rfl (fun ls hl => ?_)
  refine lv_iconst (v := 0) hx hb dX5_settle_72 (by decide) ?_
  refine lv_istore (lv' := [(4, .int 0), (3, .int 1), (0, .ref (ad 70)), (1, .int x1), (2, .int x2)]) hx hb dX5_settle_73 hl (by decide) rfl (fun ls hl => ?_)
  refine qj1 (G := fun (M11 : qM) => ∀ (H : Heap) (locs : List Loc), qHS W1N e1 G ad M11 s.heap H locs → ∀ ls : Array Slot, lv_has ls 5 [] → W p l e (headSpec wsX5_settle rm_X5_settle).room s m [.ref (ad 70), .int x1, .int x2].toArray below meth c H locs 0 0 (MQ below (va_Qv P (fun u t => qHp W1N e1 G ad u t.heap) (qA W1N ad s.heap.size)) [.ref (ad 70), .int x1, .int x2].toArray s 0 0 (qA W1N ad s.heap.size)) (F0 m 97 ls [])) h ?_ ?_
  rotate_left
  · intro h
    refine qloop3 (I := fun (v8 : Int32) (v9 : Int32) (M10 : qM) => ∀ (H : Heap) (locs : List Loc), qHS W1N e1 G ad M10 s.heap H locs → ∀ ls : Array Slot, lv_has ls 5 [(0, .ref (ad 70)), (3, .int v8), (4, .int v9)] → W p l e (headSpec wsX5_settle rm_X5_settle).room s m [.ref (ad 70), .int x1, .int x2].toArray below meth c H locs 0 0 (MQ below (va_Qv P (fun u t => qHp W1N e1 G ad u t.heap) (qA W1N ad s.heap.size)) [.ref (ad 70), .int x1, .int x2].toArray s 0 0 (qA W1N ad s.heap.size)) (F0 m 75 ls [])) ?_ h _ _ hH _ (lv_sub hl [2, 1, 0] rfl)
    intro v8 v9 M10 h H locs hH ls hl
    have h : qOk (kX5_settle_L75 v8 v9 M10) _ := h
    unfold kX5_settle_L75 at h
    refine lv_iload hx hb dX5_settle_75 (lv_at hl 2 rfl) ?_
    refine lv_bipush (v := 99) hx hb dX5_settle_77 (by decide) ?_
    refine lv_icmp_gt (tgt := 97) hx hb dX5_settle_79 (by decide) (fun hc => ?_) (fun hc => ?_)
    · have h := qOk.t hc h
      exact qOk.le h _ _ hH _ (lv_sub hl [] rfl)
    · have h := qOk.f hc h
      refine lv_iload_n hx hb dX5_settle_82 rfl (lv_at hl 1 rfl) ?_
      refine lv_if_eq (tgt := 97) hx hb dX5_settle_83 (by decide) (fun hc => ?_) (fun hc => ?_)
      · have h := qOk.t hc h
        exact qOk.le h _ _ hH _ (lv_sub hl [] rfl)
      · have h := qOk.f hc h
        refine lv_aload_n hx hb dX5_settle_86 rfl (lv_at hl 0 rfl) ?_
        refine y_ci hH (va_runV (As := []) (rest := []) ⟨hx, hb, hml, hown, hts⟩ (c_X5_lookFurther l G ad hI M10 _  (qOk.b2 h)) (cwV 0 hts gX5_settle_X5_lookFurther rfl rfl rfl (by decide +kernel) ⟨Nat.le_of_ble_eq_true rfl, Nat.le_of_ble_eq_true rfl⟩) ⟨qPre.blind, qrecv hK hH qOb_5 rfl, qPre.at hK hH⟩ rfl rfl hl.1 rfl (lv_room (Nat.le_of_ble_eq_true rfl)) dX5_settle_87 ⟨Nat.zero_le _, Nat.zero_le _⟩) (fun v13 M12 H locs hH h => ?_)
        refine lv_istore_n (lv' := [(3, .int v13), (0, .ref (ad 70)), (4, .int v9)]) hx hb dX5_settle_90 rfl hl (by decide) rfl (fun ls hl => ?_)
        obtain ⟨v14, ev14⟩ : ∃ y : Int32, y = v9 + 1 := ⟨_, rfl⟩
        have h := qOk.v h ev14
        refine lv_iinc (v := v14) (lv' := [(4, .int v14), (3, .int v13), (0, .ref (ad 70))]) hx hb dX5_settle_91 hl (k := 2) rfl (by rw [ev14]; rfl) (by decide) rfl (fun ls hl => ?_)
        refine lv_goto (tgt := 75) hx hb dX5_settle_94 (by decide) ?_
        exact qOk.li h _ _ hH _ (lv_sub hl [2, 1, 0] rfl)
  intro M11 h H locs hH ls hl
  exact W.vret hx hb hr (fun t ht _ => ⟨⟨_, rfl, qOk.s h, qHpt ht hH.1⟩, hH.2.F ht⟩) hH.2.2.2 dX5_settle_97
abbrev rm_X5_beatsFrom : Room := { frames := 1, cells := 0, slots := 0, locals := 21 }
set_option maxHeartbeats 4000000 in
set_option maxRecDepth 100000 in
theorem c_X5_beatsFrom (l : Launch) (G : qG) (ad : Nat → Nat) (hI : qI W1N ad) (M : qM) (sz : Nat) (x1 : Int32) {P : Int32 → Prop} (h : qOk (kX5_beatsFrom M x1) P) : Met l yX5_beatsFrom wsX5_beatsFrom rm_X5_beatsFrom (va_Pc [.ref (ad 70), .int x1] (qPre W1N e1 G ad M sz)) (vp_Si P) 0 0 (fun _ => False) := by
  refine Met.ofW (cc := cX5_beatsFrom) (maxL := 2) (ret := (some .int)) (by decide) rfl ?_
  intro p e s m args below meth c s₁ B hml hv
  obtain ⟨rfl, hsz, hK, hP⟩ := hv
  subst hsz
  have hx := B.exec
  have hb := B.bytes
  have hr := B.returns
  have hts := atoms_spec (ws := wsX5_beatsFrom) B.pre
  have hown : s.vm.findClass RX5 = some m.cls := findClass_of_methodNamed B.named
  have hlocks := B.notSynchronized
  have hH : qHS W1N e1 G ad M s.heap s.heap [] := ⟨hP, va_S.rf⟩
  have f11 : (Cond.fieldLink RX5 11 "SongLamps$Turns" "song" "[I").before [.ref (ad 70), .int x1].toArray s = true := hts _ (by decide +kernel)
  have i_X5 : ∀ w ∈ wsX50, w ∈ wsX5_beatsFrom := fun w hw => List.mem_cons_of_mem _ ((List.mem_append_right _ hw))
  have f18 : (Cond.fieldLink RX5 18 "SongLamps$Turns" "further" "[I").before [.ref (ad 70), .int x1].toArray s = true := hts _ (by decide +kernel)
  have ml31 : (Cond.methodLink RX5 31 Lib.Math.min.name).before [.ref (ad 70), .int x1].toArray s = true := hts _ (by decide +kernel)
  have ms_min : (Cond.static Lib.Math.min.name).before [.ref (ad 70), .int x1].toArray s = true := hts _ (by decide +kernel)
  have mi : (Cond.initialized "java/lang/Math").before [.ref (ad 70), .int x1].toArray s = true := hts _ (by decide +kernel)
  have mc_min : (Cond.code Lib.Math.min.name Lib.Math.min.code 2 (some .int)).before [.ref (ad 70), .int x1].toArray s = true := hts _ (by decide +kernel)
  have hl := lv_entry ([.ref (ad 70), .int x1]) (n := 2) (Nat.le_of_ble_eq_true rfl)
  rw [lg_entry_eq]
  generalize (lg_sl ([.ref (ad 70), .int x1]) ++ List.replicate (2 - (lg_sl ([.ref (ad 70), .int x1])).length) Slot.unset).toArray = ls at hl ⊢
  have hl : lv_has ls 2 [(0, .ref (ad 70)), (1, .int x1)] := hl
  have h : qOk (kX5_beatsFrom M x1) _ := h
  unfold kX5_beatsFrom at h
  refine lv_bipush (v := 99) hx hb dX5_beatsFrom_0 (by decide) ?_
  refine lv_aload_n hx hb dX5_beatsFrom_2 rfl (lv_at hl 0 rfl) ?_
  refine y_get hx hb hts i_X5 hown hK hH qOb_5 rfl 0 (by decide) f11 rfl dX5_beatsFrom_3 ?_
  refine lv_iload_n hx hb dX5_beatsFrom_6 rfl (lv_at hl 1 rfl) ?_
  refine y_iald hx hb hK hH qAr_71 h dX5_beatsFrom_7 (fun v1 h => ?_)
  refine lv_aload_n hx hb dX5_beatsFrom_8 rfl (lv_at hl 0 rfl) ?_
  refine y_get hx hb hts i_X5 hown hK hH qOb_5 rfl 2 (by decide) f18 rfl dX5_beatsFrom_9 ?_
  refine lv_bipush (v := 100) hx hb dX5_beatsFrom_12 (by decide) ?_
  refine lv_iload_n hx hb dX5_beatsFrom_14 rfl (lv_at hl 1 rfl) ?_
  refine lv_imul hx hb dX5_beatsFrom_15 ?_
  refine y_iald hx hb hK hH qAr_73 h dX5_beatsFrom_16 (fun v2 h => ?_)
  refine lv_iadd hx hb dX5_beatsFrom_17 ?_
  refine va_mmin hx hb (hml.trans hl.1.symm) hown ml31 ms_min mi mc_min (Nat.le_of_ble_eq_true rfl) (Nat.le_of_ble_eq_true rfl) (Nat.zero_le _) (Nat.zero_le _) dX5_beatsFrom_18 ?_
  exact W.iret hx hb hr (fun t ht _ => ⟨_, rfl, qOk.s h, ht⟩) (fun _ hq => by cases hq) dX5_beatsFrom_21
abbrev rm_X5_bestFirst : Room := { frames := 2, cells := 0, slots := 0, locals := 42 }
set_option maxHeartbeats 4000000 in
set_option maxRecDepth 100000 in
theorem c_X5_bestFirst (l : Launch) (G : qG) (ad : Nat → Nat) (hI : qI W1N ad) (M : qM) (sz : Nat) {P : Int32 → Prop} (h : qOk (kX5_bestFirst M) P) : Met l yX5_bestFirst wsX5_bestFirst rm_X5_bestFirst (va_Pc [.ref (ad 70)] (qPre W1N e1 G ad M sz)) (vp_Si P) 0 0 (fun _ => False) := by
  refine Met.ofW (cc := cX5_bestFirst) (maxL := 3) (ret := (some .int)) (by decide) rfl ?_
  intro p e s m args below meth c s₁ B hml hv
  obtain ⟨rfl, hsz, hK, hP⟩ := hv
  subst hsz
  have hx := B.exec
  have hb := B.bytes
  have hr := B.returns
  have hts := atoms_spec (ws := wsX5_bestFirst) B.pre
  have hown : s.vm.findClass RX5 = some m.cls := findClass_of_methodNamed B.named
  have hlocks := B.notSynchronized
  have hH : qHS W1N e1 G ad M s.heap s.heap [] := ⟨hP, va_S.rf⟩
  have hl := lv_entry ([.ref (ad 70)]) (n := 3) (Nat.le_of_ble_eq_true rfl)
  rw [lg_entry_eq]
  generalize (lg_sl ([.ref (ad 70)]) ++ List.replicate (3 - (lg_sl ([.ref (ad 70)])).length) Slot.unset).toArray = ls at hl ⊢
  have hl : lv_has ls 3 [(0, .ref (ad 70))] := hl
  have h : qOk (kX5_bestFirst M) _ := h
  unfold kX5_bestFirst at h
  refine lv_iconst (v := 0) hx hb dX5_bestFirst_0 (by decide) ?_
  refine lv_istore_n (lv' := [(1, .int 0), (0, .ref (ad 70))]) hx hb dX5_bestFirst_1 rfl hl (by decide) rfl (fun ls hl => ?_)
  refine lv_iconst (v := 1) hx hb dX5_bestFirst_2 (by decide) ?_
  refine lv_istore_n (lv' := [(2, .int 1), (1, .int 0), (0, .ref (ad 70))]) hx hb dX5_bestFirst_3 rfl hl (by decide) rfl (fun ls hl => ?_)
  refine qj1 (G := fun (v3 : Int32) => ∀ ls : Array Slot, lv_has ls 3 [(1, .int v3)] → W p l e (headSpec wsX5_bestFirst rm_X5_bestFirst).room s m [.ref (ad 70)].toArray below meth c s.heap [] 0 0 (MQ below (vp_Si P) [.ref (ad 70)].toArray s 0 0 (fun _ => False)) (F0 m 30 ls [])) h ?_ ?_
  rotate_left
  · intro h
    refine qloop2 (I := fun (v1 : Int32) (v2 : Int32) => ∀ ls : Array Slot, lv_has ls 3 [(0, .ref (ad 70)), (1, .int v1), (2, .int v2)] → W p l e (headSpec wsX5_bestFirst rm_X5_bestFirst).room s m [.ref (ad 70)].toArray below meth c s.heap [] 0 0 (MQ below (vp_Si P) [.ref (ad 70)].toArray s 0 0 (fun _ => False)) (F0 m 4 ls [])) ?_ h _ (lv_sub hl [2, 1, 0] rfl)
    intro v1 v2 h ls hl
    have h : qOk (kX5_bestFirst_L4 M v1 v2) _ := h
    unfold kX5_bestFirst_L4 at h
    refine lv_iload_n hx hb dX5_bestFirst_4 rfl (lv_at hl 2 rfl) ?_
    refine lv_iconst (v := 3) hx hb dX5_bestFirst_5 (by decide) ?_
    refine lv_icmp_ge (tgt := 30) hx hb dX5_bestFirst_6 (by decide) (fun hc => ?_) (fun hc => ?_)
    · have h := qOk.t hc h
      exact qOk.le h _ (lv_sub hl [1] rfl)
    · have h := qOk.f hc h
      refine lv_aload_n hx hb dX5_bestFirst_9 rfl (lv_at hl 0 rfl) ?_
      refine lv_iload_n hx hb dX5_bestFirst_10 rfl (lv_at hl 2 rfl) ?_
      refine y_cs (va_runV (As := [.int v2]) (rest := []) ⟨hx, hb, hml, hown, hts⟩ (c_X5_beatsFrom l G ad hI M _ v2 (qOk.b1 h)) (cwV 1 hts gX5_bestFirst_X5_beatsFrom rfl rfl rfl (by decide +kernel) ⟨Nat.le_of_ble_eq_true rfl, Nat.le_of_ble_eq_true rfl⟩) ⟨qPre.blind, qrecv hK hH qOb_5 rfl, qPre.at hK hH⟩ rfl rfl hl.1 rfl (lv_room (Nat.le_of_ble_eq_true rfl)) dX5_bestFirst_11 ⟨Nat.zero_le _, Nat.zero_le _⟩) (fun v4 h => ?_)
      refine lv_aload_n hx hb dX5_bestFirst_14 rfl (lv_at hl 0 rfl) ?_
      refine lv_iload_n hx hb dX5_bestFirst_15 rfl (lv_at hl 1 rfl) ?_
      refine y_cs (va_runV (As := [.int v1]) (rest := [.int v4]) ⟨hx, hb, hml, hown, hts⟩ (c_X5_beatsFrom l G ad hI M _ v1 (qOk.b1 h)) (cwV 1 hts gX5_bestFirst_X5_beatsFrom rfl rfl rfl (by decide +kernel) ⟨Nat.le_of_ble_eq_true rfl, Nat.le_of_ble_eq_true rfl⟩) ⟨qPre.blind, qrecv hK hH qOb_5 rfl, qPre.at hK hH⟩ rfl rfl hl.1 rfl (lv_room (Nat.le_of_ble_eq_true rfl)) dX5_bestFirst_16 ⟨Nat.zero_le _, Nat.zero_le _⟩) (fun v5 h => ?_)
      refine qj1 (G := fun (v6 : Int32) => ∀ ls : Array Slot, lv_has ls 3 [(0, .ref (ad 70)), (1, .int v6), (2, .int v2)] → W p l e (headSpec wsX5_bestFirst rm_X5_bestFirst).room s m [.ref (ad 70)].toArray below meth c s.heap [] 0 0 (MQ below (vp_Si P) [.ref (ad 70)].toArray s 0 0 (fun _ => False)) (F0 m 24 ls [])) h ?_ ?_
      rotate_left
      · intro h
        refine lv_icmp_le (tgt := 24) hx hb dX5_bestFirst_19 (by decide) (fun hc => ?_) (fun hc => ?_)
        · have h := qOk.t hc h
          have h := qOk.s h
          exact h _ (lv_sub hl [0, 1, 2] rfl)
        · have h := qOk.f hc h
          refine lv_iload_n hx hb dX5_bestFirst_22 rfl (lv_at hl 2 rfl) ?_
          refine lv_istore_n (lv' := [(1, .int v2), (0, .ref (ad 70)), (2, .int v2)]) hx hb dX5_bestFirst_23 rfl hl (by decide) rfl (fun ls hl => ?_)
          have h := qOk.s h
          exact h _ (lv_sub hl [1, 0, 2] rfl)
      intro v6 h ls hl
      obtain ⟨v7, ev7⟩ : ∃ y : Int32, y = v2 + 1 := ⟨_, rfl⟩
      have h := qOk.v h ev7
      refine lv_iinc (v := v7) (lv' := [(2, .int v7), (0, .ref (ad 70)), (1, .int v6)]) hx hb dX5_bestFirst_24 hl (k := 2) rfl (by rw [ev7]; rfl) (by decide) rfl (fun ls hl => ?_)
      refine lv_goto (tgt := 4) hx hb dX5_bestFirst_27 (by decide) ?_
      exact qOk.li h _ (lv_sub hl [1, 2, 0] rfl)
  intro v3 h ls hl
  refine lv_iload_n hx hb dX5_bestFirst_30 rfl (lv_at hl 0 rfl) ?_
  exact W.iret hx hb hr (fun t ht _ => ⟨_, rfl, qOk.s h, ht⟩) (fun _ hq => by cases hq) dX5_bestFirst_31
abbrev rm_X6_nextFrom : Room := { frames := 1, cells := 0, slots := 0, locals := 21 }
set_option maxHeartbeats 4000000 in
set_option maxRecDepth 100000 in
theorem c_X6_nextFrom (l : Launch) (G : qG) (ad : Nat → Nat) (hI : qI W1N ad) (M : qM) (sz : Nat) {b0 : Nat} (w0 : qWy b0) (x1 : Int32) {k2 : Nat} {n2 : Nat} (w2 : qAr W1N e1 k2 n2) {P : Int32 → Prop} (h : qOk (kX6_nextFrom b0 M x1 k2 n2) P) : Met l yX6_nextFrom wsX6_nextFrom rm_X6_nextFrom (va_Pc [.ref (ad b0), .int x1, .ref (ad k2)] (qPre W1N e1 G ad M sz)) (vp_Si P) 0 0 (fun _ => False) := by
  refine Met.ofW (cc := cX6_nextFrom) (maxL := 4) (ret := (some .int)) (by decide) rfl ?_
  intro p e s m args below meth c s₁ B hml hv
  obtain ⟨rfl, hsz, hK, hP⟩ := hv
  subst hsz
  have hx := B.exec
  have hb := B.bytes
  have hr := B.returns
  have hts := atoms_spec (ws := wsX6_nextFrom) B.pre
  have hown : s.vm.findClass RX6 = some m.cls := findClass_of_methodNamed B.named
  have hlocks := B.notSynchronized
  have hH : qHS W1N e1 G ad M s.heap s.heap [] := ⟨hP, va_S.rf⟩
  have f9 : (Cond.fieldLink RX6 9 "SongLamps$Ways" "far" "[I").before [.ref (ad b0), .int x1, .ref (ad k2)].toArray s = true := hts _ (by decide +kernel)
  have i_X6 : ∀ w ∈ wsX60, w ∈ wsX6_nextFrom := fun w hw => List.mem_cons_of_mem _ ((List.mem_append_right _ hw))
  have nS_X7_has : (Cond.static yX7_has).before [.ref (ad b0), .int x1, .ref (ad k2)].toArray s = true := hts _ (by decide +kernel)
  have nI_X7 : (Cond.initialized RX7).before [.ref (ad b0), .int x1, .ref (ad k2)].toArray s = true := hts _ (by decide +kernel)
  have hl := lv_entry ([.ref (ad b0), .int x1, .ref (ad k2)]) (n := 4) (Nat.le_of_ble_eq_true rfl)
  rw [lg_entry_eq]
  generalize (lg_sl ([.ref (ad b0), .int x1, .ref (ad k2)]) ++ List.replicate (4 - (lg_sl ([.ref (ad b0), .int x1, .ref (ad k2)])).length) Slot.unset).toArray = ls at hl ⊢
  have hl : lv_has ls 4 [(0, .ref (ad b0)), (1, .int x1), (2, .ref (ad k2))] := hl
  have h : qOk (kX6_nextFrom b0 M x1 k2 n2) _ := h
  unfold kX6_nextFrom at h
  refine lv_aload_n hx hb dX6_nextFrom_0 rfl (lv_at hl 0 rfl) ?_
  refine y_get hx hb hts i_X6 hown hK hH (qWy_ob w0) rfl 0 (by decide) f9 rfl dX6_nextFrom_1 ?_
  refine lv_iload_n hx hb dX6_nextFrom_4 rfl (lv_at hl 1 rfl) ?_
  refine y_iald hx hb hK hH (qWy_a1 w0) h dX6_nextFrom_5 (fun v1 h => ?_)
  refine lv_bipush (v := (-6)) hx hb dX6_nextFrom_6 (by decide) ?_
  refine lv_icmp_eq (tgt := 20) hx hb dX6_nextFrom_8 (by decide) (fun hc => ?_) (fun hc => ?_)
  · have h := qOk.t hc h
    refine lv_bipush (v := (-6)) hx hb dX6_nextFrom_20 (by decide) ?_
    exact W.iret hx hb hr (fun t ht _ => ⟨_, rfl, qOk.s h, ht⟩) (fun _ hq => by cases hq) dX6_nextFrom_22
  · have h := qOk.f hc h
    refine lv_aload_n hx hb dX6_nextFrom_11 rfl (lv_at hl 0 rfl) ?_
    refine y_get hx hb hts i_X6 hown hK hH (qWy_ob w0) rfl 0 (by decide) f9 rfl dX6_nextFrom_12 ?_
    refine lv_iload_n hx hb dX6_nextFrom_15 rfl (lv_at hl 1 rfl) ?_
    refine y_iald hx hb hK hH (qWy_a1 w0) h dX6_nextFrom_16 (fun v2 h => ?_)
    refine lv_if_ne (tgt := 23) hx hb dX6_nextFrom_17 (by decide) (fun hc => ?_) (fun hc => ?_)
    · have h := qOk.f hc h
      refine lv_iconst (v := 0) hx hb dX6_nextFrom_23 (by decide) ?_
      refine lv_istore_n (lv' := [(3, .int 0), (0, .ref (ad b0)), (1, .int x1), (2, .ref (ad k2))]) hx hb dX6_nextFrom_24 rfl hl (by decide) rfl (fun ls hl => ?_)
      refine qjx0 (G := ∀ ls : Array Slot, lv_has ls 4 [] → W p l e (headSpec wsX6_nextFrom rm_X6_nextFrom).room s m [.ref (ad b0), .int x1, .ref (ad k2)].toArray below meth c s.heap [] 0 0 (MQ below (vp_Si P) [.ref (ad b0), .int x1, .ref (ad k2)].toArray s 0 0 (fun _ => False)) (F0 m 66 ls [])) h ?_ ?_
      rotate_left
      · intro h
        refine qloop1 (I := fun (v3 : Int32) => ∀ ls : Array Slot, lv_has ls 4 [(0, .ref (ad b0)), (1, .int x1), (2, .ref (ad k2)), (3, .int v3)] → W p l e (headSpec wsX6_nextFrom rm_X6_nextFrom).room s m [.ref (ad b0), .int x1, .ref (ad k2)].toArray below meth c s.heap [] 0 0 (MQ below (vp_Si P) [.ref (ad b0), .int x1, .ref (ad k2)].toArray s 0 0 (fun _ => False)) (F0 m 25 ls [])) ?_ h _ (lv_sub hl [1, 2, 3, 0] rfl)
        intro v3 h ls hl
        have h : qOk (kX6_nextFrom_L25 M k2 n2 x1 b0 v3) _ := h
        unfold kX6_nextFrom_L25 at h
        refine lv_iload_n hx hb dX6_nextFrom_25 rfl (lv_at hl 3 rfl) ?_
        refine lv_bipush (v := 10) hx hb dX6_nextFrom_26 (by decide) ?_
        refine lv_icmp_ge (tgt := 66) hx hb dX6_nextFrom_28 (by decide) (fun hc => ?_) (fun hc => ?_)
        · have h := qOk.t hc h
          exact qOk.lx h _ (lv_sub hl [] rfl)
        · have h := qOk.f hc h
          refine lv_aload_n hx hb dX6_nextFrom_31 rfl (lv_at hl 2 rfl) ?_
          refine lv_iload_n hx hb dX6_nextFrom_32 rfl (lv_at hl 1 rfl) ?_
          refine y_iald hx hb hK hH w2 h dX6_nextFrom_33 (fun v4 h => ?_)
          refine lv_iload_n hx hb dX6_nextFrom_34 rfl (lv_at hl 3 rfl) ?_
          refine y_cs (va_runSN (host := "SongLamps") (As := [.int v4, .int v3]) (rest := []) ⟨hx, hb, hml, hown, hts⟩ (c_X7_has l v4 v3 (qOk.b1 h)) ⟨va_cnB 2 hts gX6_nextFrom_X7_has_n21 rfl rfl rfl (hK.2 (RX6, 21, yX7_has, "SongLamps") (List.mem_of_getElem? (i := 8) rfl)) nI_X7 (by decide +kernel) ⟨Nat.le_of_ble_eq_true rfl, Nat.le_of_ble_eq_true rfl⟩, nS_X7_has, trivial⟩ ⟨qPrT.blind, qPrT.at⟩ rfl rfl hl.1 rfl (lv_room (Nat.le_of_ble_eq_true rfl)) dX6_nextFrom_35 ⟨Nat.zero_le _, Nat.zero_le _⟩) (fun v5 h => ?_)
          refine lv_if_eq (tgt := 60) hx hb dX6_nextFrom_38 (by decide) (fun hc => ?_) (fun hc => ?_)
          · have h := qOk.t hc h
            obtain ⟨v6, ev6⟩ : ∃ y : Int32, y = v3 + 1 := ⟨_, rfl⟩
            have h := qOk.v h ev6
            refine lv_iinc (v := v6) (lv' := [(3, .int v6), (0, .ref (ad b0)), (1, .int x1), (2, .ref (ad k2))]) hx hb dX6_nextFrom_60 hl (k := 3) rfl (by rw [ev6]; rfl) (by decide) rfl (fun ls hl => ?_)
            refine lv_goto (tgt := 25) hx hb dX6_nextFrom_63 (by decide) ?_
            exact qOk.li h _ (lv_sub hl [1, 2, 3, 0] rfl)
          · have h := qOk.f hc h
            refine lv_aload_n hx hb dX6_nextFrom_41 rfl (lv_at hl 0 rfl) ?_
            refine y_get hx hb hts i_X6 hown hK hH (qWy_ob w0) rfl 0 (by decide) f9 rfl dX6_nextFrom_42 ?_
            refine lv_iload_n hx hb dX6_nextFrom_45 rfl (lv_at hl 3 rfl) ?_
            refine y_iald hx hb hK hH (qWy_a1 w0) h dX6_nextFrom_46 (fun v7 h => ?_)
            refine lv_aload_n hx hb dX6_nextFrom_47 rfl (lv_at hl 0 rfl) ?_
            refine y_get hx hb hts i_X6 hown hK hH (qWy_ob w0) rfl 0 (by decide) f9 rfl dX6_nextFrom_48 ?_
            refine lv_iload_n hx hb dX6_nextFrom_51 rfl (lv_at hl 1 rfl) ?_
            refine y_iald hx hb hK hH (qWy_a1 w0) h dX6_nextFrom_52 (fun v8 h => ?_)
            refine lv_iconst (v := 1) hx hb dX6_nextFrom_53 (by decide) ?_
            refine lv_isub hx hb dX6_nextFrom_54 ?_
            refine lv_icmp_ne (tgt := 60) hx hb dX6_nextFrom_55 (by decide) (fun hc => ?_) (fun hc => ?_)
            · have h := qOk.f hc h
              obtain ⟨v9, ev9⟩ : ∃ y : Int32, y = v3 + 1 := ⟨_, rfl⟩
              have h := qOk.v h ev9
              refine lv_iinc (v := v9) (lv' := [(3, .int v9), (0, .ref (ad b0)), (1, .int x1), (2, .ref (ad k2))]) hx hb dX6_nextFrom_60 hl (k := 3) rfl (by rw [ev9]; rfl) (by decide) rfl (fun ls hl => ?_)
              refine lv_goto (tgt := 25) hx hb dX6_nextFrom_63 (by decide) ?_
              exact qOk.li h _ (lv_sub hl [1, 2, 3, 0] rfl)
            · have h := qOk.t hc h
              refine lv_iload_n hx hb dX6_nextFrom_58 rfl (lv_at hl 3 rfl) ?_
              have h := qOk.lr h
              exact W.iret hx hb hr (fun t ht _ => ⟨_, rfl, qOk.s h, ht⟩) (fun _ hq => by cases hq) dX6_nextFrom_59
      intro  h ls hl
      refine lv_bipush (v := (-6)) hx hb dX6_nextFrom_66 (by decide) ?_
      exact W.iret hx hb hr (fun t ht _ => ⟨_, rfl, qOk.s h, ht⟩) (fun _ hq => by cases hq) dX6_nextFrom_68
    · have h := qOk.t hc h
      refine lv_bipush (v := (-6)) hx hb dX6_nextFrom_20 (by decide) ?_
      exact W.iret hx hb hr (fun t ht _ => ⟨_, rfl, qOk.s h, ht⟩) (fun _ hq => by cases hq) dX6_nextFrom_22
