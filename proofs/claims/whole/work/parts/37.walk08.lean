abbrev rm_X7_hold : Room := { frames := 6, cells := 0, slots := 0, locals := 138 }
set_option maxHeartbeats 4000000 in
set_option maxRecDepth 100000 in
theorem c_X7_hold (l : Launch) (G : qG) (ad : Nat → Nat) (hI : qI W1N ad) (M : qM) (sz : Nat) (x1 : Int32) (x2 : Int32) (x3 : Int32) {P : Int32 → qM → Prop} (h : qOk2 (kX7_hold M x1 x2 x3) P) : Met l yX7_hold wsX7_hold rm_X7_hold (va_Pc [.ref (ad 0), .int x1, .int x2, .int x3] (qPre W1N e1 G ad M sz)) (va_Qi P (fun u t => qHp W1N e1 G ad u t.heap) (qA W1N ad sz)) 0 0 (qA W1N ad sz) := by
  refine Met.ofW (cc := cX7_hold) (maxL := 5) (ret := (some .int)) (by decide) rfl ?_
  intro p e s m args below meth c s₁ B hml hv
  obtain ⟨rfl, hsz, hK, hP⟩ := hv
  subst hsz
  have hx := B.exec
  have hb := B.bytes
  have hr := B.returns
  have hts := atoms_spec (ws := wsX7_hold) B.pre
  have hown : s.vm.findClass RX7 = some m.cls := findClass_of_methodNamed B.named
  have hlocks := B.notSynchronized
  have hH : qHS W1N e1 G ad M s.heap s.heap [] := ⟨hP, va_S.rf⟩
  have f62 : (Cond.fieldLink RX7 62 "SongLamps" "turns" "LSongLamps$Turns;").before [.ref (ad 0), .int x1, .int x2, .int x3].toArray s = true := hts _ (by decide +kernel)
  have i_X7 : ∀ w ∈ wsX70, w ∈ wsX7_hold := fun w hw => List.mem_cons_of_mem _ ((List.mem_append_left _ (List.mem_append_right _ hw)))
  have hl := lv_entry ([.ref (ad 0), .int x1, .int x2, .int x3]) (n := 5) (Nat.le_of_ble_eq_true rfl)
  rw [lg_entry_eq]
  generalize (lg_sl ([.ref (ad 0), .int x1, .int x2, .int x3]) ++ List.replicate (5 - (lg_sl ([.ref (ad 0), .int x1, .int x2, .int x3])).length) Slot.unset).toArray = ls at hl ⊢
  have hl : lv_has ls 5 [(0, .ref (ad 0)), (1, .int x1), (2, .int x2), (3, .int x3)] := hl
  have h : qOk (kX7_hold M x1 x2 x3) _ := h
  unfold kX7_hold at h
  refine lv_iload_n hx hb dX7_hold_0 rfl (lv_at hl 1 rfl) ?_
  refine lv_bipush (v := 111) hx hb dX7_hold_1 (by decide) ?_
  refine lv_icmp_lt (tgt := 30) hx hb dX7_hold_3 (by decide) (fun hc => ?_) (fun hc => ?_)
  · have h := qOk.t hc h
    refine lv_bipush (v := (-2)) hx hb dX7_hold_30 (by decide) ?_
    exact W.iret hx hb hr (fun t ht _ => ⟨⟨_, _, rfl, qOk2.s h, qHpt ht hH.1⟩, hH.2.F ht⟩) hH.2.2.2 dX7_hold_32
  · have h := qOk.f hc h
    refine lv_iload_n hx hb dX7_hold_6 rfl (lv_at hl 1 rfl) ?_
    refine lv_sipush (v := 999) hx hb dX7_hold_7 (by decide) ?_
    refine lv_icmp_gt (tgt := 30) hx hb dX7_hold_10 (by decide) (fun hc => ?_) (fun hc => ?_)
    · have h := qOk.t hc h
      refine lv_bipush (v := (-2)) hx hb dX7_hold_30 (by decide) ?_
      exact W.iret hx hb hr (fun t ht _ => ⟨⟨_, _, rfl, qOk2.s h, qHpt ht hH.1⟩, hH.2.F ht⟩) hH.2.2.2 dX7_hold_32
    · have h := qOk.f hc h
      refine lv_iload_n hx hb dX7_hold_13 rfl (lv_at hl 1 rfl) ?_
      refine lv_bipush (v := 10) hx hb dX7_hold_14 (by decide) ?_
      refine lv_irem hx hb dX7_hold_16 (by decide) ?_
      refine lv_if_eq (tgt := 30) hx hb dX7_hold_17 (by decide) (fun hc => ?_) (fun hc => ?_)
      · have h := qOk.t hc h
        refine lv_bipush (v := (-2)) hx hb dX7_hold_30 (by decide) ?_
        exact W.iret hx hb hr (fun t ht _ => ⟨⟨_, _, rfl, qOk2.s h, qHpt ht hH.1⟩, hH.2.F ht⟩) hH.2.2.2 dX7_hold_32
      · have h := qOk.f hc h
        refine lv_iload_n hx hb dX7_hold_20 rfl (lv_at hl 1 rfl) ?_
        refine lv_bipush (v := 10) hx hb dX7_hold_21 (by decide) ?_
        refine lv_idiv hx hb dX7_hold_23 (by decide) ?_
        refine lv_bipush (v := 10) hx hb dX7_hold_24 (by decide) ?_
        refine lv_irem hx hb dX7_hold_26 (by decide) ?_
        refine lv_if_ne (tgt := 33) hx hb dX7_hold_27 (by decide) (fun hc => ?_) (fun hc => ?_)
        · have h := qOk.f hc h
          refine lv_iload_n hx hb dX7_hold_33 rfl (lv_at hl 2 rfl) ?_
          refine lv_if_lt (tgt := 53) hx hb dX7_hold_34 (by decide) (fun hc => ?_) (fun hc => ?_)
          · have h := qOk.t hc h
            refine lv_bipush (v := (-2)) hx hb dX7_hold_53 (by decide) ?_
            exact W.iret hx hb hr (fun t ht _ => ⟨⟨_, _, rfl, qOk2.s h, qHpt ht hH.1⟩, hH.2.F ht⟩) hH.2.2.2 dX7_hold_55
          · have h := qOk.f hc h
            refine lv_iload_n hx hb dX7_hold_37 rfl (lv_at hl 2 rfl) ?_
            refine lv_sipush (v := 999) hx hb dX7_hold_38 (by decide) ?_
            refine lv_icmp_gt (tgt := 53) hx hb dX7_hold_41 (by decide) (fun hc => ?_) (fun hc => ?_)
            · have h := qOk.t hc h
              refine lv_bipush (v := (-2)) hx hb dX7_hold_53 (by decide) ?_
              exact W.iret hx hb hr (fun t ht _ => ⟨⟨_, _, rfl, qOk2.s h, qHpt ht hH.1⟩, hH.2.F ht⟩) hH.2.2.2 dX7_hold_55
            · have h := qOk.f hc h
              refine lv_iload_n hx hb dX7_hold_44 rfl (lv_at hl 3 rfl) ?_
              refine lv_if_lt (tgt := 53) hx hb dX7_hold_45 (by decide) (fun hc => ?_) (fun hc => ?_)
              · have h := qOk.t hc h
                refine lv_bipush (v := (-2)) hx hb dX7_hold_53 (by decide) ?_
                exact W.iret hx hb hr (fun t ht _ => ⟨⟨_, _, rfl, qOk2.s h, qHpt ht hH.1⟩, hH.2.F ht⟩) hH.2.2.2 dX7_hold_55
              · have h := qOk.f hc h
                refine lv_iload_n hx hb dX7_hold_48 rfl (lv_at hl 3 rfl) ?_
                refine lv_iconst (v := 1) hx hb dX7_hold_49 (by decide) ?_
                refine lv_icmp_le (tgt := 56) hx hb dX7_hold_50 (by decide) (fun hc => ?_) (fun hc => ?_)
                · have h := qOk.t hc h
                  refine lv_aload_n hx hb dX7_hold_56 rfl (lv_at hl 0 rfl) ?_
                  refine y_get hx hb hts i_X7 hown hK hH qOb_7 rfl 8 (by decide) f62 rfl dX7_hold_57 ?_
                  refine lv_iload_n hx hb dX7_hold_60 rfl (lv_at hl 1 rfl) ?_
                  refine lv_iload_n hx hb dX7_hold_61 rfl (lv_at hl 2 rfl) ?_
                  refine y_cv hH (va_runV (As := [.int x1, .int x2]) (rest := []) ⟨hx, hb, hml, hown, hts⟩ (c_X5_settle l G ad hI M _ x1 x2 (qOk.b1 h)) (cwV 2 hts gX7_hold_X5_settle rfl rfl rfl (by decide +kernel) ⟨Nat.le_of_ble_eq_true rfl, Nat.le_of_ble_eq_true rfl⟩) ⟨qPre.blind, qrecv hK hH qOb_5 rfl, qPre.at hK hH⟩ rfl rfl hl.1 rfl (lv_room (Nat.le_of_ble_eq_true rfl)) dX7_hold_62 ⟨Nat.zero_le _, Nat.zero_le _⟩) (fun M1 H locs hH h => ?_)
                  refine lv_aload_n hx hb dX7_hold_65 rfl (lv_at hl 0 rfl) ?_
                  refine y_get hx hb hts i_X7 hown hK hH qOb_7 rfl 8 (by decide) f62 rfl dX7_hold_66 ?_
                  refine y_cs (va_runV (As := []) (rest := []) ⟨hx, hb, hml, hown, hts⟩ (c_X5_bestFirst l G ad hI M1 _  (qOk.b1 h)) (cwV 0 hts gX7_hold_X5_bestFirst rfl rfl rfl (by decide +kernel) ⟨Nat.le_of_ble_eq_true rfl, Nat.le_of_ble_eq_true rfl⟩) ⟨qPre.blind, qrecv hK hH qOb_5 rfl, qPre.at hK hH⟩ rfl rfl hl.1 rfl (lv_room (Nat.le_of_ble_eq_true rfl)) dX7_hold_69 ⟨Nat.zero_le _, Nat.zero_le _⟩) (fun v2 h => ?_)
                  refine lv_istore (lv' := [(4, .int v2), (0, .ref (ad 0)), (1, .int x1), (2, .int x2), (3, .int x3)]) hx hb dX7_hold_72 hl (by decide) rfl (fun ls hl => ?_)
                  refine lv_iload_n hx hb dX7_hold_74 rfl (lv_at hl 4 rfl) ?_
                  refine qj1 (G := fun (v3 : Int32) => W p l e (headSpec wsX7_hold rm_X7_hold).room s m [.ref (ad 0), .int x1, .int x2, .int x3].toArray below meth c H locs 0 0 (MQ below (va_Qi P (fun u t => qHp W1N e1 G ad u t.heap) (qA W1N ad s.heap.size)) [.ref (ad 0), .int x1, .int x2, .int x3].toArray s 0 0 (qA W1N ad s.heap.size)) (F0 m 92 ls [.int v3])) h ?_ ?_
                  rotate_left
                  · intro h
                    refine lv_if_ne (tgt := 90) hx hb dX7_hold_75 (by decide) (fun hc => ?_) (fun hc => ?_)
                    · have h := qOk.f hc h
                      refine lv_iload hx hb dX7_hold_90 (lv_at hl 0 rfl) ?_
                      have h := qOk.s h
                      exact h
                    · have h := qOk.t hc h
                      refine lv_aload_n hx hb dX7_hold_78 rfl (lv_at hl 1 rfl) ?_
                      refine y_get hx hb hts i_X7 hown hK hH qOb_7 rfl 8 (by decide) f62 rfl dX7_hold_79 ?_
                      refine lv_iload hx hb dX7_hold_82 (lv_at hl 0 rfl) ?_
                      refine y_cs (va_runV (As := [.int v2]) (rest := []) ⟨hx, hb, hml, hown, hts⟩ (c_X5_beatsFrom l G ad hI M1 _ v2 (qOk.b1 h)) (cwV 1 hts gX7_hold_X5_beatsFrom rfl rfl rfl (by decide +kernel) ⟨Nat.le_of_ble_eq_true rfl, Nat.le_of_ble_eq_true rfl⟩) ⟨qPre.blind, qrecv hK hH qOb_5 rfl, qPre.at hK hH⟩ rfl rfl hl.1 rfl (lv_room (Nat.le_of_ble_eq_true rfl)) dX7_hold_84 ⟨Nat.zero_le _, Nat.zero_le _⟩) (fun v4 h => ?_)
                      refine lv_goto (tgt := 92) hx hb dX7_hold_87 (by decide) ?_
                      have h := qOk.s h
                      exact h
                  intro v3 h
                  exact W.iret hx hb hr (fun t ht _ => ⟨⟨_, _, rfl, qOk2.s h, qHpt ht hH.1⟩, hH.2.F ht⟩) hH.2.2.2 dX7_hold_92
                · have h := qOk.f hc h
                  refine lv_bipush (v := (-2)) hx hb dX7_hold_53 (by decide) ?_
                  exact W.iret hx hb hr (fun t ht _ => ⟨⟨_, _, rfl, qOk2.s h, qHpt ht hH.1⟩, hH.2.F ht⟩) hH.2.2.2 dX7_hold_55
        · have h := qOk.t hc h
          refine lv_bipush (v := (-2)) hx hb dX7_hold_30 (by decide) ?_
          exact W.iret hx hb hr (fun t ht _ => ⟨⟨_, _, rfl, qOk2.s h, qHpt ht hH.1⟩, hH.2.F ht⟩) hH.2.2.2 dX7_hold_32
abbrev rm_X7_round : Room := { frames := 0, cells := 0, slots := 0, locals := 0 }
set_option maxHeartbeats 4000000 in
set_option maxRecDepth 100000 in
theorem c_X7_round (l : Launch) (G : qG) (ad : Nat → Nat) (hI : qI W1N ad) (M : qM) (sz : Nat) (x1 : Int32) (x2 : Int32) (x3 : Int32) (x4 : Int32) {P : Int32 → Prop} (h : qOk (kX7_round M x1 x2 x3 x4) P) : Met l yX7_round wsX7_round rm_X7_round (va_Pc [.ref (ad 0), .int x1, .int x2, .int x3, .int x4] (qPre W1N e1 G ad M sz)) (vp_Si P) 0 0 (fun _ => False) := by
  refine Met.ofW (cc := cX7_round) (maxL := 7) (ret := (some .int)) (by decide) rfl ?_
  intro p e s m args below meth c s₁ B hml hv
  obtain ⟨rfl, hsz, hK, hP⟩ := hv
  subst hsz
  have hx := B.exec
  have hb := B.bytes
  have hr := B.returns
  have hts := atoms_spec (ws := wsX7_round) B.pre
  have hown : s.vm.findClass RX7 = some m.cls := findClass_of_methodNamed B.named
  have hlocks := B.notSynchronized
  have hH : qHS W1N e1 G ad M s.heap s.heap [] := ⟨hP, va_S.rf⟩
  have hl := lv_entry ([.ref (ad 0), .int x1, .int x2, .int x3, .int x4]) (n := 7) (Nat.le_of_ble_eq_true rfl)
  rw [lg_entry_eq]
  generalize (lg_sl ([.ref (ad 0), .int x1, .int x2, .int x3, .int x4]) ++ List.replicate (7 - (lg_sl ([.ref (ad 0), .int x1, .int x2, .int x3, .int x4])).length) Slot.unset).toArray = ls at hl ⊢
  have hl : lv_has ls 7 [(0, .ref (ad 0)), (1, .int x1), (2, .int x2), (3, .int x3), (4, .int x4)] := hl
  have h : qOk (kX7_round M x1 x2 x3 x4) _ := h
  unfold kX7_round at h
  refine lv_iload_n hx hb dX7_round_0 rfl (lv_at hl 1 rfl) ?_
  refine lv_iconst (v := 1) hx hb dX7_round_1 (by decide) ?_
  refine lv_icmp_lt (tgt := 44) hx hb dX7_round_2 (by decide) (fun hc => ?_) (fun hc => ?_)
  · have h := qOk.t hc h
    refine lv_bipush (v := (-2)) hx hb dX7_round_44 (by decide) ?_
    exact W.iret hx hb hr (fun t ht _ => ⟨_, rfl, qOk.s h, ht⟩) (fun _ hq => by cases hq) dX7_round_46
  · have h := qOk.f hc h
    refine lv_iload_n hx hb dX7_round_5 rfl (lv_at hl 1 rfl) ?_
    refine lv_bipush (v := 99) hx hb dX7_round_6 (by decide) ?_
    refine lv_icmp_gt (tgt := 44) hx hb dX7_round_8 (by decide) (fun hc => ?_) (fun hc => ?_)
    · have h := qOk.t hc h
      refine lv_bipush (v := (-2)) hx hb dX7_round_44 (by decide) ?_
      exact W.iret hx hb hr (fun t ht _ => ⟨_, rfl, qOk.s h, ht⟩) (fun _ hq => by cases hq) dX7_round_46
    · have h := qOk.f hc h
      refine lv_iload_n hx hb dX7_round_11 rfl (lv_at hl 3 rfl) ?_
      refine lv_iconst (v := 1) hx hb dX7_round_12 (by decide) ?_
      refine lv_icmp_lt (tgt := 44) hx hb dX7_round_13 (by decide) (fun hc => ?_) (fun hc => ?_)
      · have h := qOk.t hc h
        refine lv_bipush (v := (-2)) hx hb dX7_round_44 (by decide) ?_
        exact W.iret hx hb hr (fun t ht _ => ⟨_, rfl, qOk.s h, ht⟩) (fun _ hq => by cases hq) dX7_round_46
      · have h := qOk.f hc h
        refine lv_iload_n hx hb dX7_round_16 rfl (lv_at hl 3 rfl) ?_
        refine lv_bipush (v := 99) hx hb dX7_round_17 (by decide) ?_
        refine lv_icmp_gt (tgt := 44) hx hb dX7_round_19 (by decide) (fun hc => ?_) (fun hc => ?_)
        · have h := qOk.t hc h
          refine lv_bipush (v := (-2)) hx hb dX7_round_44 (by decide) ?_
          exact W.iret hx hb hr (fun t ht _ => ⟨_, rfl, qOk.s h, ht⟩) (fun _ hq => by cases hq) dX7_round_46
        · have h := qOk.f hc h
          refine lv_iload_n hx hb dX7_round_22 rfl (lv_at hl 2 rfl) ?_
          refine lv_if_lt (tgt := 44) hx hb dX7_round_23 (by decide) (fun hc => ?_) (fun hc => ?_)
          · have h := qOk.t hc h
            refine lv_bipush (v := (-2)) hx hb dX7_round_44 (by decide) ?_
            exact W.iret hx hb hr (fun t ht _ => ⟨_, rfl, qOk.s h, ht⟩) (fun _ hq => by cases hq) dX7_round_46
          · have h := qOk.f hc h
            refine lv_iload_n hx hb dX7_round_26 rfl (lv_at hl 2 rfl) ?_
            refine lv_bipush (v := 99) hx hb dX7_round_27 (by decide) ?_
            refine lv_icmp_gt (tgt := 44) hx hb dX7_round_29 (by decide) (fun hc => ?_) (fun hc => ?_)
            · have h := qOk.t hc h
              refine lv_bipush (v := (-2)) hx hb dX7_round_44 (by decide) ?_
              exact W.iret hx hb hr (fun t ht _ => ⟨_, rfl, qOk.s h, ht⟩) (fun _ hq => by cases hq) dX7_round_46
            · have h := qOk.f hc h
              refine lv_iload hx hb dX7_round_32 (lv_at hl 4 rfl) ?_
              refine lv_if_lt (tgt := 44) hx hb dX7_round_34 (by decide) (fun hc => ?_) (fun hc => ?_)
              · have h := qOk.t hc h
                refine lv_bipush (v := (-2)) hx hb dX7_round_44 (by decide) ?_
                exact W.iret hx hb hr (fun t ht _ => ⟨_, rfl, qOk.s h, ht⟩) (fun _ hq => by cases hq) dX7_round_46
              · have h := qOk.f hc h
                refine lv_iload hx hb dX7_round_37 (lv_at hl 4 rfl) ?_
                refine lv_bipush (v := 99) hx hb dX7_round_39 (by decide) ?_
                refine lv_icmp_le (tgt := 47) hx hb dX7_round_41 (by decide) (fun hc => ?_) (fun hc => ?_)
                · have h := qOk.t hc h
                  refine lv_iload_n hx hb dX7_round_47 rfl (lv_at hl 1 rfl) ?_
                  refine lv_iload_n hx hb dX7_round_48 rfl (lv_at hl 2 rfl) ?_
                  refine lv_iload_n hx hb dX7_round_49 rfl (lv_at hl 1 rfl) ?_
                  obtain ⟨hz, h⟩ := qOk.nz h
                  refine lv_irem hx hb dX7_round_50 hz ?_
                  refine lv_isub hx hb dX7_round_51 ?_
                  refine lv_iload_n hx hb dX7_round_52 rfl (lv_at hl 1 rfl) ?_
                  obtain ⟨hz, h⟩ := qOk.nz h
                  refine lv_irem hx hb dX7_round_53 hz ?_
                  refine lv_topi (fun v1 ev1 => ?_)
                  have h := qOk.v h ev1
                  refine lv_istore (lv' := [(5, .int v1), (0, .ref (ad 0)), (1, .int x1), (2, .int x2), (3, .int x3), (4, .int x4)]) hx hb dX7_round_54 hl (by decide) rfl (fun ls hl => ?_)
                  refine lv_iconst (v := 0) hx hb dX7_round_56 (by decide) ?_
                  refine lv_istore (lv' := [(6, .int 0), (5, .int v1), (0, .ref (ad 0)), (1, .int x1), (2, .int x2), (3, .int x3), (4, .int x4)]) hx hb dX7_round_57 hl (by decide) rfl (fun ls hl => ?_)
                  refine qjx0 (G := ∀ ls : Array Slot, lv_has ls 7 [] → W p l e (headSpec wsX7_round rm_X7_round).room s m [.ref (ad 0), .int x1, .int x2, .int x3, .int x4].toArray below meth c s.heap [] 0 0 (MQ below (vp_Si P) [.ref (ad 0), .int x1, .int x2, .int x3, .int x4].toArray s 0 0 (fun _ => False)) (F0 m 90 ls [])) h ?_ ?_
                  rotate_left
                  · intro h
                    refine qloop2 (I := fun (v2 : Int32) (v3 : Int32) => ∀ ls : Array Slot, lv_has ls 7 [(1, .int x1), (3, .int x3), (4, .int x4), (5, .int v2), (6, .int v3)] → W p l e (headSpec wsX7_round rm_X7_round).room s m [.ref (ad 0), .int x1, .int x2, .int x3, .int x4].toArray below meth c s.heap [] 0 0 (MQ below (vp_Si P) [.ref (ad 0), .int x1, .int x2, .int x3, .int x4].toArray s 0 0 (fun _ => False)) (F0 m 59 ls [])) ?_ h _ (lv_sub hl [3, 5, 6, 1, 0] rfl)
                    intro v2 v3 h ls hl
                    have h : qOk (kX7_round_L59 x3 x4 x1 v2 v3) _ := h
                    unfold kX7_round_L59 at h
                    refine lv_iload hx hb dX7_round_59 (lv_at hl 4 rfl) ?_
                    refine lv_iload_n hx hb dX7_round_61 rfl (lv_at hl 1 rfl) ?_
                    refine lv_icmp_ge (tgt := 90) hx hb dX7_round_62 (by decide) (fun hc => ?_) (fun hc => ?_)
                    · have h := qOk.t hc h
                      exact qOk.lx h _ (lv_sub hl [] rfl)
                    · have h := qOk.f hc h
                      refine lv_iload hx hb dX7_round_65 (lv_at hl 3 rfl) ?_
                      refine lv_iload hx hb dX7_round_67 (lv_at hl 2 rfl) ?_
                      refine lv_iadd hx hb dX7_round_69 ?_
                      refine lv_iload_n hx hb dX7_round_70 rfl (lv_at hl 1 rfl) ?_
                      obtain ⟨hz, h⟩ := qOk.nz h
                      refine lv_irem hx hb dX7_round_71 hz ?_
                      refine lv_if_ne (tgt := 78) hx hb dX7_round_72 (by decide) (fun hc => ?_) (fun hc => ?_)
                      · have h := qOk.f hc h
                        refine lv_iload hx hb dX7_round_78 (lv_at hl 3 rfl) ?_
                        refine lv_iload_n hx hb dX7_round_80 rfl (lv_at hl 0 rfl) ?_
                        refine lv_iadd hx hb dX7_round_81 ?_
                        refine lv_topi (fun v4 ev4 => ?_)
                        have h := qOk.v h ev4
                        refine lv_istore (lv' := [(5, .int v4), (1, .int x1), (3, .int x3), (4, .int x4), (6, .int v3)]) hx hb dX7_round_82 hl (by decide) rfl (fun ls hl => ?_)
                        obtain ⟨v5, ev5⟩ : ∃ y : Int32, y = v3 + 1 := ⟨_, rfl⟩
                        have h := qOk.v h ev5
                        refine lv_iinc (v := v5) (lv' := [(6, .int v5), (5, .int v4), (1, .int x1), (3, .int x3), (4, .int x4)]) hx hb dX7_round_84 hl (k := 4) rfl (by rw [ev5]; rfl) (by decide) rfl (fun ls hl => ?_)
                        refine lv_goto (tgt := 59) hx hb dX7_round_87 (by decide) ?_
                        exact qOk.li h _ (lv_sub hl [2, 3, 4, 1, 0] rfl)
                      · have h := qOk.t hc h
                        refine lv_iload hx hb dX7_round_75 (lv_at hl 3 rfl) ?_
                        have h := qOk.lr h
                        exact W.iret hx hb hr (fun t ht _ => ⟨_, rfl, qOk.s h, ht⟩) (fun _ hq => by cases hq) dX7_round_77
                  intro  h ls hl
                  refine lv_bipush (v := (-6)) hx hb dX7_round_90 (by decide) ?_
                  exact W.iret hx hb hr (fun t ht _ => ⟨_, rfl, qOk.s h, ht⟩) (fun _ hq => by cases hq) dX7_round_92
                · have h := qOk.f hc h
                  refine lv_bipush (v := (-2)) hx hb dX7_round_44 (by decide) ?_
                  exact W.iret hx hb hr (fun t ht _ => ⟨_, rfl, qOk.s h, ht⟩) (fun _ hq => by cases hq) dX7_round_46
abbrev rm_X7_heard : Room := { frames := 1, cells := 0, slots := 0, locals := 20 }
set_option maxHeartbeats 4000000 in
set_option maxRecDepth 100000 in
theorem c_X7_heard (l : Launch) (G : qG) (ad : Nat → Nat) (hI : qI W1N ad) (M : qM) (sz : Nat) (x1 : Int32) (x2 : Int32) {P : Int32 → qM → Prop} (h : qOk2 (kX7_heard M x1 x2) P) : Met l yX7_heard wsX7_heard rm_X7_heard (va_Pc [.ref (ad 0), .int x1, .int x2] (qPre W1N e1 G ad M sz)) (va_Qi P (fun u t => qHp W1N e1 G ad u t.heap) (qA W1N ad sz)) 0 0 (qA W1N ad sz) := by
  refine Met.ofW (cc := cX7_heard) (maxL := 3) (ret := (some .int)) (by decide) rfl ?_
  intro p e s m args below meth c s₁ B hml hv
  obtain ⟨rfl, hsz, hK, hP⟩ := hv
  subst hsz
  have hx := B.exec
  have hb := B.bytes
  have hr := B.returns
  have hts := atoms_spec (ws := wsX7_heard) B.pre
  have hown : s.vm.findClass RX7 = some m.cls := findClass_of_methodNamed B.named
  have hlocks := B.notSynchronized
  have hH : qHS W1N e1 G ad M s.heap s.heap [] := ⟨hP, va_S.rf⟩
  have f10 : (Cond.fieldLink RX7 10 "SongLamps" "now" "LSongLamps$Mine;").before [.ref (ad 0), .int x1, .int x2].toArray s = true := hts _ (by decide +kernel)
  have i_X7 : ∀ w ∈ wsX70, w ∈ wsX7_heard := fun w hw => List.mem_cons_of_mem _ ((List.mem_append_left _ (List.mem_append_right _ hw)))
  have f220 : (Cond.fieldLink RX7 220 "SongLamps$Mine" "sights" "I").before [.ref (ad 0), .int x1, .int x2].toArray s = true := hts _ (by decide +kernel)
  have i_X1 : ∀ w ∈ wsX10, w ∈ wsX7_heard := fun w hw => List.mem_cons_of_mem _ ((List.mem_append_right _ hw))
  have f223 : (Cond.fieldLink RX7 223 "SongLamps$Mine" "sightPlace" "[I").before [.ref (ad 0), .int x1, .int x2].toArray s = true := hts _ (by decide +kernel)
  have f226 : (Cond.fieldLink RX7 226 "SongLamps$Mine" "sightNote" "[I").before [.ref (ad 0), .int x1, .int x2].toArray s = true := hts _ (by decide +kernel)
  have hl := lv_entry ([.ref (ad 0), .int x1, .int x2]) (n := 3) (Nat.le_of_ble_eq_true rfl)
  rw [lg_entry_eq]
  generalize (lg_sl ([.ref (ad 0), .int x1, .int x2]) ++ List.replicate (3 - (lg_sl ([.ref (ad 0), .int x1, .int x2])).length) Slot.unset).toArray = ls at hl ⊢
  have hl : lv_has ls 3 [(0, .ref (ad 0)), (1, .int x1), (2, .int x2)] := hl
  have h : qOk (kX7_heard M x1 x2) _ := h
  unfold kX7_heard at h
  refine lv_iload_n hx hb dX7_heard_0 rfl (lv_at hl 1 rfl) ?_
  refine y_cs (va_runS (As := [.int x1]) (rest := []) ⟨hx, hb, hml, hown, hts⟩ (c_X7_isGallery l x1 (qOk.b1 h)) (va_cwS 1 hts gX7_heard_X7_isGallery rfl rfl rfl (by decide +kernel) ⟨Nat.le_of_ble_eq_true rfl, Nat.le_of_ble_eq_true rfl⟩) ⟨qPrT.blind, qPrT.at⟩ rfl rfl hl.1 rfl (lv_room (Nat.le_of_ble_eq_true rfl)) dX7_heard_1 ⟨Nat.zero_le _, Nat.zero_le _⟩) (fun v1 h => ?_)
  refine lv_if_ne (tgt := 9) hx hb dX7_heard_4 (by decide) (fun hc => ?_) (fun hc => ?_)
  · have h := qOk.f hc h
    refine lv_iload_n hx hb dX7_heard_9 rfl (lv_at hl 2 rfl) ?_
    refine lv_iconst (v := (-1)) hx hb dX7_heard_10 (by decide) ?_
    refine lv_icmp_lt (tgt := 20) hx hb dX7_heard_11 (by decide) (fun hc => ?_) (fun hc => ?_)
    · have h := qOk.t hc h
      refine lv_bipush (v := (-2)) hx hb dX7_heard_20 (by decide) ?_
      exact W.iret hx hb hr (fun t ht _ => ⟨⟨_, _, rfl, qOk2.s h, qHpt ht hH.1⟩, hH.2.F ht⟩) hH.2.2.2 dX7_heard_22
    · have h := qOk.f hc h
      refine lv_iload_n hx hb dX7_heard_14 rfl (lv_at hl 2 rfl) ?_
      refine lv_bipush (v := 24) hx hb dX7_heard_15 (by decide) ?_
      refine lv_icmp_lt (tgt := 23) hx hb dX7_heard_17 (by decide) (fun hc => ?_) (fun hc => ?_)
      · have h := qOk.t hc h
        refine lv_aload_n hx hb dX7_heard_23 rfl (lv_at hl 0 rfl) ?_
        refine y_get hx hb hts i_X7 hown hK hH qOb_7 rfl 0 (by decide) f10 rfl dX7_heard_24 ?_
        refine y_get hx hb hts i_X1 hown hK hH (qMi_ob qMi_1) rfl 7 (by decide) f220 rfl dX7_heard_27 ?_
        refine lv_bipush (v := 8) hx hb dX7_heard_30 (by decide) ?_
        refine lv_icmp_lt (tgt := 38) hx hb dX7_heard_32 (by decide) (fun hc => ?_) (fun hc => ?_)
        · have h := qOk.t hc h
          refine lv_aload_n hx hb dX7_heard_38 rfl (lv_at hl 0 rfl) ?_
          refine y_get hx hb hts i_X7 hown hK hH qOb_7 rfl 0 (by decide) f10 rfl dX7_heard_39 ?_
          refine y_get hx hb hts i_X1 hown hK hH (qMi_ob qMi_1) rfl 14 (by decide) f223 rfl dX7_heard_42 ?_
          refine lv_aload_n hx hb dX7_heard_45 rfl (lv_at hl 0 rfl) ?_
          refine y_get hx hb hts i_X7 hown hK hH qOb_7 rfl 0 (by decide) f10 rfl dX7_heard_46 ?_
          refine y_get hx hb hts i_X1 hown hK hH (qMi_ob qMi_1) rfl 7 (by decide) f220 rfl dX7_heard_49 ?_
          refine lv_iload_n hx hb dX7_heard_52 rfl (lv_at hl 1 rfl) ?_
          refine y_iast hx hb hK hI hH (qMi_a10 qMi_1) h dX7_heard_53 (fun M2 H locs hH h => ?_)
          refine lv_aload_n hx hb dX7_heard_54 rfl (lv_at hl 0 rfl) ?_
          refine y_get hx hb hts i_X7 hown hK hH qOb_7 rfl 0 (by decide) f10 rfl dX7_heard_55 ?_
          refine y_get hx hb hts i_X1 hown hK hH (qMi_ob qMi_1) rfl 15 (by decide) f226 rfl dX7_heard_58 ?_
          refine lv_aload_n hx hb dX7_heard_61 rfl (lv_at hl 0 rfl) ?_
          refine y_get hx hb hts i_X7 hown hK hH qOb_7 rfl 0 (by decide) f10 rfl dX7_heard_62 ?_
          refine y_get hx hb hts i_X1 hown hK hH (qMi_ob qMi_1) rfl 7 (by decide) f220 rfl dX7_heard_65 ?_
          refine lv_iload_n hx hb dX7_heard_68 rfl (lv_at hl 2 rfl) ?_
          refine y_iast hx hb hK hI hH (qMi_a11 qMi_1) h dX7_heard_69 (fun M3 H locs hH h => ?_)
          refine lv_aload_n hx hb dX7_heard_70 rfl (lv_at hl 0 rfl) ?_
          refine y_get hx hb hts i_X7 hown hK hH qOb_7 rfl 0 (by decide) f10 rfl dX7_heard_71 ?_
          refine lv_dup hx hb dX7_heard_74 rfl ?_
          refine y_get hx hb hts i_X1 hown hK hH (qMi_ob qMi_1) rfl 7 (by decide) f220 rfl dX7_heard_75 ?_
          refine lv_iconst (v := 1) hx hb dX7_heard_78 (by decide) ?_
          refine lv_iadd hx hb dX7_heard_79 ?_
          refine y_put hx hb hts i_X1 tyX1 tyX1_ok nmX1 hown hK hI hH (qMi_ob qMi_1) rfl 7 (by decide) f220 rfl (by decide +kernel) (Nat.le_of_ble_eq_true rfl) (fun _ => rfl) h dX7_heard_80 (fun M4 H locs hH h => ?_)
          refine lv_aload_n hx hb dX7_heard_83 rfl (lv_at hl 0 rfl) ?_
          refine y_get hx hb hts i_X7 hown hK hH qOb_7 rfl 0 (by decide) f10 rfl dX7_heard_84 ?_
          refine y_get hx hb hts i_X1 hown hK hH (qMi_ob qMi_1) rfl 7 (by decide) f220 rfl dX7_heard_87 ?_
          exact W.iret hx hb hr (fun t ht _ => ⟨⟨_, _, rfl, qOk2.s h, qHpt ht hH.1⟩, hH.2.F ht⟩) hH.2.2.2 dX7_heard_90
        · have h := qOk.f hc h
          refine lv_bipush (v := (-4)) hx hb dX7_heard_35 (by decide) ?_
          exact W.iret hx hb hr (fun t ht _ => ⟨⟨_, _, rfl, qOk2.s h, qHpt ht hH.1⟩, hH.2.F ht⟩) hH.2.2.2 dX7_heard_37
      · have h := qOk.f hc h
        refine lv_bipush (v := (-2)) hx hb dX7_heard_20 (by decide) ?_
        exact W.iret hx hb hr (fun t ht _ => ⟨⟨_, _, rfl, qOk2.s h, qHpt ht hH.1⟩, hH.2.F ht⟩) hH.2.2.2 dX7_heard_22
  · have h := qOk.t hc h
    refine lv_iconst (v := (-1)) hx hb dX7_heard_7 (by decide) ?_
    exact W.iret hx hb hr (fun t ht _ => ⟨⟨_, _, rfl, qOk2.s h, qHpt ht hH.1⟩, hH.2.F ht⟩) hH.2.2.2 dX7_heard_8
abbrev rm_X7_forget : Room := { frames := 0, cells := 0, slots := 0, locals := 0 }
set_option maxHeartbeats 4000000 in
set_option maxRecDepth 100000 in
theorem c_X7_forget (l : Launch) (G : qG) (ad : Nat → Nat) (hI : qI W1N ad) (M : qM) (sz : Nat) {P : Int32 → qM → Prop} (h : qOk2 (kX7_forget M) P) : Met l yX7_forget wsX7_forget rm_X7_forget (va_Pc [.ref (ad 0)] (qPre W1N e1 G ad M sz)) (va_Qi P (fun u t => qHp W1N e1 G ad u t.heap) (qA W1N ad sz)) 0 0 (qA W1N ad sz) := by
  refine Met.ofW (cc := cX7_forget) (maxL := 2) (ret := (some .int)) (by decide) rfl ?_
  intro p e s m args below meth c s₁ B hml hv
  obtain ⟨rfl, hsz, hK, hP⟩ := hv
  subst hsz
  have hx := B.exec
  have hb := B.bytes
  have hr := B.returns
  have hts := atoms_spec (ws := wsX7_forget) B.pre
  have hown : s.vm.findClass RX7 = some m.cls := findClass_of_methodNamed B.named
  have hlocks := B.notSynchronized
  have hH : qHS W1N e1 G ad M s.heap s.heap [] := ⟨hP, va_S.rf⟩
  have f10 : (Cond.fieldLink RX7 10 "SongLamps" "now" "LSongLamps$Mine;").before [.ref (ad 0)].toArray s = true := hts _ (by decide +kernel)
  have i_X7 : ∀ w ∈ wsX70, w ∈ wsX7_forget := fun w hw => List.mem_cons_of_mem _ ((List.mem_append_left _ (List.mem_append_right _ hw)))
  have f220 : (Cond.fieldLink RX7 220 "SongLamps$Mine" "sights" "I").before [.ref (ad 0)].toArray s = true := hts _ (by decide +kernel)
  have i_X1 : ∀ w ∈ wsX10, w ∈ wsX7_forget := fun w hw => List.mem_cons_of_mem _ ((List.mem_append_right _ hw))
  have hl := lv_entry ([.ref (ad 0)]) (n := 2) (Nat.le_of_ble_eq_true rfl)
  rw [lg_entry_eq]
  generalize (lg_sl ([.ref (ad 0)]) ++ List.replicate (2 - (lg_sl ([.ref (ad 0)])).length) Slot.unset).toArray = ls at hl ⊢
  have hl : lv_has ls 2 [(0, .ref (ad 0))] := hl
  have h : qOk (kX7_forget M) _ := h
  unfold kX7_forget at h
  refine lv_aload_n hx hb dX7_forget_0 rfl (lv_at hl 0 rfl) ?_
  refine y_get hx hb hts i_X7 hown hK hH qOb_7 rfl 0 (by decide) f10 rfl dX7_forget_1 ?_
  refine y_get hx hb hts i_X1 hown hK hH (qMi_ob qMi_1) rfl 7 (by decide) f220 rfl dX7_forget_4 ?_
  refine lv_topi (fun v1 ev1 => ?_)
  have h := qOk.v h ev1
  refine lv_istore_n (lv' := [(1, .int v1), (0, .ref (ad 0))]) hx hb dX7_forget_7 rfl hl (by decide) rfl (fun ls hl => ?_)
  refine lv_aload_n hx hb dX7_forget_8 rfl (lv_at hl 1 rfl) ?_
  refine y_get hx hb hts i_X7 hown hK hH qOb_7 rfl 0 (by decide) f10 rfl dX7_forget_9 ?_
  refine lv_iconst (v := 0) hx hb dX7_forget_12 (by decide) ?_
  refine y_put hx hb hts i_X1 tyX1 tyX1_ok nmX1 hown hK hI hH (qMi_ob qMi_1) rfl 7 (by decide) f220 rfl (by decide +kernel) (Nat.le_of_ble_eq_true rfl) (fun _ => rfl) h dX7_forget_13 (fun M2 H locs hH h => ?_)
  refine lv_iload_n hx hb dX7_forget_16 rfl (lv_at hl 0 rfl) ?_
  exact W.iret hx hb hr (fun t ht _ => ⟨⟨_, _, rfl, qOk2.s h, qHpt ht hH.1⟩, hH.2.F ht⟩) hH.2.2.2 dX7_forget_17
abbrev rm_X7_losts : Room := { frames := 4, cells := 0, slots := 0, locals := 88 }
set_option maxHeartbeats 4000000 in
set_option maxRecDepth 100000 in
theorem c_X7_losts (l : Launch) (G : qG) (ad : Nat → Nat) (hI : qI W1N ad) (M : qM) (sz : Nat) (x1 : Int32) {P : Int32 → qM → Prop} (h : qOk2 (kX7_losts M x1) P) : Met l yX7_losts wsX7_losts rm_X7_losts (va_Pc [.ref (ad 0), .int x1] (qPre W1N e1 G ad M sz)) (va_Qi P (fun u t => qHp W1N e1 G ad u t.heap) (qA W1N ad sz)) 0 0 (qA W1N ad sz) := by
  refine Met.ofW (cc := cX7_losts) (maxL := 2) (ret := (some .int)) (by decide) rfl ?_
  intro p e s m args below meth c s₁ B hml hv
  obtain ⟨rfl, hsz, hK, hP⟩ := hv
  subst hsz
  have hx := B.exec
  have hb := B.bytes
  have hr := B.returns
  have hts := atoms_spec (ws := wsX7_losts) B.pre
  have hown : s.vm.findClass RX7 = some m.cls := findClass_of_methodNamed B.named
  have hlocks := B.notSynchronized
  have hH : qHS W1N e1 G ad M s.heap s.heap [] := ⟨hP, va_S.rf⟩
  have f55 : (Cond.fieldLink RX7 55 "SongLamps" "search" "LSongLamps$Search;").before [.ref (ad 0), .int x1].toArray s = true := hts _ (by decide +kernel)
  have i_X7 : ∀ w ∈ wsX70, w ∈ wsX7_losts := fun w hw => List.mem_cons_of_mem _ ((List.mem_append_left _ (List.mem_append_left _ (List.mem_append_left _ (List.mem_append_right _ hw)))))
  have f10 : (Cond.fieldLink RX7 10 "SongLamps" "now" "LSongLamps$Mine;").before [.ref (ad 0), .int x1].toArray s = true := hts _ (by decide +kernel)
  have hl := lv_entry ([.ref (ad 0), .int x1]) (n := 2) (Nat.le_of_ble_eq_true rfl)
  rw [lg_entry_eq]
  generalize (lg_sl ([.ref (ad 0), .int x1]) ++ List.replicate (2 - (lg_sl ([.ref (ad 0), .int x1])).length) Slot.unset).toArray = ls at hl ⊢
  have hl : lv_has ls 2 [(0, .ref (ad 0)), (1, .int x1)] := hl
  have h : qOk (kX7_losts M x1) _ := h
  unfold kX7_losts at h
  refine lv_aload_n hx hb dX7_losts_0 rfl (lv_at hl 0 rfl) ?_
  refine y_get hx hb hts i_X7 hown hK hH qOb_7 rfl 7 (by decide) f55 rfl dX7_losts_1 ?_
  refine lv_aload_n hx hb dX7_losts_4 rfl (lv_at hl 0 rfl) ?_
  refine y_get hx hb hts i_X7 hown hK hH qOb_7 rfl 0 (by decide) f10 rfl dX7_losts_5 ?_
  refine y_cv hH (va_runV (As := [.ref (ad 1)]) (rest := []) ⟨hx, hb, hml, hown, hts⟩ (c_X3_findFits l G ad hI M _ qMi_1 (qOk.b1 h)) (cwV 1 hts gX7_losts_X3_findFits rfl rfl rfl (by decide +kernel) ⟨Nat.le_of_ble_eq_true rfl, Nat.le_of_ble_eq_true rfl⟩) ⟨qPre.blind, qrecv hK hH qOb_3 rfl, qPre.at hK hH⟩ rfl rfl hl.1 rfl (lv_room (Nat.le_of_ble_eq_true rfl)) dX7_losts_8 ⟨Nat.zero_le _, Nat.zero_le _⟩) (fun M1 H locs hH h => ?_)
  refine lv_iload_n hx hb dX7_losts_11 rfl (lv_at hl 1 rfl) ?_
  refine lv_iconst (v := (-1)) hx hb dX7_losts_12 (by decide) ?_
  refine qj1 (G := fun (v2 : Int32) => W p l e (headSpec wsX7_losts rm_X7_losts).room s m [.ref (ad 0), .int x1].toArray below meth c H locs 0 0 (MQ below (va_Qi P (fun u t => qHp W1N e1 G ad u t.heap) (qA W1N ad s.heap.size)) [.ref (ad 0), .int x1].toArray s 0 0 (qA W1N ad s.heap.size)) (F0 m 34 ls [.int v2])) h ?_ ?_
  rotate_left
  · intro h
    refine lv_icmp_ne (tgt := 26) hx hb dX7_losts_13 (by decide) (fun hc => ?_) (fun hc => ?_)
    · have h := qOk.f hc h
      refine lv_aload_n hx hb dX7_losts_26 rfl (lv_at hl 0 rfl) ?_
      refine y_get hx hb hts i_X7 hown hK hH qOb_7 rfl 7 (by decide) f55 rfl dX7_losts_27 ?_
      refine lv_iload_n hx hb dX7_losts_30 rfl (lv_at hl 1 rfl) ?_
      refine y_cs (va_runV (As := [.int x1]) (rest := []) ⟨hx, hb, hml, hown, hts⟩ (c_X3_fitAt l G ad hI M1 _ x1 (qOk.b1 h)) (cwV 1 hts gX7_losts_X3_fitAt rfl rfl rfl (by decide +kernel) ⟨Nat.le_of_ble_eq_true rfl, Nat.le_of_ble_eq_true rfl⟩) ⟨qPre.blind, qrecv hK hH qOb_3 rfl, qPre.at hK hH⟩ rfl rfl hl.1 rfl (lv_room (Nat.le_of_ble_eq_true rfl)) dX7_losts_31 ⟨Nat.zero_le _, Nat.zero_le _⟩) (fun v3 h => ?_)
      have h := qOk.s h
      exact h
    · have h := qOk.t hc h
      refine lv_aload_n hx hb dX7_losts_16 rfl (lv_at hl 0 rfl) ?_
      refine y_get hx hb hts i_X7 hown hK hH qOb_7 rfl 7 (by decide) f55 rfl dX7_losts_17 ?_
      refine y_cs (va_runV (As := []) (rest := []) ⟨hx, hb, hml, hown, hts⟩ (c_X3_fitCount l G ad hI M1 _  (qOk.b1 h)) (cwV 0 hts gX7_losts_X3_fitCount rfl rfl rfl (by decide +kernel) ⟨Nat.le_of_ble_eq_true rfl, Nat.le_of_ble_eq_true rfl⟩) ⟨qPre.blind, qrecv hK hH qOb_3 rfl, qPre.at hK hH⟩ rfl rfl hl.1 rfl (lv_room (Nat.le_of_ble_eq_true rfl)) dX7_losts_20 ⟨Nat.zero_le _, Nat.zero_le _⟩) (fun v4 h => ?_)
      refine lv_goto (tgt := 34) hx hb dX7_losts_23 (by decide) ?_
      have h := qOk.s h
      exact h
  intro v2 h
  exact W.iret hx hb hr (fun t ht _ => ⟨⟨_, _, rfl, qOk2.s h, qHpt ht hH.1⟩, hH.2.F ht⟩) hH.2.2.2 dX7_losts_34
abbrev rm_X7_listen : Room := { frames := 4, cells := 0, slots := 0, locals := 89 }
set_option maxHeartbeats 4000000 in
set_option maxRecDepth 100000 in
theorem c_X7_listen (l : Launch) (G : qG) (ad : Nat → Nat) (hI : qI W1N ad) (M : qM) (sz : Nat) (x1 : Int32) {P : Int32 → qM → Prop} (h : qOk2 (kX7_listen M x1) P) : Met l yX7_listen wsX7_listen rm_X7_listen (va_Pc [.ref (ad 0), .int x1] (qPre W1N e1 G ad M sz)) (va_Qi P (fun u t => qHp W1N e1 G ad u t.heap) (qA W1N ad sz)) 0 0 (qA W1N ad sz) := by
  refine Met.ofW (cc := cX7_listen) (maxL := 2) (ret := (some .int)) (by decide) rfl ?_
  intro p e s m args below meth c s₁ B hml hv
  obtain ⟨rfl, hsz, hK, hP⟩ := hv
  subst hsz
  have hx := B.exec
  have hb := B.bytes
  have hr := B.returns
  have hts := atoms_spec (ws := wsX7_listen) B.pre
  have hown : s.vm.findClass RX7 = some m.cls := findClass_of_methodNamed B.named
  have hlocks := B.notSynchronized
  have hH : qHS W1N e1 G ad M s.heap s.heap [] := ⟨hP, va_S.rf⟩
  have f55 : (Cond.fieldLink RX7 55 "SongLamps" "search" "LSongLamps$Search;").before [.ref (ad 0), .int x1].toArray s = true := hts _ (by decide +kernel)
  have i_X7 : ∀ w ∈ wsX70, w ∈ wsX7_listen := fun w hw => List.mem_cons_of_mem _ ((List.mem_append_left _ (List.mem_append_left _ (List.mem_append_left _ (List.mem_append_right _ hw)))))
  have f10 : (Cond.fieldLink RX7 10 "SongLamps" "now" "LSongLamps$Mine;").before [.ref (ad 0), .int x1].toArray s = true := hts _ (by decide +kernel)
  have f244 : (Cond.fieldLink RX7 244 "SongLamps$Search" "mostLeft" "I").before [.ref (ad 0), .int x1].toArray s = true := hts _ (by decide +kernel)
  have i_X3 : ∀ w ∈ wsX30, w ∈ wsX7_listen := fun w hw => List.mem_cons_of_mem _ ((List.mem_append_left _ (List.mem_append_left _ (List.mem_append_right _ hw))))
  have f241 : (Cond.fieldLink RX7 241 "SongLamps$Search" "listenAt" "I").before [.ref (ad 0), .int x1].toArray s = true := hts _ (by decide +kernel)
  have hl := lv_entry ([.ref (ad 0), .int x1]) (n := 2) (Nat.le_of_ble_eq_true rfl)
  rw [lg_entry_eq]
  generalize (lg_sl ([.ref (ad 0), .int x1]) ++ List.replicate (2 - (lg_sl ([.ref (ad 0), .int x1])).length) Slot.unset).toArray = ls at hl ⊢
  have hl : lv_has ls 2 [(0, .ref (ad 0)), (1, .int x1)] := hl
  have h : qOk (kX7_listen M x1) _ := h
  unfold kX7_listen at h
  refine lv_iload_n hx hb dX7_listen_0 rfl (lv_at hl 1 rfl) ?_
  refine lv_if_lt (tgt := 9) hx hb dX7_listen_1 (by decide) (fun hc => ?_) (fun hc => ?_)
  · have h := qOk.t hc h
    refine lv_bipush (v := (-2)) hx hb dX7_listen_9 (by decide) ?_
    exact W.iret hx hb hr (fun t ht _ => ⟨⟨_, _, rfl, qOk2.s h, qHpt ht hH.1⟩, hH.2.F ht⟩) hH.2.2.2 dX7_listen_11
  · have h := qOk.f hc h
    refine lv_iload_n hx hb dX7_listen_4 rfl (lv_at hl 1 rfl) ?_
    refine lv_iconst (v := 1) hx hb dX7_listen_5 (by decide) ?_
    refine lv_icmp_le (tgt := 12) hx hb dX7_listen_6 (by decide) (fun hc => ?_) (fun hc => ?_)
    · have h := qOk.t hc h
      refine lv_aload_n hx hb dX7_listen_12 rfl (lv_at hl 0 rfl) ?_
      refine y_get hx hb hts i_X7 hown hK hH qOb_7 rfl 7 (by decide) f55 rfl dX7_listen_13 ?_
      refine lv_aload_n hx hb dX7_listen_16 rfl (lv_at hl 0 rfl) ?_
      refine y_get hx hb hts i_X7 hown hK hH qOb_7 rfl 0 (by decide) f10 rfl dX7_listen_17 ?_
      refine y_cv hH (va_runV (As := [.ref (ad 1)]) (rest := []) ⟨hx, hb, hml, hown, hts⟩ (c_X3_findFits l G ad hI M _ qMi_1 (qOk.b1 h)) (cwV 1 hts gX7_listen_X3_findFits rfl rfl rfl (by decide +kernel) ⟨Nat.le_of_ble_eq_true rfl, Nat.le_of_ble_eq_true rfl⟩) ⟨qPre.blind, qrecv hK hH qOb_3 rfl, qPre.at hK hH⟩ rfl rfl hl.1 rfl (lv_room (Nat.le_of_ble_eq_true rfl)) dX7_listen_20 ⟨Nat.zero_le _, Nat.zero_le _⟩) (fun M1 H locs hH h => ?_)
      refine lv_aload_n hx hb dX7_listen_23 rfl (lv_at hl 0 rfl) ?_
      refine y_get hx hb hts i_X7 hown hK hH qOb_7 rfl 7 (by decide) f55 rfl dX7_listen_24 ?_
      refine y_cs (va_runV (As := []) (rest := []) ⟨hx, hb, hml, hown, hts⟩ (c_X3_fitCount l G ad hI M1 _  (qOk.b1 h)) (cwV 0 hts gX7_listen_X3_fitCount rfl rfl rfl (by decide +kernel) ⟨Nat.le_of_ble_eq_true rfl, Nat.le_of_ble_eq_true rfl⟩) ⟨qPre.blind, qrecv hK hH qOb_3 rfl, qPre.at hK hH⟩ rfl rfl hl.1 rfl (lv_room (Nat.le_of_ble_eq_true rfl)) dX7_listen_27 ⟨Nat.zero_le _, Nat.zero_le _⟩) (fun v2 h => ?_)
      refine lv_if_ne (tgt := 36) hx hb dX7_listen_30 (by decide) (fun hc => ?_) (fun hc => ?_)
      · have h := qOk.f hc h
        refine lv_aload_n hx hb dX7_listen_36 rfl (lv_at hl 0 rfl) ?_
        refine y_get hx hb hts i_X7 hown hK hH qOb_7 rfl 7 (by decide) f55 rfl dX7_listen_37 ?_
        refine lv_aload_n hx hb dX7_listen_40 rfl (lv_at hl 0 rfl) ?_
        refine y_get hx hb hts i_X7 hown hK hH qOb_7 rfl 0 (by decide) f10 rfl dX7_listen_41 ?_
        refine y_cv hH (va_runV (As := [.ref (ad 1)]) (rest := []) ⟨hx, hb, hml, hown, hts⟩ (c_X3_chooseListening l G ad hI M1 _ qMi_1 (qOk.b1 h)) (cwV 1 hts gX7_listen_X3_chooseListening rfl rfl rfl (by decide +kernel) ⟨Nat.le_of_ble_eq_true rfl, Nat.le_of_ble_eq_true rfl⟩) ⟨qPre.blind, qrecv hK hH qOb_3 rfl, qPre.at hK hH⟩ rfl rfl hl.1 rfl (lv_room (Nat.le_of_ble_eq_true rfl)) dX7_listen_44 ⟨Nat.zero_le _, Nat.zero_le _⟩) (fun M3 H locs hH h => ?_)
        refine lv_iload_n hx hb dX7_listen_47 rfl (lv_at hl 1 rfl) ?_
        refine qj1 (G := fun (v4 : Int32) => W p l e (headSpec wsX7_listen rm_X7_listen).room s m [.ref (ad 0), .int x1].toArray below meth c H locs 0 0 (MQ below (va_Qi P (fun u t => qHp W1N e1 G ad u t.heap) (qA W1N ad s.heap.size)) [.ref (ad 0), .int x1].toArray s 0 0 (qA W1N ad s.heap.size)) (F0 m 68 ls [.int v4])) h ?_ ?_
        rotate_left
        · intro h
          refine lv_if_ne (tgt := 61) hx hb dX7_listen_48 (by decide) (fun hc => ?_) (fun hc => ?_)
          · have h := qOk.f hc h
            refine lv_aload_n hx hb dX7_listen_61 rfl (lv_at hl 0 rfl) ?_
            refine y_get hx hb hts i_X7 hown hK hH qOb_7 rfl 7 (by decide) f55 rfl dX7_listen_62 ?_
            refine y_get hx hb hts i_X3 hown hK hH qOb_3 rfl 4 (by decide) f244 rfl dX7_listen_65 ?_
            have h := qOk.s h
            exact h
          · have h := qOk.t hc h
            refine lv_aload_n hx hb dX7_listen_51 rfl (lv_at hl 0 rfl) ?_
            refine y_get hx hb hts i_X7 hown hK hH qOb_7 rfl 7 (by decide) f55 rfl dX7_listen_52 ?_
            refine y_get hx hb hts i_X3 hown hK hH qOb_3 rfl 3 (by decide) f241 rfl dX7_listen_55 ?_
            refine lv_goto (tgt := 68) hx hb dX7_listen_58 (by decide) ?_
            have h := qOk.s h
            exact h
        intro v4 h
        exact W.iret hx hb hr (fun t ht _ => ⟨⟨_, _, rfl, qOk2.s h, qHpt ht hH.1⟩, hH.2.F ht⟩) hH.2.2.2 dX7_listen_68
      · have h := qOk.t hc h
        refine lv_bipush (v := (-6)) hx hb dX7_listen_33 (by decide) ?_
        exact W.iret hx hb hr (fun t ht _ => ⟨⟨_, _, rfl, qOk2.s h, qHpt ht hH.1⟩, hH.2.F ht⟩) hH.2.2.2 dX7_listen_35
    · have h := qOk.f hc h
      refine lv_bipush (v := (-2)) hx hb dX7_listen_9 (by decide) ?_
      exact W.iret hx hb hr (fun t ht _ => ⟨⟨_, _, rfl, qOk2.s h, qHpt ht hH.1⟩, hH.2.F ht⟩) hH.2.2.2 dX7_listen_11
abbrev rm_X7_power : Room := { frames := 0, cells := 0, slots := 0, locals := 0 }
set_option maxHeartbeats 4000000 in
set_option maxRecDepth 100000 in
theorem c_X7_power (l : Launch) (x0 : Int64) (x2 : Int32) {P : Int64 → Prop} (h : qOk (kX7_power x0 x2) P) : Met l yX7_power wsX7_power rm_X7_power (va_Pc [.long x0, .int x2] (fun _ => True)) (vp_Sl P) 0 0 (fun _ => False) := by
  refine Met.ofW (cc := cX7_power) (maxL := 6) (ret := (some .long)) (by decide) rfl ?_
  intro p e s m args below meth c s₁ B hml hv
  obtain ⟨rfl, -⟩ := hv
  have hx := B.exec
  have hb := B.bytes
  have hr := B.returns
  have hts := atoms_spec (ws := wsX7_power) B.pre
  have hown : s.vm.findClass RX7 = some m.cls := findClass_of_methodNamed B.named
  have hlocks := B.notSynchronized
  have hl := lv_entry ([.long x0, .int x2]) (n := 6) (Nat.le_of_ble_eq_true rfl)
  rw [lg_entry_eq]
  generalize (lg_sl ([.long x0, .int x2]) ++ List.replicate (6 - (lg_sl ([.long x0, .int x2])).length) Slot.unset).toArray = ls at hl ⊢
  have hl : lv_has ls 6 [(0, .long x0), (2, .int x2)] := hl
  have h : qOk (kX7_power x0 x2) _ := h
  unfold kX7_power at h
  refine lv_lconst (v := 1) hx hb dX7_power_0 (by decide) ?_
  refine lv_lstore_n (lv' := [(3, .long 1), (0, .long x0), (2, .int x2)]) hx hb dX7_power_1 rfl hl (by decide) rfl (fun ls hl => ?_)
  refine lv_iconst (v := 0) hx hb dX7_power_2 (by decide) ?_
  refine lv_istore (lv' := [(5, .int 0), (3, .long 1), (0, .long x0), (2, .int x2)]) hx hb dX7_power_3 hl (by decide) rfl (fun ls hl => ?_)
  refine qj1 (G := fun (v3 : Int64) => ∀ ls : Array Slot, lv_has ls 6 [(3, .long v3)] → W p l e (headSpec wsX7_power rm_X7_power).room s m [.long x0, .int x2].toArray below meth c s.heap [] 0 0 (MQ below (vp_Sl P) [.long x0, .int x2].toArray s 0 0 (fun _ => False)) (F0 m 21 ls [])) h ?_ ?_
  rotate_left
  · intro h
    refine qloop2 (I := fun (v1 : Int64) (v2 : Int32) => ∀ ls : Array Slot, lv_has ls 6 [(0, .long x0), (2, .int x2), (3, .long v1), (5, .int v2)] → W p l e (headSpec wsX7_power rm_X7_power).room s m [.long x0, .int x2].toArray below meth c s.heap [] 0 0 (MQ below (vp_Sl P) [.long x0, .int x2].toArray s 0 0 (fun _ => False)) (F0 m 5 ls [])) ?_ h _ (lv_sub hl [2, 3, 1, 0] rfl)
    intro v1 v2 h ls hl
    have h : qOk (kX7_power_L5 x2 x0 v1 v2) _ := h
    unfold kX7_power_L5 at h
    refine lv_iload hx hb dX7_power_5 (lv_at hl 3 rfl) ?_
    refine lv_iload_n hx hb dX7_power_7 rfl (lv_at hl 1 rfl) ?_
    refine lv_icmp_ge (tgt := 21) hx hb dX7_power_8 (by decide) (fun hc => ?_) (fun hc => ?_)
    · have h := qOk.t hc h
      exact qOk.le h _ (lv_sub hl [2] rfl)
    · have h := qOk.f hc h
      refine lv_lload_n hx hb dX7_power_11 rfl (lv_at hl 2 rfl) ?_
      refine lv_lload_n hx hb dX7_power_12 rfl (lv_at hl 0 rfl) ?_
      refine lv_lmul hx hb dX7_power_13 ?_
      refine lv_topl (fun v4 ev4 => ?_)
      have h := qOk.v h ev4
      refine lv_lstore_n (lv' := [(3, .long v4), (0, .long x0), (2, .int x2), (5, .int v2)]) hx hb dX7_power_14 rfl hl (by decide) rfl (fun ls hl => ?_)
      obtain ⟨v5, ev5⟩ : ∃ y : Int32, y = v2 + 1 := ⟨_, rfl⟩
      have h := qOk.v h ev5
      refine lv_iinc (v := v5) (lv' := [(5, .int v5), (3, .long v4), (0, .long x0), (2, .int x2)]) hx hb dX7_power_15 hl (k := 3) rfl (by rw [ev5]; rfl) (by decide) rfl (fun ls hl => ?_)
      refine lv_goto (tgt := 5) hx hb dX7_power_18 (by decide) ?_
      exact qOk.li h _ (lv_sub hl [2, 3, 1, 0] rfl)
  intro v3 h ls hl
  refine lv_lload_n hx hb dX7_power_21 rfl (lv_at hl 0 rfl) ?_
  exact W.lret hx hb hr (fun t ht _ => ⟨_, rfl, qOk.s h, ht⟩) (fun _ hq => by cases hq) dX7_power_22
abbrev rm_X7_commonDivisor : Room := { frames := 0, cells := 0, slots := 0, locals := 0 }
set_option maxHeartbeats 4000000 in
set_option maxRecDepth 100000 in
theorem c_X7_commonDivisor (l : Launch) (x0 : Int64) (x2 : Int64) {P : Int64 → Prop} (h : qOk (kX7_commonDivisor x0 x2) P) : Met l yX7_commonDivisor wsX7_commonDivisor rm_X7_commonDivisor (va_Pc [.long x0, .long x2] (fun _ => True)) (vp_Sl P) 0 0 (fun _ => False) := by
  refine Met.ofW (cc := cX7_commonDivisor) (maxL := 11) (ret := (some .long)) (by decide) rfl ?_
  intro p e s m args below meth c s₁ B hml hv
  obtain ⟨rfl, -⟩ := hv
  have hx := B.exec
  have hb := B.bytes
  have hr := B.returns
  have hts := atoms_spec (ws := wsX7_commonDivisor) B.pre
  have hown : s.vm.findClass RX7 = some m.cls := findClass_of_methodNamed B.named
  have hlocks := B.notSynchronized
  have hl := lv_entry ([.long x0, .long x2]) (n := 11) (Nat.le_of_ble_eq_true rfl)
  rw [lg_entry_eq]
  generalize (lg_sl ([.long x0, .long x2]) ++ List.replicate (11 - (lg_sl ([.long x0, .long x2])).length) Slot.unset).toArray = ls at hl ⊢
  have hl : lv_has ls 11 [(0, .long x0), (2, .long x2)] := hl
  have h : qOk (kX7_commonDivisor x0 x2) _ := h
  unfold kX7_commonDivisor at h
  refine lv_lload_n hx hb dX7_commonDivisor_0 rfl (lv_at hl 0 rfl) ?_
  refine lv_lstore (lv' := [(4, .long x0), (0, .long x0), (2, .long x2)]) hx hb dX7_commonDivisor_1 hl (by decide) rfl (fun ls hl => ?_)
  refine lv_lload_n hx hb dX7_commonDivisor_3 rfl (lv_at hl 2 rfl) ?_
  refine lv_lstore (lv' := [(6, .long x2), (4, .long x0), (0, .long x0), (2, .long x2)]) hx hb dX7_commonDivisor_4 hl (by decide) rfl (fun ls hl => ?_)
  refine lv_iconst (v := 0) hx hb dX7_commonDivisor_6 (by decide) ?_
  refine lv_istore (lv' := [(8, .int 0), (6, .long x2), (4, .long x0), (0, .long x0), (2, .long x2)]) hx hb dX7_commonDivisor_7 hl (by decide) rfl (fun ls hl => ?_)
  refine qj1 (G := fun (v4 : Int64) => ∀ ls : Array Slot, lv_has ls 11 [(4, .long v4)] → W p l e (headSpec wsX7_commonDivisor rm_X7_commonDivisor).room s m [.long x0, .long x2].toArray below meth c s.heap [] 0 0 (MQ below (vp_Sl P) [.long x0, .long x2].toArray s 0 0 (fun _ => False)) (F0 m 44 ls [])) h ?_ ?_
  rotate_left
  · intro h
    refine qloop3 (I := fun (v1 : Int64) (v2 : Int64) (v3 : Int32) => ∀ ls : Array Slot, lv_has ls 11 [(4, .long v1), (6, .long v2), (8, .int v3)] → W p l e (headSpec wsX7_commonDivisor rm_X7_commonDivisor).room s m [.long x0, .long x2].toArray below meth c s.heap [] 0 0 (MQ below (vp_Sl P) [.long x0, .long x2].toArray s 0 0 (fun _ => False)) (F0 m 9 ls [])) ?_ h _ (lv_sub hl [2, 1, 0] rfl)
    intro v1 v2 v3 h ls hl
    have h : qOk (kX7_commonDivisor_L9 v1 v2 v3) _ := h
    unfold kX7_commonDivisor_L9 at h
    refine lv_iload hx hb dX7_commonDivisor_9 (lv_at hl 2 rfl) ?_
    refine lv_bipush (v := 100) hx hb dX7_commonDivisor_11 (by decide) ?_
    refine lv_icmp_ge (tgt := 44) hx hb dX7_commonDivisor_13 (by decide) (fun hc => ?_) (fun hc => ?_)
    · have h := qOk.t hc h
      exact qOk.le h _ (lv_sub hl [0] rfl)
    · have h := qOk.f hc h
      refine lv_lload hx hb dX7_commonDivisor_16 (lv_at hl 1 rfl) ?_
      refine lv_lconst (v := 0) hx hb dX7_commonDivisor_18 (by decide) ?_
      refine W.lcmp hx hb dX7_commonDivisor_19 ?_
      refine lv_if_eq (tgt := 44) hx hb dX7_commonDivisor_20 (by decide) (fun hc => ?_) (fun hc => ?_)
      · have h := qOk.t hc h
        exact qOk.le h _ (lv_sub hl [0] rfl)
      · have h := qOk.f hc h
        refine lv_lload hx hb dX7_commonDivisor_23 (lv_at hl 0 rfl) ?_
        refine lv_lload hx hb dX7_commonDivisor_25 (lv_at hl 1 rfl) ?_
        obtain ⟨hz, h⟩ := qOk.nl h
        refine lv_lrem hx hb dX7_commonDivisor_27 hz ?_
        refine lv_topl (fun v5 ev5 => ?_)
        have h := qOk.v h ev5
        refine lv_lstore (lv' := [(9, .long v5), (4, .long v1), (6, .long v2), (8, .int v3)]) hx hb dX7_commonDivisor_28 hl (by decide) rfl (fun ls hl => ?_)
        refine lv_lload hx hb dX7_commonDivisor_30 (lv_at hl 2 rfl) ?_
        refine lv_lstore (lv' := [(4, .long v2), (9, .long v5), (6, .long v2), (8, .int v3)]) hx hb dX7_commonDivisor_32 hl (by decide) rfl (fun ls hl => ?_)
        refine lv_lload hx hb dX7_commonDivisor_34 (lv_at hl 1 rfl) ?_
        refine lv_lstore (lv' := [(6, .long v5), (4, .long v2), (9, .long v5), (8, .int v3)]) hx hb dX7_commonDivisor_36 hl (by decide) rfl (fun ls hl => ?_)
        obtain ⟨v6, ev6⟩ : ∃ y : Int32, y = v3 + 1 := ⟨_, rfl⟩
        have h := qOk.v h ev6
        refine lv_iinc (v := v6) (lv' := [(8, .int v6), (6, .long v5), (4, .long v2), (9, .long v5)]) hx hb dX7_commonDivisor_38 hl (k := 3) rfl (by rw [ev6]; rfl) (by decide) rfl (fun ls hl => ?_)
        refine lv_goto (tgt := 9) hx hb dX7_commonDivisor_41 (by decide) ?_
        exact qOk.li h _ (lv_sub hl [2, 1, 0] rfl)
  intro v4 h ls hl
  refine lv_lload hx hb dX7_commonDivisor_44 (lv_at hl 0 rfl) ?_
  exact W.lret hx hb hr (fun t ht _ => ⟨_, rfl, qOk.s h, ht⟩) (fun _ hq => by cases hq) dX7_commonDivisor_46
abbrev rm_X7_lowestTerms : Room := { frames := 1, cells := 0, slots := 0, locals := 30 }
set_option maxHeartbeats 4000000 in
set_option maxRecDepth 100000 in
theorem c_X7_lowestTerms (l : Launch) (x0 : Int64) (x2 : Int64) (x4 : Int32) {P : Int64 → Prop} (h : qOk (kX7_lowestTerms x0 x2 x4) P) : Met l yX7_lowestTerms wsX7_lowestTerms rm_X7_lowestTerms (va_Pc [.long x0, .long x2, .int x4] (fun _ => True)) (vp_Sl P) 0 0 (fun _ => False) := by
  refine Met.ofW (cc := cX7_lowestTerms) (maxL := 7) (ret := (some .long)) (by decide) rfl ?_
  intro p e s m args below meth c s₁ B hml hv
  obtain ⟨rfl, -⟩ := hv
  have hx := B.exec
  have hb := B.bytes
  have hr := B.returns
  have hts := atoms_spec (ws := wsX7_lowestTerms) B.pre
  have hown : s.vm.findClass RX7 = some m.cls := findClass_of_methodNamed B.named
  have hlocks := B.notSynchronized
  have hl := lv_entry ([.long x0, .long x2, .int x4]) (n := 7) (Nat.le_of_ble_eq_true rfl)
  rw [lg_entry_eq]
  generalize (lg_sl ([.long x0, .long x2, .int x4]) ++ List.replicate (7 - (lg_sl ([.long x0, .long x2, .int x4])).length) Slot.unset).toArray = ls at hl ⊢
  have hl : lv_has ls 7 [(0, .long x0), (2, .long x2), (4, .int x4)] := hl
  have h : qOk (kX7_lowestTerms x0 x2 x4) _ := h
  unfold kX7_lowestTerms at h
  refine lv_lload_n hx hb dX7_lowestTerms_0 rfl (lv_at hl 0 rfl) ?_
  refine lv_lload_n hx hb dX7_lowestTerms_1 rfl (lv_at hl 1 rfl) ?_
  refine y_cl (va_runS (As := [.long x0, .long x2]) (rest := []) ⟨hx, hb, hml, hown, hts⟩ (c_X7_commonDivisor l x0 x2 (qOk.b1 h)) (va_cwS 2 hts gX7_lowestTerms_X7_commonDivisor rfl rfl rfl (by decide +kernel) ⟨Nat.le_of_ble_eq_true rfl, Nat.le_of_ble_eq_true rfl⟩) ⟨qPrT.blind, qPrT.at⟩ rfl rfl hl.1 rfl (lv_room (Nat.le_of_ble_eq_true rfl)) dX7_lowestTerms_2 ⟨Nat.zero_le _, Nat.zero_le _⟩) (fun v1 h => ?_)
  refine lv_lstore (lv' := [(5, .long v1), (0, .long x0), (2, .long x2), (4, .int x4)]) hx hb dX7_lowestTerms_5 hl (by decide) rfl (fun ls hl => ?_)
  refine lv_lload hx hb dX7_lowestTerms_7 (lv_at hl 0 rfl) ?_
  refine lv_lconst (v := 1) hx hb dX7_lowestTerms_9 (by decide) ?_
  refine W.lcmp hx hb dX7_lowestTerms_10 ?_
  refine lv_if_ge (tgt := 25) hx hb dX7_lowestTerms_11 (by decide) (fun hc => ?_) (fun hc => ?_)
  · have h := qOk.t hc h
    refine lv_iload hx hb dX7_lowestTerms_25 (lv_at hl 3 rfl) ?_
    refine qj1 (G := fun (v2 : Int64) => W p l e (headSpec wsX7_lowestTerms rm_X7_lowestTerms).room s m [.long x0, .long x2, .int x4].toArray below meth c s.heap [] 0 0 (MQ below (vp_Sl P) [.long x0, .long x2, .int x4].toArray s 0 0 (fun _ => False)) (F0 m 41 ls [.long v2])) h ?_ ?_
    rotate_left
    · intro h
      refine lv_if_ne (tgt := 37) hx hb dX7_lowestTerms_27 (by decide) (fun hc => ?_) (fun hc => ?_)
      · have h := qOk.f hc h
        refine lv_lload_n hx hb dX7_lowestTerms_37 rfl (lv_at hl 2 rfl) ?_
        refine lv_lload hx hb dX7_lowestTerms_38 (lv_at hl 0 rfl) ?_
        obtain ⟨hz, h⟩ := qOk.nl h
        refine lv_ldiv hx hb dX7_lowestTerms_40 hz ?_
        have h := qOk.s h
        exact h
      · have h := qOk.t hc h
        refine lv_lload_n hx hb dX7_lowestTerms_30 rfl (lv_at hl 1 rfl) ?_
        refine lv_lload hx hb dX7_lowestTerms_31 (lv_at hl 0 rfl) ?_
        obtain ⟨hz, h⟩ := qOk.nl h
        refine lv_ldiv hx hb dX7_lowestTerms_33 hz ?_
        refine lv_goto (tgt := 41) hx hb dX7_lowestTerms_34 (by decide) ?_
        have h := qOk.s h
        exact h
    intro v2 h
    exact W.lret hx hb hr (fun t ht _ => ⟨_, rfl, qOk.s h, ht⟩) (fun _ hq => by cases hq) dX7_lowestTerms_41
  · have h := qOk.f hc h
    refine lv_iload hx hb dX7_lowestTerms_14 (lv_at hl 3 rfl) ?_
    refine qj1 (G := fun (v3 : Int64) => W p l e (headSpec wsX7_lowestTerms rm_X7_lowestTerms).room s m [.long x0, .long x2, .int x4].toArray below meth c s.heap [] 0 0 (MQ below (vp_Sl P) [.long x0, .long x2, .int x4].toArray s 0 0 (fun _ => False)) (F0 m 24 ls [.long v3])) h ?_ ?_
    rotate_left
    · intro h
      refine lv_if_ne (tgt := 23) hx hb dX7_lowestTerms_16 (by decide) (fun hc => ?_) (fun hc => ?_)
      · have h := qOk.f hc h
        refine lv_lload_n hx hb dX7_lowestTerms_23 rfl (lv_at hl 2 rfl) ?_
        have h := qOk.s h
        exact h
      · have h := qOk.t hc h
        refine lv_lload_n hx hb dX7_lowestTerms_19 rfl (lv_at hl 1 rfl) ?_
        refine lv_goto (tgt := 24) hx hb dX7_lowestTerms_20 (by decide) ?_
        have h := qOk.s h
        exact h
    intro v3 h
    exact W.lret hx hb hr (fun t ht _ => ⟨_, rfl, qOk.s h, ht⟩) (fun _ hq => by cases hq) dX7_lowestTerms_24
abbrev rm_X7_cold : Room := { frames := 2, cells := 0, slots := 0, locals := 56 }
set_option maxHeartbeats 4000000 in
set_option maxRecDepth 100000 in
theorem c_X7_cold (l : Launch) (G : qG) (ad : Nat → Nat) (hI : qI W1N ad) (M : qM) (sz : Nat) (x1 : Int32) (x2 : Int32) (x3 : Int32) (x4 : Int32) (x5 : Int32) {P : Int64 → Prop} (h : qOk (kX7_cold M x1 x2 x3 x4 x5) P) : Met l yX7_cold wsX7_cold rm_X7_cold (va_Pc [.ref (ad 0), .int x1, .int x2, .int x3, .int x4, .int x5] (qPre W1N e1 G ad M sz)) (vp_Sl P) 0 0 (fun _ => False) := by
  refine Met.ofW (cc := cX7_cold) (maxL := 13) (ret := (some .long)) (by decide) rfl ?_
  intro p e s m args below meth c s₁ B hml hv
  obtain ⟨rfl, hsz, hK, hP⟩ := hv
  subst hsz
  have hx := B.exec
  have hb := B.bytes
  have hr := B.returns
  have hts := atoms_spec (ws := wsX7_cold) B.pre
  have hown : s.vm.findClass RX7 = some m.cls := findClass_of_methodNamed B.named
  have hlocks := B.notSynchronized
  have hH : qHS W1N e1 G ad M s.heap s.heap [] := ⟨hP, va_S.rf⟩
  have q249 : (Cond.constantLong RX7 249 (-1000000000000000002)).before [.ref (ad 0), .int x1, .int x2, .int x3, .int x4, .int x5].toArray s = true := hts _ (by decide +kernel)
  have f10 : (Cond.fieldLink RX7 10 "SongLamps" "now" "LSongLamps$Mine;").before [.ref (ad 0), .int x1, .int x2, .int x3, .int x4, .int x5].toArray s = true := hts _ (by decide +kernel)
  have i_X7 : ∀ w ∈ wsX70, w ∈ wsX7_cold := fun w hw => List.mem_cons_of_mem _ ((List.mem_append_left _ (List.mem_append_right _ hw)))
  have q256 : (Cond.constantLong RX7 256 (10)).before [.ref (ad 0), .int x1, .int x2, .int x3, .int x4, .int x5].toArray s = true := hts _ (by decide +kernel)
  have q254 : (Cond.constantLong RX7 254 (-1000000000000000003)).before [.ref (ad 0), .int x1, .int x2, .int x3, .int x4, .int x5].toArray s = true := hts _ (by decide +kernel)
  have q247 : (Cond.constantLong RX7 247 (-1000000000000000001)).before [.ref (ad 0), .int x1, .int x2, .int x3, .int x4, .int x5].toArray s = true := hts _ (by decide +kernel)
  have hl := lv_entry ([.ref (ad 0), .int x1, .int x2, .int x3, .int x4, .int x5]) (n := 13) (Nat.le_of_ble_eq_true rfl)
  rw [lg_entry_eq]
  generalize (lg_sl ([.ref (ad 0), .int x1, .int x2, .int x3, .int x4, .int x5]) ++ List.replicate (13 - (lg_sl ([.ref (ad 0), .int x1, .int x2, .int x3, .int x4, .int x5])).length) Slot.unset).toArray = ls at hl ⊢
  have hl : lv_has ls 13 [(0, .ref (ad 0)), (1, .int x1), (2, .int x2), (3, .int x3), (4, .int x4), (5, .int x5)] := hl
  have h : qOk (kX7_cold M x1 x2 x3 x4 x5) _ := h
  unfold kX7_cold at h
  refine lv_iload_n hx hb dX7_cold_0 rfl (lv_at hl 1 rfl) ?_
  refine y_cs (va_runS (As := [.int x1]) (rest := []) ⟨hx, hb, hml, hown, hts⟩ (c_X7_isGallery l x1 (qOk.b1 h)) (va_cwS 1 hts gX7_cold_X7_isGallery rfl rfl rfl (by decide +kernel) ⟨Nat.le_of_ble_eq_true rfl, Nat.le_of_ble_eq_true rfl⟩) ⟨qPrT.blind, qPrT.at⟩ rfl rfl hl.1 rfl (lv_room (Nat.le_of_ble_eq_true rfl)) dX7_cold_1 ⟨Nat.zero_le _, Nat.zero_le _⟩) (fun v1 h => ?_)
  refine lv_if_ne (tgt := 11) hx hb dX7_cold_4 (by decide) (fun hc => ?_) (fun hc => ?_)
  · have h := qOk.f hc h
    refine lv_iload_n hx hb dX7_cold_11 rfl (lv_at hl 2 rfl) ?_
    refine lv_if_lt (tgt := 53) hx hb dX7_cold_12 (by decide) (fun hc => ?_) (fun hc => ?_)
    · have h := qOk.t hc h
      refine lv_ldc2 (v := (-1000000000000000002)) hx hb hown q249 dX7_cold_53 ?_
      exact W.lret hx hb hr (fun t ht _ => ⟨_, rfl, qOk.s h, ht⟩) (fun _ hq => by cases hq) dX7_cold_56
    · have h := qOk.f hc h
      refine lv_iload_n hx hb dX7_cold_15 rfl (lv_at hl 2 rfl) ?_
      refine lv_bipush (v := 10) hx hb dX7_cold_16 (by decide) ?_
      refine lv_icmp_gt (tgt := 53) hx hb dX7_cold_18 (by decide) (fun hc => ?_) (fun hc => ?_)
      · have h := qOk.t hc h
        refine lv_ldc2 (v := (-1000000000000000002)) hx hb hown q249 dX7_cold_53 ?_
        exact W.lret hx hb hr (fun t ht _ => ⟨_, rfl, qOk.s h, ht⟩) (fun _ hq => by cases hq) dX7_cold_56
      · have h := qOk.f hc h
        refine lv_iload_n hx hb dX7_cold_21 rfl (lv_at hl 3 rfl) ?_
        refine lv_if_lt (tgt := 53) hx hb dX7_cold_22 (by decide) (fun hc => ?_) (fun hc => ?_)
        · have h := qOk.t hc h
          refine lv_ldc2 (v := (-1000000000000000002)) hx hb hown q249 dX7_cold_53 ?_
          exact W.lret hx hb hr (fun t ht _ => ⟨_, rfl, qOk.s h, ht⟩) (fun _ hq => by cases hq) dX7_cold_56
        · have h := qOk.f hc h
          refine lv_iload_n hx hb dX7_cold_25 rfl (lv_at hl 3 rfl) ?_
          refine lv_bipush (v := 9) hx hb dX7_cold_26 (by decide) ?_
          refine lv_icmp_gt (tgt := 53) hx hb dX7_cold_28 (by decide) (fun hc => ?_) (fun hc => ?_)
          · have h := qOk.t hc h
            refine lv_ldc2 (v := (-1000000000000000002)) hx hb hown q249 dX7_cold_53 ?_
            exact W.lret hx hb hr (fun t ht _ => ⟨_, rfl, qOk.s h, ht⟩) (fun _ hq => by cases hq) dX7_cold_56
          · have h := qOk.f hc h
            refine lv_iload hx hb dX7_cold_31 (lv_at hl 4 rfl) ?_
            refine lv_if_lt (tgt := 53) hx hb dX7_cold_33 (by decide) (fun hc => ?_) (fun hc => ?_)
            · have h := qOk.t hc h
              refine lv_ldc2 (v := (-1000000000000000002)) hx hb hown q249 dX7_cold_53 ?_
              exact W.lret hx hb hr (fun t ht _ => ⟨_, rfl, qOk.s h, ht⟩) (fun _ hq => by cases hq) dX7_cold_56
            · have h := qOk.f hc h
              refine lv_iload hx hb dX7_cold_36 (lv_at hl 4 rfl) ?_
              refine lv_iconst (v := 1) hx hb dX7_cold_38 (by decide) ?_
              refine lv_icmp_gt (tgt := 53) hx hb dX7_cold_39 (by decide) (fun hc => ?_) (fun hc => ?_)
              · have h := qOk.t hc h
                refine lv_ldc2 (v := (-1000000000000000002)) hx hb hown q249 dX7_cold_53 ?_
                exact W.lret hx hb hr (fun t ht _ => ⟨_, rfl, qOk.s h, ht⟩) (fun _ hq => by cases hq) dX7_cold_56
              · have h := qOk.f hc h
                refine lv_iload hx hb dX7_cold_42 (lv_at hl 5 rfl) ?_
                refine lv_if_lt (tgt := 53) hx hb dX7_cold_44 (by decide) (fun hc => ?_) (fun hc => ?_)
                · have h := qOk.t hc h
                  refine lv_ldc2 (v := (-1000000000000000002)) hx hb hown q249 dX7_cold_53 ?_
                  exact W.lret hx hb hr (fun t ht _ => ⟨_, rfl, qOk.s h, ht⟩) (fun _ hq => by cases hq) dX7_cold_56
                · have h := qOk.f hc h
                  refine lv_iload hx hb dX7_cold_47 (lv_at hl 5 rfl) ?_
                  refine lv_iconst (v := 1) hx hb dX7_cold_49 (by decide) ?_
                  refine lv_icmp_le (tgt := 57) hx hb dX7_cold_50 (by decide) (fun hc => ?_) (fun hc => ?_)
                  · have h := qOk.t hc h
                    refine lv_aload_n hx hb dX7_cold_57 rfl (lv_at hl 0 rfl) ?_
                    refine y_get hx hb hts i_X7 hown hK hH qOb_7 rfl 0 (by decide) f10 rfl dX7_cold_58 ?_
                    refine lv_iload_n hx hb dX7_cold_61 rfl (lv_at hl 1 rfl) ?_
                    refine y_cs (va_runV (As := [.int x1]) (rest := []) ⟨hx, hb, hml, hown, hts⟩ (c_X1_singersIn l G ad hI M _ qMi_1 x1 (qOk.b1 h)) (cwV 1 hts gX7_cold_X1_singersIn rfl rfl rfl (by decide +kernel) ⟨Nat.le_of_ble_eq_true rfl, Nat.le_of_ble_eq_true rfl⟩) ⟨qPre.blind, qrecv hK hH (qMi_ob qMi_1) rfl, qPre.at hK hH⟩ rfl rfl hl.1 rfl (lv_room (Nat.le_of_ble_eq_true rfl)) dX7_cold_62 ⟨Nat.zero_le _, Nat.zero_le _⟩) (fun v2 h => ?_)
                    refine lv_istore (lv' := [(6, .int v2), (0, .ref (ad 0)), (1, .int x1), (2, .int x2), (3, .int x3), (4, .int x4), (5, .int x5)]) hx hb dX7_cold_65 hl (by decide) rfl (fun ls hl => ?_)
                    refine lv_iload hx hb dX7_cold_67 (lv_at hl 5 rfl) ?_
                    refine lv_if_ne (tgt := 85) hx hb dX7_cold_69 (by decide) (fun hc => ?_) (fun hc => ?_)
                    · have h := qOk.f hc h
                      refine lv_ldc2 (v := 10) hx hb hown q256 dX7_cold_85 ?_
                      refine lv_iload_n hx hb dX7_cold_88 rfl (lv_at hl 4 rfl) ?_
                      refine y_cl (va_runS (As := [.long 10, .int x3]) (rest := []) ⟨hx, hb, hml, hown, hts⟩ (c_X7_power l 10 x3 (qOk.b1 h)) (va_cwS 2 hts gX7_cold_X7_power rfl rfl rfl (by decide +kernel) ⟨Nat.le_of_ble_eq_true rfl, Nat.le_of_ble_eq_true rfl⟩) ⟨qPrT.blind, qPrT.at⟩ rfl rfl hl.1 rfl (lv_room (Nat.le_of_ble_eq_true rfl)) dX7_cold_89 ⟨Nat.zero_le _, Nat.zero_le _⟩) (fun v3 h => ?_)
                      refine lv_lstore (lv' := [(7, .long v3), (6, .int v2), (0, .ref (ad 0)), (1, .int x1), (2, .int x2), (3, .int x3), (4, .int x4), (5, .int x5)]) hx hb dX7_cold_92 hl (by decide) rfl (fun ls hl => ?_)
                      refine lv_bipush (v := 10) hx hb dX7_cold_94 (by decide) ?_
                      refine lv_iload_n hx hb dX7_cold_96 rfl (lv_at hl 4 rfl) ?_
                      refine lv_isub hx hb dX7_cold_97 ?_
                      refine lv_i2l (v := ((10 - x2) : Int32).toInt64) hx hb dX7_cold_98 rfl ?_
                      refine lv_iload_n hx hb dX7_cold_99 rfl (lv_at hl 5 rfl) ?_
                      refine y_cl (va_runS (As := [.long (((10 - x2) : Int32).toInt64), .int x3]) (rest := []) ⟨hx, hb, hml, hown, hts⟩ (c_X7_power l (((10 - x2) : Int32).toInt64) x3 (qOk.b1 h)) (va_cwS 2 hts gX7_cold_X7_power rfl rfl rfl (by decide +kernel) ⟨Nat.le_of_ble_eq_true rfl, Nat.le_of_ble_eq_true rfl⟩) ⟨qPrT.blind, qPrT.at⟩ rfl rfl hl.1 rfl (lv_room (Nat.le_of_ble_eq_true rfl)) dX7_cold_100 ⟨Nat.zero_le _, Nat.zero_le _⟩) (fun v4 h => ?_)
                      refine lv_lstore (lv' := [(9, .long v4), (7, .long v3), (6, .int v2), (0, .ref (ad 0)), (1, .int x1), (2, .int x2), (3, .int x3), (4, .int x4), (5, .int x5)]) hx hb dX7_cold_103 hl (by decide) rfl (fun ls hl => ?_)
                      refine lv_iload hx hb dX7_cold_105 (lv_at hl 7 rfl) ?_
                      refine lv_iconst (v := 1) hx hb dX7_cold_107 (by decide) ?_
                      refine lv_icmp_ne (tgt := 125) hx hb dX7_cold_108 (by decide) (fun hc => ?_) (fun hc => ?_)
                      · have h := qOk.f hc h
                        refine lv_lload hx hb dX7_cold_125 (lv_at hl 1 rfl) ?_
                        refine lv_iload hx hb dX7_cold_127 (lv_at hl 2 rfl) ?_
                        refine y_cl (va_runS (As := [.long v3, .int v2]) (rest := []) ⟨hx, hb, hml, hown, hts⟩ (c_X7_power l v3 v2 (qOk.b1 h)) (va_cwS 2 hts gX7_cold_X7_power rfl rfl rfl (by decide +kernel) ⟨Nat.le_of_ble_eq_true rfl, Nat.le_of_ble_eq_true rfl⟩) ⟨qPrT.blind, qPrT.at⟩ rfl rfl hl.1 rfl (lv_room (Nat.le_of_ble_eq_true rfl)) dX7_cold_129 ⟨Nat.zero_le _, Nat.zero_le _⟩) (fun v5 h => ?_)
                        refine lv_lstore (lv' := [(11, .long v5), (9, .long v4), (7, .long v3), (6, .int v2), (0, .ref (ad 0)), (1, .int x1), (2, .int x2), (3, .int x3), (4, .int x4), (5, .int x5)]) hx hb dX7_cold_132 hl (by decide) rfl (fun ls hl => ?_)
                        refine lv_lload hx hb dX7_cold_134 (lv_at hl 0 rfl) ?_
                        refine lv_lload hx hb dX7_cold_136 (lv_at hl 2 rfl) ?_
                        refine lv_lload hx hb dX7_cold_138 (lv_at hl 1 rfl) ?_
                        refine lv_lsub hx hb dX7_cold_140 ?_
                        refine lv_iload hx hb dX7_cold_141 (lv_at hl 3 rfl) ?_
                        refine y_cl (va_runS (As := [.long (v3 - v4), .int v2]) (rest := [.long v5]) ⟨hx, hb, hml, hown, hts⟩ (c_X7_power l (v3 - v4) v2 (qOk.b1 h)) (va_cwS 2 hts gX7_cold_X7_power rfl rfl rfl (by decide +kernel) ⟨Nat.le_of_ble_eq_true rfl, Nat.le_of_ble_eq_true rfl⟩) ⟨qPrT.blind, qPrT.at⟩ rfl rfl hl.1 rfl (lv_room (Nat.le_of_ble_eq_true rfl)) dX7_cold_143 ⟨Nat.zero_le _, Nat.zero_le _⟩) (fun v6 h => ?_)
                        refine lv_lsub hx hb dX7_cold_146 ?_
                        refine lv_lload hx hb dX7_cold_147 (lv_at hl 0 rfl) ?_
                        refine lv_iload hx hb dX7_cold_149 (lv_at hl 9 rfl) ?_
                        refine y_cl (va_runS (As := [.long (v5 - v6), .long v5, .int x5]) (rest := []) ⟨hx, hb, hml, hown, hts⟩ (c_X7_lowestTerms l (v5 - v6) v5 x5 (qOk.b1 h)) (va_cwS 3 hts gX7_cold_X7_lowestTerms rfl rfl rfl (by decide +kernel) ⟨Nat.le_of_ble_eq_true rfl, Nat.le_of_ble_eq_true rfl⟩) ⟨qPrT.blind, qPrT.at⟩ rfl rfl hl.1 rfl (lv_room (Nat.le_of_ble_eq_true rfl)) dX7_cold_151 ⟨Nat.zero_le _, Nat.zero_le _⟩) (fun v7 h => ?_)
                        exact W.lret hx hb hr (fun t ht _ => ⟨_, rfl, qOk.s h, ht⟩) (fun _ hq => by cases hq) dX7_cold_154
                      · have h := qOk.t hc h
                        refine lv_iload hx hb dX7_cold_111 (lv_at hl 2 rfl) ?_
                        refine lv_i2l (v := (v2 : Int32).toInt64) hx hb dX7_cold_113 rfl ?_
                        refine lv_lload hx hb dX7_cold_114 (lv_at hl 0 rfl) ?_
                        refine lv_lmul hx hb dX7_cold_116 ?_
                        refine lv_lload hx hb dX7_cold_117 (lv_at hl 1 rfl) ?_
                        refine lv_iload hx hb dX7_cold_119 (lv_at hl 8 rfl) ?_
                        refine y_cl (va_runS (As := [.long (((v2 : Int32).toInt64) * v4), .long v3, .int x5]) (rest := []) ⟨hx, hb, hml, hown, hts⟩ (c_X7_lowestTerms l (((v2 : Int32).toInt64) * v4) v3 x5 (qOk.b1 h)) (va_cwS 3 hts gX7_cold_X7_lowestTerms rfl rfl rfl (by decide +kernel) ⟨Nat.le_of_ble_eq_true rfl, Nat.le_of_ble_eq_true rfl⟩) ⟨qPrT.blind, qPrT.at⟩ rfl rfl hl.1 rfl (lv_room (Nat.le_of_ble_eq_true rfl)) dX7_cold_121 ⟨Nat.zero_le _, Nat.zero_le _⟩) (fun v8 h => ?_)
                        exact W.lret hx hb hr (fun t ht _ => ⟨_, rfl, qOk.s h, ht⟩) (fun _ hq => by cases hq) dX7_cold_124
                    · have h := qOk.t hc h
                      refine lv_iload_n hx hb dX7_cold_72 rfl (lv_at hl 4 rfl) ?_
                      refine lv_iload hx hb dX7_cold_73 (lv_at hl 0 rfl) ?_
                      refine lv_imul hx hb dX7_cold_75 ?_
                      refine lv_bipush (v := 18) hx hb dX7_cold_76 (by decide) ?_
                      refine lv_icmp_le (tgt := 85) hx hb dX7_cold_78 (by decide) (fun hc => ?_) (fun hc => ?_)
                      · have h := qOk.t hc h
                        refine lv_ldc2 (v := 10) hx hb hown q256 dX7_cold_85 ?_
                        refine lv_iload_n hx hb dX7_cold_88 rfl (lv_at hl 4 rfl) ?_
                        refine y_cl (va_runS (As := [.long 10, .int x3]) (rest := []) ⟨hx, hb, hml, hown, hts⟩ (c_X7_power l 10 x3 (qOk.b1 h)) (va_cwS 2 hts gX7_cold_X7_power rfl rfl rfl (by decide +kernel) ⟨Nat.le_of_ble_eq_true rfl, Nat.le_of_ble_eq_true rfl⟩) ⟨qPrT.blind, qPrT.at⟩ rfl rfl hl.1 rfl (lv_room (Nat.le_of_ble_eq_true rfl)) dX7_cold_89 ⟨Nat.zero_le _, Nat.zero_le _⟩) (fun v9 h => ?_)
                        refine lv_lstore (lv' := [(7, .long v9), (6, .int v2), (0, .ref (ad 0)), (1, .int x1), (2, .int x2), (3, .int x3), (4, .int x4), (5, .int x5)]) hx hb dX7_cold_92 hl (by decide) rfl (fun ls hl => ?_)
                        refine lv_bipush (v := 10) hx hb dX7_cold_94 (by decide) ?_
                        refine lv_iload_n hx hb dX7_cold_96 rfl (lv_at hl 4 rfl) ?_
                        refine lv_isub hx hb dX7_cold_97 ?_
                        refine lv_i2l (v := ((10 - x2) : Int32).toInt64) hx hb dX7_cold_98 rfl ?_
                        refine lv_iload_n hx hb dX7_cold_99 rfl (lv_at hl 5 rfl) ?_
                        refine y_cl (va_runS (As := [.long (((10 - x2) : Int32).toInt64), .int x3]) (rest := []) ⟨hx, hb, hml, hown, hts⟩ (c_X7_power l (((10 - x2) : Int32).toInt64) x3 (qOk.b1 h)) (va_cwS 2 hts gX7_cold_X7_power rfl rfl rfl (by decide +kernel) ⟨Nat.le_of_ble_eq_true rfl, Nat.le_of_ble_eq_true rfl⟩) ⟨qPrT.blind, qPrT.at⟩ rfl rfl hl.1 rfl (lv_room (Nat.le_of_ble_eq_true rfl)) dX7_cold_100 ⟨Nat.zero_le _, Nat.zero_le _⟩) (fun v10 h => ?_)
                        refine lv_lstore (lv' := [(9, .long v10), (7, .long v9), (6, .int v2), (0, .ref (ad 0)), (1, .int x1), (2, .int x2), (3, .int x3), (4, .int x4), (5, .int x5)]) hx hb dX7_cold_103 hl (by decide) rfl (fun ls hl => ?_)
                        refine lv_iload hx hb dX7_cold_105 (lv_at hl 7 rfl) ?_
                        refine lv_iconst (v := 1) hx hb dX7_cold_107 (by decide) ?_
                        refine lv_icmp_ne (tgt := 125) hx hb dX7_cold_108 (by decide) (fun hc => ?_) (fun hc => ?_)
                        · have h := qOk.f hc h
                          refine lv_lload hx hb dX7_cold_125 (lv_at hl 1 rfl) ?_
                          refine lv_iload hx hb dX7_cold_127 (lv_at hl 2 rfl) ?_
                          refine y_cl (va_runS (As := [.long v9, .int v2]) (rest := []) ⟨hx, hb, hml, hown, hts⟩ (c_X7_power l v9 v2 (qOk.b1 h)) (va_cwS 2 hts gX7_cold_X7_power rfl rfl rfl (by decide +kernel) ⟨Nat.le_of_ble_eq_true rfl, Nat.le_of_ble_eq_true rfl⟩) ⟨qPrT.blind, qPrT.at⟩ rfl rfl hl.1 rfl (lv_room (Nat.le_of_ble_eq_true rfl)) dX7_cold_129 ⟨Nat.zero_le _, Nat.zero_le _⟩) (fun v11 h => ?_)
                          refine lv_lstore (lv' := [(11, .long v11), (9, .long v10), (7, .long v9), (6, .int v2), (0, .ref (ad 0)), (1, .int x1), (2, .int x2), (3, .int x3), (4, .int x4), (5, .int x5)]) hx hb dX7_cold_132 hl (by decide) rfl (fun ls hl => ?_)
                          refine lv_lload hx hb dX7_cold_134 (lv_at hl 0 rfl) ?_
                          refine lv_lload hx hb dX7_cold_136 (lv_at hl 2 rfl) ?_
                          refine lv_lload hx hb dX7_cold_138 (lv_at hl 1 rfl) ?_
                          refine lv_lsub hx hb dX7_cold_140 ?_
                          refine lv_iload hx hb dX7_cold_141 (lv_at hl 3 rfl) ?_
                          refine y_cl (va_runS (As := [.long (v9 - v10), .int v2]) (rest := [.long v11]) ⟨hx, hb, hml, hown, hts⟩ (c_X7_power l (v9 - v10) v2 (qOk.b1 h)) (va_cwS 2 hts gX7_cold_X7_power rfl rfl rfl (by decide +kernel) ⟨Nat.le_of_ble_eq_true rfl, Nat.le_of_ble_eq_true rfl⟩) ⟨qPrT.blind, qPrT.at⟩ rfl rfl hl.1 rfl (lv_room (Nat.le_of_ble_eq_true rfl)) dX7_cold_143 ⟨Nat.zero_le _, Nat.zero_le _⟩) (fun v12 h => ?_)
                          refine lv_lsub hx hb dX7_cold_146 ?_
                          refine lv_lload hx hb dX7_cold_147 (lv_at hl 0 rfl) ?_
                          refine lv_iload hx hb dX7_cold_149 (lv_at hl 9 rfl) ?_
                          refine y_cl (va_runS (As := [.long (v11 - v12), .long v11, .int x5]) (rest := []) ⟨hx, hb, hml, hown, hts⟩ (c_X7_lowestTerms l (v11 - v12) v11 x5 (qOk.b1 h)) (va_cwS 3 hts gX7_cold_X7_lowestTerms rfl rfl rfl (by decide +kernel) ⟨Nat.le_of_ble_eq_true rfl, Nat.le_of_ble_eq_true rfl⟩) ⟨qPrT.blind, qPrT.at⟩ rfl rfl hl.1 rfl (lv_room (Nat.le_of_ble_eq_true rfl)) dX7_cold_151 ⟨Nat.zero_le _, Nat.zero_le _⟩) (fun v13 h => ?_)
                          exact W.lret hx hb hr (fun t ht _ => ⟨_, rfl, qOk.s h, ht⟩) (fun _ hq => by cases hq) dX7_cold_154
                        · have h := qOk.t hc h
                          refine lv_iload hx hb dX7_cold_111 (lv_at hl 2 rfl) ?_
                          refine lv_i2l (v := (v2 : Int32).toInt64) hx hb dX7_cold_113 rfl ?_
                          refine lv_lload hx hb dX7_cold_114 (lv_at hl 0 rfl) ?_
                          refine lv_lmul hx hb dX7_cold_116 ?_
                          refine lv_lload hx hb dX7_cold_117 (lv_at hl 1 rfl) ?_
                          refine lv_iload hx hb dX7_cold_119 (lv_at hl 8 rfl) ?_
                          refine y_cl (va_runS (As := [.long (((v2 : Int32).toInt64) * v10), .long v9, .int x5]) (rest := []) ⟨hx, hb, hml, hown, hts⟩ (c_X7_lowestTerms l (((v2 : Int32).toInt64) * v10) v9 x5 (qOk.b1 h)) (va_cwS 3 hts gX7_cold_X7_lowestTerms rfl rfl rfl (by decide +kernel) ⟨Nat.le_of_ble_eq_true rfl, Nat.le_of_ble_eq_true rfl⟩) ⟨qPrT.blind, qPrT.at⟩ rfl rfl hl.1 rfl (lv_room (Nat.le_of_ble_eq_true rfl)) dX7_cold_121 ⟨Nat.zero_le _, Nat.zero_le _⟩) (fun v14 h => ?_)
                          exact W.lret hx hb hr (fun t ht _ => ⟨_, rfl, qOk.s h, ht⟩) (fun _ hq => by cases hq) dX7_cold_124
                      · have h := qOk.f hc h
                        refine lv_ldc2 (v := (-1000000000000000003)) hx hb hown q254 dX7_cold_81 ?_
                        exact W.lret hx hb hr (fun t ht _ => ⟨_, rfl, qOk.s h, ht⟩) (fun _ hq => by cases hq) dX7_cold_84
                  · have h := qOk.f hc h
                    refine lv_ldc2 (v := (-1000000000000000002)) hx hb hown q249 dX7_cold_53 ?_
                    exact W.lret hx hb hr (fun t ht _ => ⟨_, rfl, qOk.s h, ht⟩) (fun _ hq => by cases hq) dX7_cold_56
  · have h := qOk.t hc h
    refine lv_ldc2 (v := (-1000000000000000001)) hx hb hown q247 dX7_cold_7 ?_
    exact W.lret hx hb hr (fun t ht _ => ⟨_, rfl, qOk.s h, ht⟩) (fun _ hq => by cases hq) dX7_cold_10
abbrev rm_X7_year : Room := { frames := 5, cells := 0, slots := 0, locals := 117 }
set_option maxHeartbeats 4000000 in
set_option maxRecDepth 100000 in
theorem c_X7_year (l : Launch) (G : qG) (ad : Nat → Nat) (hI : qI W1N ad) (M : qM) (sz : Nat) (x1 : Int32) (x2 : Int32) (x3 : Int32) {P : Int32 → qM → Prop} (h : qOk2 (kX7_year M x1 x2 x3) P) : Met l yX7_year wsX7_year rm_X7_year (va_Pc [.ref (ad 0), .int x1, .int x2, .int x3] (qPre W1N e1 G ad M sz)) (va_Qi P (fun u t => qHp W1N e1 G ad u t.heap) (qA W1N ad sz)) 0 0 (qA W1N ad sz) := by
  refine Met.ofW (cc := cX7_year) (maxL := 4) (ret := (some .int)) (by decide) rfl ?_
  intro p e s m args below meth c s₁ B hml hv
  obtain ⟨rfl, hsz, hK, hP⟩ := hv
  subst hsz
  have hx := B.exec
  have hb := B.bytes
  have hr := B.returns
  have hts := atoms_spec (ws := wsX7_year) B.pre
  have hown : s.vm.findClass RX7 = some m.cls := findClass_of_methodNamed B.named
  have hlocks := B.notSynchronized
  have hH : qHS W1N e1 G ad M s.heap s.heap [] := ⟨hP, va_S.rf⟩
  have f41 : (Cond.fieldLink RX7 41 "SongLamps" "trial" "LSongLamps$Trial;").before [.ref (ad 0), .int x1, .int x2, .int x3].toArray s = true := hts _ (by decide +kernel)
  have i_X7 : ∀ w ∈ wsX70, w ∈ wsX7_year := fun w hw => List.mem_cons_of_mem _ ((List.mem_append_left _ (List.mem_append_left _ (List.mem_append_left _ (List.mem_append_right _ hw)))))
  have f10 : (Cond.fieldLink RX7 10 "SongLamps" "now" "LSongLamps$Mine;").before [.ref (ad 0), .int x1, .int x2, .int x3].toArray s = true := hts _ (by decide +kernel)
  have f34 : (Cond.fieldLink RX7 34 "SongLamps" "lamps" "LSongLamps$Lamps;").before [.ref (ad 0), .int x1, .int x2, .int x3].toArray s = true := hts _ (by decide +kernel)
  have f142 : (Cond.fieldLink RX7 142 "SongLamps$Trial" "mine" "LSongLamps$Mine;").before [.ref (ad 0), .int x1, .int x2, .int x3].toArray s = true := hts _ (by decide +kernel)
  have i_X4 : ∀ w ∈ wsX40, w ∈ wsX7_year := fun w hw => List.mem_cons_of_mem _ ((List.mem_append_left _ (List.mem_append_left _ (List.mem_append_right _ hw))))
  have f164 : (Cond.fieldLink RX7 164 "SongLamps$Lamps" "burning" "I").before [.ref (ad 0), .int x1, .int x2, .int x3].toArray s = true := hts _ (by decide +kernel)
  have i_X0 : ∀ w ∈ wsX00, w ∈ wsX7_year := fun w hw => List.mem_cons_of_mem _ ((List.mem_append_left _ (List.mem_append_right _ hw)))
  have hl := lv_entry ([.ref (ad 0), .int x1, .int x2, .int x3]) (n := 4) (Nat.le_of_ble_eq_true rfl)
  rw [lg_entry_eq]
  generalize (lg_sl ([.ref (ad 0), .int x1, .int x2, .int x3]) ++ List.replicate (4 - (lg_sl ([.ref (ad 0), .int x1, .int x2, .int x3])).length) Slot.unset).toArray = ls at hl ⊢
  have hl : lv_has ls 4 [(0, .ref (ad 0)), (1, .int x1), (2, .int x2), (3, .int x3)] := hl
  have h : qOk (kX7_year M x1 x2 x3) _ := h
  unfold kX7_year at h
  refine lv_iload_n hx hb dX7_year_0 rfl (lv_at hl 1 rfl) ?_
  refine lv_if_lt (tgt := 31) hx hb dX7_year_1 (by decide) (fun hc => ?_) (fun hc => ?_)
  · have h := qOk.t hc h
    refine lv_bipush (v := (-2)) hx hb dX7_year_31 (by decide) ?_
    exact W.iret hx hb hr (fun t ht _ => ⟨⟨_, _, rfl, qOk2.s h, qHpt ht hH.1⟩, hH.2.F ht⟩) hH.2.2.2 dX7_year_33
  · have h := qOk.f hc h
    refine lv_iload_n hx hb dX7_year_4 rfl (lv_at hl 1 rfl) ?_
    refine lv_sipush (v := 9999) hx hb dX7_year_5 (by decide) ?_
    refine lv_icmp_gt (tgt := 31) hx hb dX7_year_8 (by decide) (fun hc => ?_) (fun hc => ?_)
    · have h := qOk.t hc h
      refine lv_bipush (v := (-2)) hx hb dX7_year_31 (by decide) ?_
      exact W.iret hx hb hr (fun t ht _ => ⟨⟨_, _, rfl, qOk2.s h, qHpt ht hH.1⟩, hH.2.F ht⟩) hH.2.2.2 dX7_year_33
    · have h := qOk.f hc h
      refine lv_iload_n hx hb dX7_year_11 rfl (lv_at hl 2 rfl) ?_
      refine lv_iconst (v := 1) hx hb dX7_year_12 (by decide) ?_
      refine lv_icmp_lt (tgt := 31) hx hb dX7_year_13 (by decide) (fun hc => ?_) (fun hc => ?_)
      · have h := qOk.t hc h
        refine lv_bipush (v := (-2)) hx hb dX7_year_31 (by decide) ?_
        exact W.iret hx hb hr (fun t ht _ => ⟨⟨_, _, rfl, qOk2.s h, qHpt ht hH.1⟩, hH.2.F ht⟩) hH.2.2.2 dX7_year_33
      · have h := qOk.f hc h
        refine lv_iload_n hx hb dX7_year_16 rfl (lv_at hl 2 rfl) ?_
        refine lv_bipush (v := 99) hx hb dX7_year_17 (by decide) ?_
        refine lv_icmp_gt (tgt := 31) hx hb dX7_year_19 (by decide) (fun hc => ?_) (fun hc => ?_)
        · have h := qOk.t hc h
          refine lv_bipush (v := (-2)) hx hb dX7_year_31 (by decide) ?_
          exact W.iret hx hb hr (fun t ht _ => ⟨⟨_, _, rfl, qOk2.s h, qHpt ht hH.1⟩, hH.2.F ht⟩) hH.2.2.2 dX7_year_33
        · have h := qOk.f hc h
          refine lv_iload_n hx hb dX7_year_22 rfl (lv_at hl 3 rfl) ?_
          refine lv_if_lt (tgt := 31) hx hb dX7_year_23 (by decide) (fun hc => ?_) (fun hc => ?_)
          · have h := qOk.t hc h
            refine lv_bipush (v := (-2)) hx hb dX7_year_31 (by decide) ?_
            exact W.iret hx hb hr (fun t ht _ => ⟨⟨_, _, rfl, qOk2.s h, qHpt ht hH.1⟩, hH.2.F ht⟩) hH.2.2.2 dX7_year_33
          · have h := qOk.f hc h
            refine lv_iload_n hx hb dX7_year_26 rfl (lv_at hl 3 rfl) ?_
            refine lv_iconst (v := 2) hx hb dX7_year_27 (by decide) ?_
            refine lv_icmp_le (tgt := 34) hx hb dX7_year_28 (by decide) (fun hc => ?_) (fun hc => ?_)
            · have h := qOk.t hc h
              refine lv_aload_n hx hb dX7_year_34 rfl (lv_at hl 0 rfl) ?_
              refine y_get hx hb hts i_X7 hown hK hH qOb_7 rfl 5 (by decide) f41 rfl dX7_year_35 ?_
              refine lv_aload_n hx hb dX7_year_38 rfl (lv_at hl 0 rfl) ?_
              refine y_get hx hb hts i_X7 hown hK hH qOb_7 rfl 0 (by decide) f10 rfl dX7_year_39 ?_
              refine lv_iload_n hx hb dX7_year_42 rfl (lv_at hl 1 rfl) ?_
              refine lv_iload_n hx hb dX7_year_43 rfl (lv_at hl 2 rfl) ?_
              refine y_cv hH (va_runV (As := [.ref (ad 1), .int x1, .int x2]) (rest := []) ⟨hx, hb, hml, hown, hts⟩ (c_X4_drawActs l G ad hI M _ qMi_1 x1 x2 (qOk.b1 h)) (cwV 3 hts gX7_year_X4_drawActs rfl rfl rfl (by decide +kernel) ⟨Nat.le_of_ble_eq_true rfl, Nat.le_of_ble_eq_true rfl⟩) ⟨qPre.blind, qrecv hK hH qOb_4 rfl, qPre.at hK hH⟩ rfl rfl hl.1 rfl (lv_room (Nat.le_of_ble_eq_true rfl)) dX7_year_44 ⟨Nat.zero_le _, Nat.zero_le _⟩) (fun M1 H locs hH h => ?_)
              refine lv_iload_n hx hb dX7_year_47 rfl (lv_at hl 3 rfl) ?_
              refine lv_if_ne (tgt := 62) hx hb dX7_year_48 (by decide) (fun hc => ?_) (fun hc => ?_)
              · have h := qOk.f hc h
                refine lv_iload_n hx hb dX7_year_62 rfl (lv_at hl 3 rfl) ?_
                refine lv_iconst (v := 2) hx hb dX7_year_63 (by decide) ?_
                refine lv_icmp_ne (tgt := 81) hx hb dX7_year_64 (by decide) (fun hc => ?_) (fun hc => ?_)
                · have h := qOk.f hc h
                  refine lv_aload_n hx hb dX7_year_81 rfl (lv_at hl 0 rfl) ?_
                  refine y_get hx hb hts i_X7 hown hK hH qOb_7 rfl 4 (by decide) f34 rfl dX7_year_82 ?_
                  refine lv_aload_n hx hb dX7_year_85 rfl (lv_at hl 0 rfl) ?_
                  refine y_get hx hb hts i_X7 hown hK hH qOb_7 rfl 5 (by decide) f41 rfl dX7_year_86 ?_
                  refine y_get hx hb hts i_X4 hown hK hH qOb_4 rfl 0 (by decide) f142 rfl dX7_year_89 ?_
                  refine y_cv hH (va_runV (As := [.ref (ad 48)]) (rest := []) ⟨hx, hb, hml, hown, hts⟩ (c_X0_shineOn l G ad hI M1 _ qLa_44 qMi_48 (qOk.b1 h)) (cwV 1 hts gX7_year_X0_shineOn rfl rfl rfl (by decide +kernel) ⟨Nat.le_of_ble_eq_true rfl, Nat.le_of_ble_eq_true rfl⟩) ⟨qPre.blind, qrecv hK hH (qLa_ob qLa_44) rfl, qPre.at hK hH⟩ rfl rfl hl.1 rfl (lv_room (Nat.le_of_ble_eq_true rfl)) dX7_year_92 ⟨Nat.zero_le _, Nat.zero_le _⟩) (fun M2 H locs hH h => ?_)
                  refine lv_aload_n hx hb dX7_year_95 rfl (lv_at hl 0 rfl) ?_
                  refine y_get hx hb hts i_X7 hown hK hH qOb_7 rfl 4 (by decide) f34 rfl dX7_year_96 ?_
                  refine y_get hx hb hts i_X0 hown hK hH (qLa_ob qLa_44) rfl 2 (by decide) f164 rfl dX7_year_99 ?_
                  refine y_cs (va_runS (As := [.int (M2 44 2)]) (rest := []) ⟨hx, hb, hml, hown, hts⟩ (c_J6_bitCount_0f7a4 l (M2 44 2) (qOk.b1 h)) (va_cwS 1 hts gX7_year_J6_bitCount_0f7a4 rfl rfl rfl (by decide +kernel) ⟨Nat.le_of_ble_eq_true rfl, Nat.le_of_ble_eq_true rfl⟩) ⟨qPrT.blind, qPrT.at⟩ rfl rfl hl.1 rfl (lv_room (Nat.le_of_ble_eq_true rfl)) dX7_year_102 ⟨Nat.zero_le _, Nat.zero_le _⟩) (fun v3 h => ?_)
                  exact W.iret hx hb hr (fun t ht _ => ⟨⟨_, _, rfl, qOk2.s h, qHpt ht hH.1⟩, hH.2.F ht⟩) hH.2.2.2 dX7_year_105
                · have h := qOk.t hc h
                  refine lv_aload_n hx hb dX7_year_67 rfl (lv_at hl 0 rfl) ?_
                  refine y_get hx hb hts i_X7 hown hK hH qOb_7 rfl 5 (by decide) f41 rfl dX7_year_68 ?_
                  refine y_get hx hb hts i_X4 hown hK hH qOb_4 rfl 0 (by decide) f142 rfl dX7_year_71 ?_
                  refine y_cs (va_runV (As := []) (rest := []) ⟨hx, hb, hml, hown, hts⟩ (c_X1_singing l G ad hI M1 _ qMi_48 (qOk.b1 h)) (cwV 0 hts gX7_year_X1_singing rfl rfl rfl (by decide +kernel) ⟨Nat.le_of_ble_eq_true rfl, Nat.le_of_ble_eq_true rfl⟩) ⟨qPre.blind, qrecv hK hH (qMi_ob qMi_48) rfl, qPre.at hK hH⟩ rfl rfl hl.1 rfl (lv_room (Nat.le_of_ble_eq_true rfl)) dX7_year_74 ⟨Nat.zero_le _, Nat.zero_le _⟩) (fun v4 h => ?_)
                  refine y_cs (va_runS (As := [.int v4]) (rest := []) ⟨hx, hb, hml, hown, hts⟩ (c_J6_bitCount_0f7a4 l v4 (qOk.b1 h)) (va_cwS 1 hts gX7_year_J6_bitCount_0f7a4 rfl rfl rfl (by decide +kernel) ⟨Nat.le_of_ble_eq_true rfl, Nat.le_of_ble_eq_true rfl⟩) ⟨qPrT.blind, qPrT.at⟩ rfl rfl hl.1 rfl (lv_room (Nat.le_of_ble_eq_true rfl)) dX7_year_77 ⟨Nat.zero_le _, Nat.zero_le _⟩) (fun v5 h => ?_)
                  exact W.iret hx hb hr (fun t ht _ => ⟨⟨_, _, rfl, qOk2.s h, qHpt ht hH.1⟩, hH.2.F ht⟩) hH.2.2.2 dX7_year_80
              · have h := qOk.t hc h
                refine lv_aload_n hx hb dX7_year_51 rfl (lv_at hl 0 rfl) ?_
                refine y_get hx hb hts i_X7 hown hK hH qOb_7 rfl 5 (by decide) f41 rfl dX7_year_52 ?_
                refine y_get hx hb hts i_X4 hown hK hH qOb_4 rfl 0 (by decide) f142 rfl dX7_year_55 ?_
                refine y_cs (va_runV (As := []) (rest := []) ⟨hx, hb, hml, hown, hts⟩ (c_X1_coalInAll l G ad hI M1 _ qMi_48 (qOk.b1 h)) (cwV 0 hts gX7_year_X1_coalInAll rfl rfl rfl (by decide +kernel) ⟨Nat.le_of_ble_eq_true rfl, Nat.le_of_ble_eq_true rfl⟩) ⟨qPre.blind, qrecv hK hH (qMi_ob qMi_48) rfl, qPre.at hK hH⟩ rfl rfl hl.1 rfl (lv_room (Nat.le_of_ble_eq_true rfl)) dX7_year_58 ⟨Nat.zero_le _, Nat.zero_le _⟩) (fun v6 h => ?_)
                exact W.iret hx hb hr (fun t ht _ => ⟨⟨_, _, rfl, qOk2.s h, qHpt ht hH.1⟩, hH.2.F ht⟩) hH.2.2.2 dX7_year_61
            · have h := qOk.f hc h
              refine lv_bipush (v := (-2)) hx hb dX7_year_31 (by decide) ?_
              exact W.iret hx hb hr (fun t ht _ => ⟨⟨_, _, rfl, qOk2.s h, qHpt ht hH.1⟩, hH.2.F ht⟩) hH.2.2.2 dX7_year_33
abbrev rm_X7_image : Room := { frames := 2, cells := 0, slots := 0, locals := 47 }
set_option maxHeartbeats 4000000 in
set_option maxRecDepth 100000 in
theorem c_X7_image (l : Launch) (G : qG) (ad : Nat → Nat) (hI : qI W1N ad) (M : qM) (sz : Nat) (x1 : Int32) {P : Int32 → qM → Prop} (h : qOk2 (kX7_image M x1) P) : Met l yX7_image wsX7_image rm_X7_image (va_Pc [.ref (ad 0), .int x1] (qPre W1N e1 G ad M sz)) (va_Qi P (fun u t => qHp W1N e1 G ad u t.heap) (qA W1N ad sz)) 0 0 (qA W1N ad sz) := by
  refine Met.ofW (cc := cX7_image) (maxL := 2) (ret := (some .int)) (by decide) rfl ?_
  intro p e s m args below meth c s₁ B hml hv
  obtain ⟨rfl, hsz, hK, hP⟩ := hv
  subst hsz
  have hx := B.exec
  have hb := B.bytes
  have hr := B.returns
  have hts := atoms_spec (ws := wsX7_image) B.pre
  have hown : s.vm.findClass RX7 = some m.cls := findClass_of_methodNamed B.named
  have hlocks := B.notSynchronized
  have hH : qHS W1N e1 G ad M s.heap s.heap [] := ⟨hP, va_S.rf⟩
  have f16 : (Cond.fieldLink RX7 16 "SongLamps" "images" "[LSongLamps$Mine;").before [.ref (ad 0), .int x1].toArray s = true := hts _ (by decide +kernel)
  have i_X7 : ∀ w ∈ wsX70, w ∈ wsX7_image := fun w hw => List.mem_cons_of_mem _ ((List.mem_append_left _ (List.mem_append_right _ hw)))
  have f10 : (Cond.fieldLink RX7 10 "SongLamps" "now" "LSongLamps$Mine;").before [.ref (ad 0), .int x1].toArray s = true := hts _ (by decide +kernel)
  have f20 : (Cond.fieldLink RX7 20 "SongLamps" "kept" "[Z").before [.ref (ad 0), .int x1].toArray s = true := hts _ (by decide +kernel)
  have hl := lv_entry ([.ref (ad 0), .int x1]) (n := 2) (Nat.le_of_ble_eq_true rfl)
  rw [lg_entry_eq]
  generalize (lg_sl ([.ref (ad 0), .int x1]) ++ List.replicate (2 - (lg_sl ([.ref (ad 0), .int x1])).length) Slot.unset).toArray = ls at hl ⊢
  have hl : lv_has ls 2 [(0, .ref (ad 0)), (1, .int x1)] := hl
  have h : qOk (kX7_image M x1) _ := h
  unfold kX7_image at h
  refine lv_iload_n hx hb dX7_image_0 rfl (lv_at hl 1 rfl) ?_
  refine lv_if_lt (tgt := 9) hx hb dX7_image_1 (by decide) (fun hc => ?_) (fun hc => ?_)
  · have h := qOk.t hc h
    refine lv_bipush (v := (-2)) hx hb dX7_image_9 (by decide) ?_
    exact W.iret hx hb hr (fun t ht _ => ⟨⟨_, _, rfl, qOk2.s h, qHpt ht hH.1⟩, hH.2.F ht⟩) hH.2.2.2 dX7_image_11
  · have h := qOk.f hc h
    refine lv_iload_n hx hb dX7_image_4 rfl (lv_at hl 1 rfl) ?_
    refine lv_iconst (v := 2) hx hb dX7_image_5 (by decide) ?_
    refine lv_icmp_lt (tgt := 12) hx hb dX7_image_6 (by decide) (fun hc => ?_) (fun hc => ?_)
    · have h := qOk.t hc h
      refine lv_aload_n hx hb dX7_image_12 rfl (lv_at hl 0 rfl) ?_
      refine y_get hx hb hts i_X7 hown hK hH qOb_7 rfl 1 (by decide) f16 rfl dX7_image_13 ?_
      refine lv_iload_n hx hb dX7_image_16 rfl (lv_at hl 1 rfl) ?_
      refine y_aald hx hb hK hH qAo_13 h dX7_image_17 (fun h => ?_)
      refine lv_aload_n hx hb dX7_image_18 rfl (lv_at hl 0 rfl) ?_
      refine y_get hx hb hts i_X7 hown hK hH qOb_7 rfl 0 (by decide) f10 rfl dX7_image_19 ?_
      refine y_cv hH (va_runV (As := [.ref (ad 1)]) (rest := []) ⟨hx, hb, hml, hown, hts⟩ (c_X1_become l G ad hI M _ (qMi_im _) qMi_1 (qOk.b1 h)) (cwV 1 hts gX7_image_X1_become rfl rfl rfl (by decide +kernel) ⟨Nat.le_of_ble_eq_true rfl, Nat.le_of_ble_eq_true rfl⟩) ⟨qPre.blind, qrecv hK hH (qMi_ob (qMi_im _)) rfl, qPre.at hK hH⟩ rfl rfl hl.1 rfl (lv_room (Nat.le_of_ble_eq_true rfl)) dX7_image_22 ⟨Nat.zero_le _, Nat.zero_le _⟩) (fun M1 H locs hH h => ?_)
      refine lv_aload_n hx hb dX7_image_25 rfl (lv_at hl 0 rfl) ?_
      refine y_get hx hb hts i_X7 hown hK hH qOb_7 rfl 2 (by decide) f20 rfl dX7_image_26 ?_
      refine lv_iload_n hx hb dX7_image_29 rfl (lv_at hl 1 rfl) ?_
      refine lv_iconst (v := 1) hx hb dX7_image_30 (by decide) ?_
      refine y_zast hx hb hK hI hH qAz_38 h dX7_image_31 (fun M2 H locs hH h => ?_)
      refine lv_iconst (v := 1) hx hb dX7_image_32 (by decide) ?_
      exact W.iret hx hb hr (fun t ht _ => ⟨⟨_, _, rfl, qOk2.s h, qHpt ht hH.1⟩, hH.2.F ht⟩) hH.2.2.2 dX7_image_33
    · have h := qOk.f hc h
      refine lv_bipush (v := (-2)) hx hb dX7_image_9 (by decide) ?_
      exact W.iret hx hb hr (fun t ht _ => ⟨⟨_, _, rfl, qOk2.s h, qHpt ht hH.1⟩, hH.2.F ht⟩) hH.2.2.2 dX7_image_11
