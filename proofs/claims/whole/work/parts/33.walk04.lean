abbrev rm_X4_whyNotSing : Room := { frames := 2, cells := 0, slots := 0, locals := 42 }
set_option maxHeartbeats 4000000 in
set_option maxRecDepth 100000 in
theorem c_X4_whyNotSing (l : Launch) (G : qG) (ad : Nat → Nat) (hI : qI W1N ad) (M : qM) (sz : Nat) (x1 : Int32) (x2 : Int32) {P : Int32 → Prop} (h : qOk (kX4_whyNotSing M x1 x2) P) : Met l yX4_whyNotSing wsX4_whyNotSing rm_X4_whyNotSing (va_Pc [.ref (ad 47), .int x1, .int x2] (qPre W1N e1 G ad M sz)) (vp_Si P) 0 0 (fun _ => False) := by
  refine Met.ofW (cc := cX4_whyNotSing) (maxL := 3) (ret := (some .int)) (by decide) rfl ?_
  intro p e s m args below meth c s₁ B hml hv
  obtain ⟨rfl, hsz, hK, hP⟩ := hv
  subst hsz
  have hx := B.exec
  have hb := B.bytes
  have hr := B.returns
  have hts := atoms_spec (ws := wsX4_whyNotSing) B.pre
  have hown : s.vm.findClass RX4 = some m.cls := findClass_of_methodNamed B.named
  have hlocks := B.notSynchronized
  have hH : qHS W1N e1 G ad M s.heap s.heap [] := ⟨hP, va_S.rf⟩
  have f12 : (Cond.fieldLink RX4 12 "SongLamps$Trial" "mine" "LSongLamps$Mine;").before [.ref (ad 47), .int x1, .int x2].toArray s = true := hts _ (by decide +kernel)
  have i_X4 : ∀ w ∈ wsX40, w ∈ wsX4_whyNotSing := fun w hw => List.mem_cons_of_mem _ ((List.mem_append_left _ (List.mem_append_right _ hw)))
  have f100 : (Cond.fieldLink RX4 100 "SongLamps$Mine" "low" "[I").before [.ref (ad 47), .int x1, .int x2].toArray s = true := hts _ (by decide +kernel)
  have i_X1 : ∀ w ∈ wsX10, w ∈ wsX4_whyNotSing := fun w hw => List.mem_cons_of_mem _ ((List.mem_append_right _ hw))
  have f103 : (Cond.fieldLink RX4 103 "SongLamps$Mine" "high" "[I").before [.ref (ad 47), .int x1, .int x2].toArray s = true := hts _ (by decide +kernel)
  have f91 : (Cond.fieldLink RX4 91 "SongLamps$Mine" "note" "[I").before [.ref (ad 47), .int x1, .int x2].toArray s = true := hts _ (by decide +kernel)
  have f106 : (Cond.fieldLink RX4 106 "SongLamps$Mine" "breath" "[I").before [.ref (ad 47), .int x1, .int x2].toArray s = true := hts _ (by decide +kernel)
  have hl := lv_entry ([.ref (ad 47), .int x1, .int x2]) (n := 3) (Nat.le_of_ble_eq_true rfl)
  rw [lg_entry_eq]
  generalize (lg_sl ([.ref (ad 47), .int x1, .int x2]) ++ List.replicate (3 - (lg_sl ([.ref (ad 47), .int x1, .int x2])).length) Slot.unset).toArray = ls at hl ⊢
  have hl : lv_has ls 3 [(0, .ref (ad 47)), (1, .int x1), (2, .int x2)] := hl
  have h : qOk (kX4_whyNotSing M x1 x2) _ := h
  unfold kX4_whyNotSing at h
  refine lv_aload_n hx hb dX4_whyNotSing_0 rfl (lv_at hl 0 rfl) ?_
  refine y_get hx hb hts i_X4 hown hK hH qOb_4 rfl 0 (by decide) f12 rfl dX4_whyNotSing_1 ?_
  refine lv_iload_n hx hb dX4_whyNotSing_4 rfl (lv_at hl 1 rfl) ?_
  refine y_cs (va_runV (As := [.int x1]) (rest := []) ⟨hx, hb, hml, hown, hts⟩ (c_X1_isThere l G ad hI M _ qMi_48 x1 (qOk.b1 h)) (cwV 1 hts gX4_whyNotSing_X1_isThere rfl rfl rfl (by decide +kernel) ⟨Nat.le_of_ble_eq_true rfl, Nat.le_of_ble_eq_true rfl⟩) ⟨qPre.blind, qrecv hK hH (qMi_ob qMi_48) rfl, qPre.at hK hH⟩ rfl rfl hl.1 rfl (lv_room (Nat.le_of_ble_eq_true rfl)) dX4_whyNotSing_5 ⟨Nat.zero_le _, Nat.zero_le _⟩) (fun v1 h => ?_)
  refine lv_if_ne (tgt := 13) hx hb dX4_whyNotSing_8 (by decide) (fun hc => ?_) (fun hc => ?_)
  · have h := qOk.f hc h
    refine lv_iload_n hx hb dX4_whyNotSing_13 rfl (lv_at hl 2 rfl) ?_
    refine lv_aload_n hx hb dX4_whyNotSing_14 rfl (lv_at hl 0 rfl) ?_
    refine y_get hx hb hts i_X4 hown hK hH qOb_4 rfl 0 (by decide) f12 rfl dX4_whyNotSing_15 ?_
    refine y_get hx hb hts i_X1 hown hK hH (qMi_ob qMi_48) rfl 8 (by decide) f100 rfl dX4_whyNotSing_18 ?_
    refine lv_iload_n hx hb dX4_whyNotSing_21 rfl (lv_at hl 1 rfl) ?_
    refine y_iald hx hb hK hH (qMi_a4 qMi_48) h dX4_whyNotSing_22 (fun v2 h => ?_)
    refine lv_icmp_lt (tgt := 39) hx hb dX4_whyNotSing_23 (by decide) (fun hc => ?_) (fun hc => ?_)
    · have h := qOk.t hc h
      refine lv_iconst (v := 2) hx hb dX4_whyNotSing_39 (by decide) ?_
      exact W.iret hx hb hr (fun t ht _ => ⟨_, rfl, qOk.s h, ht⟩) (fun _ hq => by cases hq) dX4_whyNotSing_40
    · have h := qOk.f hc h
      refine lv_iload_n hx hb dX4_whyNotSing_26 rfl (lv_at hl 2 rfl) ?_
      refine lv_aload_n hx hb dX4_whyNotSing_27 rfl (lv_at hl 0 rfl) ?_
      refine y_get hx hb hts i_X4 hown hK hH qOb_4 rfl 0 (by decide) f12 rfl dX4_whyNotSing_28 ?_
      refine y_get hx hb hts i_X1 hown hK hH (qMi_ob qMi_48) rfl 9 (by decide) f103 rfl dX4_whyNotSing_31 ?_
      refine lv_iload_n hx hb dX4_whyNotSing_34 rfl (lv_at hl 1 rfl) ?_
      refine y_iald hx hb hK hH (qMi_a5 qMi_48) h dX4_whyNotSing_35 (fun v3 h => ?_)
      refine lv_icmp_le (tgt := 41) hx hb dX4_whyNotSing_36 (by decide) (fun hc => ?_) (fun hc => ?_)
      · have h := qOk.t hc h
        refine lv_aload_n hx hb dX4_whyNotSing_41 rfl (lv_at hl 0 rfl) ?_
        refine y_get hx hb hts i_X4 hown hK hH qOb_4 rfl 0 (by decide) f12 rfl dX4_whyNotSing_42 ?_
        refine y_get hx hb hts i_X1 hown hK hH (qMi_ob qMi_48) rfl 13 (by decide) f91 rfl dX4_whyNotSing_45 ?_
        refine lv_iload_n hx hb dX4_whyNotSing_48 rfl (lv_at hl 1 rfl) ?_
        refine y_iald hx hb hK hH (qMi_a9 qMi_48) h dX4_whyNotSing_49 (fun v4 h => ?_)
        refine lv_iload_n hx hb dX4_whyNotSing_50 rfl (lv_at hl 2 rfl) ?_
        refine lv_icmp_ne (tgt := 56) hx hb dX4_whyNotSing_51 (by decide) (fun hc => ?_) (fun hc => ?_)
        · have h := qOk.f hc h
          refine lv_aload_n hx hb dX4_whyNotSing_56 rfl (lv_at hl 0 rfl) ?_
          refine y_get hx hb hts i_X4 hown hK hH qOb_4 rfl 0 (by decide) f12 rfl dX4_whyNotSing_57 ?_
          refine y_get hx hb hts i_X1 hown hK hH (qMi_ob qMi_48) rfl 11 (by decide) f106 rfl dX4_whyNotSing_60 ?_
          refine lv_iload_n hx hb dX4_whyNotSing_63 rfl (lv_at hl 1 rfl) ?_
          refine y_iald hx hb hK hH (qMi_a7 qMi_48) h dX4_whyNotSing_64 (fun v5 h => ?_)
          refine qj1 (G := fun (v6 : Int32) => W p l e (headSpec wsX4_whyNotSing rm_X4_whyNotSing).room s m [.ref (ad 47), .int x1, .int x2].toArray below meth c s.heap [] 0 0 (MQ below (vp_Si P) [.ref (ad 47), .int x1, .int x2].toArray s 0 0 (fun _ => False)) (F0 m 73 ls [.int v6])) h ?_ ?_
          rotate_left
          · intro h
            refine lv_if_ne (tgt := 72) hx hb dX4_whyNotSing_65 (by decide) (fun hc => ?_) (fun hc => ?_)
            · have h := qOk.f hc h
              refine lv_iconst (v := 0) hx hb dX4_whyNotSing_72 (by decide) ?_
              have h := qOk.s h
              exact h
            · have h := qOk.t hc h
              refine lv_iconst (v := 4) hx hb dX4_whyNotSing_68 (by decide) ?_
              refine lv_goto (tgt := 73) hx hb dX4_whyNotSing_69 (by decide) ?_
              have h := qOk.s h
              exact h
          intro v6 h
          exact W.iret hx hb hr (fun t ht _ => ⟨_, rfl, qOk.s h, ht⟩) (fun _ hq => by cases hq) dX4_whyNotSing_73
        · have h := qOk.t hc h
          refine lv_iconst (v := 3) hx hb dX4_whyNotSing_54 (by decide) ?_
          exact W.iret hx hb hr (fun t ht _ => ⟨_, rfl, qOk.s h, ht⟩) (fun _ hq => by cases hq) dX4_whyNotSing_55
      · have h := qOk.f hc h
        refine lv_iconst (v := 2) hx hb dX4_whyNotSing_39 (by decide) ?_
        exact W.iret hx hb hr (fun t ht _ => ⟨_, rfl, qOk.s h, ht⟩) (fun _ hq => by cases hq) dX4_whyNotSing_40
  · have h := qOk.t hc h
    refine lv_iconst (v := 1) hx hb dX4_whyNotSing_11 (by decide) ?_
    exact W.iret hx hb hr (fun t ht _ => ⟨_, rfl, qOk.s h, ht⟩) (fun _ hq => by cases hq) dX4_whyNotSing_12
abbrev rm_X4_whyNotGo : Room := { frames := 2, cells := 0, slots := 0, locals := 42 }
set_option maxHeartbeats 4000000 in
set_option maxRecDepth 100000 in
theorem c_X4_whyNotGo (l : Launch) (G : qG) (ad : Nat → Nat) (hI : qI W1N ad) (M : qM) (sz : Nat) (x1 : Int32) (x2 : Int32) {P : Int32 → Prop} (h : qOk (kX4_whyNotGo M x1 x2) P) : Met l yX4_whyNotGo wsX4_whyNotGo rm_X4_whyNotGo (va_Pc [.ref (ad 47), .int x1, .int x2] (qPre W1N e1 G ad M sz)) (vp_Si P) 0 0 (fun _ => False) := by
  refine Met.ofW (cc := cX4_whyNotGo) (maxL := 4) (ret := (some .int)) (by decide) rfl ?_
  intro p e s m args below meth c s₁ B hml hv
  obtain ⟨rfl, hsz, hK, hP⟩ := hv
  subst hsz
  have hx := B.exec
  have hb := B.bytes
  have hr := B.returns
  have hts := atoms_spec (ws := wsX4_whyNotGo) B.pre
  have hown : s.vm.findClass RX4 = some m.cls := findClass_of_methodNamed B.named
  have hlocks := B.notSynchronized
  have hH : qHS W1N e1 G ad M s.heap s.heap [] := ⟨hP, va_S.rf⟩
  have f12 : (Cond.fieldLink RX4 12 "SongLamps$Trial" "mine" "LSongLamps$Mine;").before [.ref (ad 47), .int x1, .int x2].toArray s = true := hts _ (by decide +kernel)
  have i_X4 : ∀ w ∈ wsX40, w ∈ wsX4_whyNotGo := fun w hw => List.mem_cons_of_mem _ ((List.mem_append_left _ (List.mem_append_right _ hw)))
  have f109 : (Cond.fieldLink RX4 109 "SongLamps$Mine" "place" "[I").before [.ref (ad 47), .int x1, .int x2].toArray s = true := hts _ (by decide +kernel)
  have i_X1 : ∀ w ∈ wsX10, w ∈ wsX4_whyNotGo := fun w hw => List.mem_cons_of_mem _ ((List.mem_append_right _ hw))
  have f112 : (Cond.fieldLink RX4 112 "SongLamps$Mine" "passages" "[I").before [.ref (ad 47), .int x1, .int x2].toArray s = true := hts _ (by decide +kernel)
  have nS_X7_has : (Cond.static yX7_has).before [.ref (ad 47), .int x1, .int x2].toArray s = true := hts _ (by decide +kernel)
  have nI_X7 : (Cond.initialized RX7).before [.ref (ad 47), .int x1, .int x2].toArray s = true := hts _ (by decide +kernel)
  have f119 : (Cond.fieldLink RX4 119 "SongLamps$Mine" "closed" "I").before [.ref (ad 47), .int x1, .int x2].toArray s = true := hts _ (by decide +kernel)
  have hl := lv_entry ([.ref (ad 47), .int x1, .int x2]) (n := 4) (Nat.le_of_ble_eq_true rfl)
  rw [lg_entry_eq]
  generalize (lg_sl ([.ref (ad 47), .int x1, .int x2]) ++ List.replicate (4 - (lg_sl ([.ref (ad 47), .int x1, .int x2])).length) Slot.unset).toArray = ls at hl ⊢
  have hl : lv_has ls 4 [(0, .ref (ad 47)), (1, .int x1), (2, .int x2)] := hl
  have h : qOk (kX4_whyNotGo M x1 x2) _ := h
  unfold kX4_whyNotGo at h
  refine lv_aload_n hx hb dX4_whyNotGo_0 rfl (lv_at hl 0 rfl) ?_
  refine y_get hx hb hts i_X4 hown hK hH qOb_4 rfl 0 (by decide) f12 rfl dX4_whyNotGo_1 ?_
  refine lv_iload_n hx hb dX4_whyNotGo_4 rfl (lv_at hl 1 rfl) ?_
  refine y_cs (va_runV (As := [.int x1]) (rest := []) ⟨hx, hb, hml, hown, hts⟩ (c_X1_isThere l G ad hI M _ qMi_48 x1 (qOk.b1 h)) (cwV 1 hts gX4_whyNotGo_X1_isThere rfl rfl rfl (by decide +kernel) ⟨Nat.le_of_ble_eq_true rfl, Nat.le_of_ble_eq_true rfl⟩) ⟨qPre.blind, qrecv hK hH (qMi_ob qMi_48) rfl, qPre.at hK hH⟩ rfl rfl hl.1 rfl (lv_room (Nat.le_of_ble_eq_true rfl)) dX4_whyNotGo_5 ⟨Nat.zero_le _, Nat.zero_le _⟩) (fun v1 h => ?_)
  refine lv_if_ne (tgt := 13) hx hb dX4_whyNotGo_8 (by decide) (fun hc => ?_) (fun hc => ?_)
  · have h := qOk.f hc h
    refine lv_aload_n hx hb dX4_whyNotGo_13 rfl (lv_at hl 0 rfl) ?_
    refine y_get hx hb hts i_X4 hown hK hH qOb_4 rfl 0 (by decide) f12 rfl dX4_whyNotGo_14 ?_
    refine y_get hx hb hts i_X1 hown hK hH (qMi_ob qMi_48) rfl 12 (by decide) f109 rfl dX4_whyNotGo_17 ?_
    refine lv_iload_n hx hb dX4_whyNotGo_20 rfl (lv_at hl 1 rfl) ?_
    refine y_iald hx hb hK hH (qMi_a8 qMi_48) h dX4_whyNotGo_21 (fun v2 h => ?_)
    refine lv_istore_n (lv' := [(3, .int v2), (0, .ref (ad 47)), (1, .int x1), (2, .int x2)]) hx hb dX4_whyNotGo_22 rfl hl (by decide) rfl (fun ls hl => ?_)
    refine lv_aload_n hx hb dX4_whyNotGo_23 rfl (lv_at hl 1 rfl) ?_
    refine y_get hx hb hts i_X4 hown hK hH qOb_4 rfl 0 (by decide) f12 rfl dX4_whyNotGo_24 ?_
    refine y_get hx hb hts i_X1 hown hK hH (qMi_ob qMi_48) rfl 0 (by decide) f112 rfl dX4_whyNotGo_27 ?_
    refine lv_iload_n hx hb dX4_whyNotGo_30 rfl (lv_at hl 0 rfl) ?_
    refine y_iald hx hb hK hH (qMi_a1 qMi_48) h dX4_whyNotGo_31 (fun v3 h => ?_)
    refine lv_iload_n hx hb dX4_whyNotGo_32 rfl (lv_at hl 3 rfl) ?_
    refine y_cs (va_runSN (host := "SongLamps") (As := [.int v3, .int x2]) (rest := []) ⟨hx, hb, hml, hown, hts⟩ (c_X7_has l v3 x2 (qOk.b1 h)) ⟨va_cnB 2 hts gX4_whyNotGo_X7_has_n115 rfl rfl rfl (hK.2 (RX4, 115, yX7_has, "SongLamps") (List.mem_of_getElem? (i := 7) rfl)) nI_X7 (by decide +kernel) ⟨Nat.le_of_ble_eq_true rfl, Nat.le_of_ble_eq_true rfl⟩, nS_X7_has, trivial⟩ ⟨qPrT.blind, qPrT.at⟩ rfl rfl hl.1 rfl (lv_room (Nat.le_of_ble_eq_true rfl)) dX4_whyNotGo_33 ⟨Nat.zero_le _, Nat.zero_le _⟩) (fun v4 h => ?_)
    refine lv_if_ne (tgt := 41) hx hb dX4_whyNotGo_36 (by decide) (fun hc => ?_) (fun hc => ?_)
    · have h := qOk.f hc h
      refine lv_aload_n hx hb dX4_whyNotGo_41 rfl (lv_at hl 1 rfl) ?_
      refine y_get hx hb hts i_X4 hown hK hH qOb_4 rfl 0 (by decide) f12 rfl dX4_whyNotGo_42 ?_
      refine y_get hx hb hts i_X1 hown hK hH (qMi_ob qMi_48) rfl 4 (by decide) f119 rfl dX4_whyNotGo_45 ?_
      refine lv_iload_n hx hb dX4_whyNotGo_48 rfl (lv_at hl 0 rfl) ?_
      refine y_cs (va_runSN (host := "SongLamps") (As := [.int (M 48 4), .int v2]) (rest := []) ⟨hx, hb, hml, hown, hts⟩ (c_X7_has l (M 48 4) v2 (qOk.b1 h)) ⟨va_cnB 2 hts gX4_whyNotGo_X7_has_n115 rfl rfl rfl (hK.2 (RX4, 115, yX7_has, "SongLamps") (List.mem_of_getElem? (i := 7) rfl)) nI_X7 (by decide +kernel) ⟨Nat.le_of_ble_eq_true rfl, Nat.le_of_ble_eq_true rfl⟩, nS_X7_has, trivial⟩ ⟨qPrT.blind, qPrT.at⟩ rfl rfl hl.1 rfl (lv_room (Nat.le_of_ble_eq_true rfl)) dX4_whyNotGo_49 ⟨Nat.zero_le _, Nat.zero_le _⟩) (fun v5 h => ?_)
      refine qj1 (G := fun (v6 : Int32) => W p l e (headSpec wsX4_whyNotGo rm_X4_whyNotGo).room s m [.ref (ad 47), .int x1, .int x2].toArray below meth c s.heap [] 0 0 (MQ below (vp_Si P) [.ref (ad 47), .int x1, .int x2].toArray s 0 0 (fun _ => False)) (F0 m 75 ls [.int v6])) h ?_ ?_
      rotate_left
      · intro h
        refine lv_if_ne (tgt := 69) hx hb dX4_whyNotGo_52 (by decide) (fun hc => ?_) (fun hc => ?_)
        · have h := qOk.f hc h
          refine lv_bipush (v := 6) hx hb dX4_whyNotGo_69 (by decide) ?_
          refine lv_goto (tgt := 75) hx hb dX4_whyNotGo_71 (by decide) ?_
          have h := qOk.s h
          exact h
        · have h := qOk.t hc h
          refine lv_aload_n hx hb dX4_whyNotGo_55 rfl (lv_at hl 1 rfl) ?_
          refine y_get hx hb hts i_X4 hown hK hH qOb_4 rfl 0 (by decide) f12 rfl dX4_whyNotGo_56 ?_
          refine y_get hx hb hts i_X1 hown hK hH (qMi_ob qMi_48) rfl 4 (by decide) f119 rfl dX4_whyNotGo_59 ?_
          refine lv_iload_n hx hb dX4_whyNotGo_62 rfl (lv_at hl 3 rfl) ?_
          refine y_cs (va_runSN (host := "SongLamps") (As := [.int (M 48 4), .int x2]) (rest := []) ⟨hx, hb, hml, hown, hts⟩ (c_X7_has l (M 48 4) x2 (qOk.b1 h)) ⟨va_cnB 2 hts gX4_whyNotGo_X7_has_n115 rfl rfl rfl (hK.2 (RX4, 115, yX7_has, "SongLamps") (List.mem_of_getElem? (i := 7) rfl)) nI_X7 (by decide +kernel) ⟨Nat.le_of_ble_eq_true rfl, Nat.le_of_ble_eq_true rfl⟩, nS_X7_has, trivial⟩ ⟨qPrT.blind, qPrT.at⟩ rfl rfl hl.1 rfl (lv_room (Nat.le_of_ble_eq_true rfl)) dX4_whyNotGo_63 ⟨Nat.zero_le _, Nat.zero_le _⟩) (fun v7 h => ?_)
          refine lv_if_eq (tgt := 74) hx hb dX4_whyNotGo_66 (by decide) (fun hc => ?_) (fun hc => ?_)
          · have h := qOk.t hc h
            refine lv_iconst (v := 0) hx hb dX4_whyNotGo_74 (by decide) ?_
            have h := qOk.s h
            exact h
          · have h := qOk.f hc h
            refine lv_bipush (v := 6) hx hb dX4_whyNotGo_69 (by decide) ?_
            refine lv_goto (tgt := 75) hx hb dX4_whyNotGo_71 (by decide) ?_
            have h := qOk.s h
            exact h
      intro v6 h
      exact W.iret hx hb hr (fun t ht _ => ⟨_, rfl, qOk.s h, ht⟩) (fun _ hq => by cases hq) dX4_whyNotGo_75
    · have h := qOk.t hc h
      refine lv_iconst (v := 5) hx hb dX4_whyNotGo_39 (by decide) ?_
      exact W.iret hx hb hr (fun t ht _ => ⟨_, rfl, qOk.s h, ht⟩) (fun _ hq => by cases hq) dX4_whyNotGo_40
  · have h := qOk.t hc h
    refine lv_iconst (v := 1) hx hb dX4_whyNotGo_11 (by decide) ?_
    exact W.iret hx hb hr (fun t ht _ => ⟨_, rfl, qOk.s h, ht⟩) (fun _ hq => by cases hq) dX4_whyNotGo_12
abbrev rm_X4_whyNot : Room := { frames := 3, cells := 0, slots := 0, locals := 65 }
set_option maxHeartbeats 4000000 in
set_option maxRecDepth 100000 in
theorem c_X4_whyNot (l : Launch) (G : qG) (ad : Nat → Nat) (hI : qI W1N ad) (M : qM) (sz : Nat) (x1 : Int32) (x2 : Int32) (x3 : Int32) {P : Int32 → Prop} (h : qOk (kX4_whyNot M x1 x2 x3) P) : Met l yX4_whyNot wsX4_whyNot rm_X4_whyNot (va_Pc [.ref (ad 47), .int x1, .int x2, .int x3] (qPre W1N e1 G ad M sz)) (vp_Si P) 0 0 (fun _ => False) := by
  refine Met.ofW (cc := cX4_whyNot) (maxL := 4) (ret := (some .int)) (by decide) rfl ?_
  intro p e s m args below meth c s₁ B hml hv
  obtain ⟨rfl, hsz, hK, hP⟩ := hv
  subst hsz
  have hx := B.exec
  have hb := B.bytes
  have hr := B.returns
  have hts := atoms_spec (ws := wsX4_whyNot) B.pre
  have hown : s.vm.findClass RX4 = some m.cls := findClass_of_methodNamed B.named
  have hlocks := B.notSynchronized
  have hH : qHS W1N e1 G ad M s.heap s.heap [] := ⟨hP, va_S.rf⟩
  have f12 : (Cond.fieldLink RX4 12 "SongLamps$Trial" "mine" "LSongLamps$Mine;").before [.ref (ad 47), .int x1, .int x2, .int x3].toArray s = true := hts _ (by decide +kernel)
  have i_X4 : ∀ w ∈ wsX40, w ∈ wsX4_whyNot := fun w hw => List.mem_cons_of_mem _ ((List.mem_append_left _ (List.mem_append_right _ hw)))
  have f91 : (Cond.fieldLink RX4 91 "SongLamps$Mine" "note" "[I").before [.ref (ad 47), .int x1, .int x2, .int x3].toArray s = true := hts _ (by decide +kernel)
  have i_X1 : ∀ w ∈ wsX10, w ∈ wsX4_whyNot := fun w hw => List.mem_cons_of_mem _ ((List.mem_append_right _ hw))
  have f97 : (Cond.fieldLink RX4 97 "SongLamps$Mine" "beat" "I").before [.ref (ad 47), .int x1, .int x2, .int x3].toArray s = true := hts _ (by decide +kernel)
  have hl := lv_entry ([.ref (ad 47), .int x1, .int x2, .int x3]) (n := 4) (Nat.le_of_ble_eq_true rfl)
  rw [lg_entry_eq]
  generalize (lg_sl ([.ref (ad 47), .int x1, .int x2, .int x3]) ++ List.replicate (4 - (lg_sl ([.ref (ad 47), .int x1, .int x2, .int x3])).length) Slot.unset).toArray = ls at hl ⊢
  have hl : lv_has ls 4 [(0, .ref (ad 47)), (1, .int x1), (2, .int x2), (3, .int x3)] := hl
  have h : qOk (kX4_whyNot M x1 x2 x3) _ := h
  unfold kX4_whyNot at h
  refine lv_iload_n hx hb dX4_whyNot_0 rfl (lv_at hl 1 rfl) ?_
  by_cases c0 : x1 = 0
  · have h := qOk.t c0 h
    refine lv_tableIn (tgt := 36) hx hb dX4_whyNot_1 (by rw [c0]; decide) (by rw [c0]; decide) (by rw [c0]; rfl) (by decide) ?_
    refine lv_aload_n hx hb dX4_whyNot_36 rfl (lv_at hl 0 rfl) ?_
    refine lv_iload_n hx hb dX4_whyNot_37 rfl (lv_at hl 2 rfl) ?_
    refine lv_iload_n hx hb dX4_whyNot_38 rfl (lv_at hl 3 rfl) ?_
    refine y_cs (va_runV (As := [.int x2, .int x3]) (rest := []) ⟨hx, hb, hml, hown, hts⟩ (c_X4_whyNotSing l G ad hI M _ x2 x3 (qOk.b1 h)) (cwV 2 hts gX4_whyNot_X4_whyNotSing rfl rfl rfl (by decide +kernel) ⟨Nat.le_of_ble_eq_true rfl, Nat.le_of_ble_eq_true rfl⟩) ⟨qPre.blind, qrecv hK hH qOb_4 rfl, qPre.at hK hH⟩ rfl rfl hl.1 rfl (lv_room (Nat.le_of_ble_eq_true rfl)) dX4_whyNot_39 ⟨Nat.zero_le _, Nat.zero_le _⟩) (fun v1 h => ?_)
    exact W.iret hx hb hr (fun t ht _ => ⟨_, rfl, qOk.s h, ht⟩) (fun _ hq => by cases hq) dX4_whyNot_42
  have h := qOk.f c0 h
  by_cases c1 : x1 = 1
  · have h := qOk.t c1 h
    refine lv_tableIn (tgt := 43) hx hb dX4_whyNot_1 (by rw [c1]; decide) (by rw [c1]; decide) (by rw [c1]; rfl) (by decide) ?_
    refine lv_aload_n hx hb dX4_whyNot_43 rfl (lv_at hl 0 rfl) ?_
    refine y_get hx hb hts i_X4 hown hK hH qOb_4 rfl 0 (by decide) f12 rfl dX4_whyNot_44 ?_
    refine lv_iload_n hx hb dX4_whyNot_47 rfl (lv_at hl 2 rfl) ?_
    refine y_cs (va_runV (As := [.int x2]) (rest := []) ⟨hx, hb, hml, hown, hts⟩ (c_X1_isThere l G ad hI M _ qMi_48 x2 (qOk.b1 h)) (cwV 1 hts gX4_whyNot_X1_isThere rfl rfl rfl (by decide +kernel) ⟨Nat.le_of_ble_eq_true rfl, Nat.le_of_ble_eq_true rfl⟩) ⟨qPre.blind, qrecv hK hH (qMi_ob qMi_48) rfl, qPre.at hK hH⟩ rfl rfl hl.1 rfl (lv_room (Nat.le_of_ble_eq_true rfl)) dX4_whyNot_48 ⟨Nat.zero_le _, Nat.zero_le _⟩) (fun v2 h => ?_)
    refine qj1 (G := fun (v3 : Int32) => W p l e (headSpec wsX4_whyNot rm_X4_whyNot).room s m [.ref (ad 47), .int x1, .int x2, .int x3].toArray below meth c s.heap [] 0 0 (MQ below (vp_Si P) [.ref (ad 47), .int x1, .int x2, .int x3].toArray s 0 0 (fun _ => False)) (F0 m 76 ls [.int v3])) h ?_ ?_
    rotate_left
    · intro h
      refine lv_if_ne (tgt := 58) hx hb dX4_whyNot_51 (by decide) (fun hc => ?_) (fun hc => ?_)
      · have h := qOk.f hc h
        refine lv_aload_n hx hb dX4_whyNot_58 rfl (lv_at hl 0 rfl) ?_
        refine y_get hx hb hts i_X4 hown hK hH qOb_4 rfl 0 (by decide) f12 rfl dX4_whyNot_59 ?_
        refine y_get hx hb hts i_X1 hown hK hH (qMi_ob qMi_48) rfl 13 (by decide) f91 rfl dX4_whyNot_62 ?_
        refine lv_iload_n hx hb dX4_whyNot_65 rfl (lv_at hl 2 rfl) ?_
        refine y_iald hx hb hK hH (qMi_a9 qMi_48) h dX4_whyNot_66 (fun v4 h => ?_)
        refine lv_iconst (v := (-1)) hx hb dX4_whyNot_67 (by decide) ?_
        refine lv_icmp_ne (tgt := 75) hx hb dX4_whyNot_68 (by decide) (fun hc => ?_) (fun hc => ?_)
        · have h := qOk.f hc h
          refine lv_iconst (v := 0) hx hb dX4_whyNot_75 (by decide) ?_
          have h := qOk.s h
          exact h
        · have h := qOk.t hc h
          refine lv_iconst (v := 3) hx hb dX4_whyNot_71 (by decide) ?_
          refine lv_goto (tgt := 76) hx hb dX4_whyNot_72 (by decide) ?_
          have h := qOk.s h
          exact h
      · have h := qOk.t hc h
        refine lv_iconst (v := 1) hx hb dX4_whyNot_54 (by decide) ?_
        refine lv_goto (tgt := 76) hx hb dX4_whyNot_55 (by decide) ?_
        have h := qOk.s h
        exact h
    intro v3 h
    exact W.iret hx hb hr (fun t ht _ => ⟨_, rfl, qOk.s h, ht⟩) (fun _ hq => by cases hq) dX4_whyNot_76
  have h := qOk.f c1 h
  by_cases c2 : x1 = 2
  · have h := qOk.t c2 h
    refine lv_tableIn (tgt := 77) hx hb dX4_whyNot_1 (by rw [c2]; decide) (by rw [c2]; decide) (by rw [c2]; rfl) (by decide) ?_
    refine lv_aload_n hx hb dX4_whyNot_77 rfl (lv_at hl 0 rfl) ?_
    refine lv_iload_n hx hb dX4_whyNot_78 rfl (lv_at hl 2 rfl) ?_
    refine lv_iload_n hx hb dX4_whyNot_79 rfl (lv_at hl 3 rfl) ?_
    refine y_cs (va_runV (As := [.int x2, .int x3]) (rest := []) ⟨hx, hb, hml, hown, hts⟩ (c_X4_whyNotGo l G ad hI M _ x2 x3 (qOk.b1 h)) (cwV 2 hts gX4_whyNot_X4_whyNotGo rfl rfl rfl (by decide +kernel) ⟨Nat.le_of_ble_eq_true rfl, Nat.le_of_ble_eq_true rfl⟩) ⟨qPre.blind, qrecv hK hH qOb_4 rfl, qPre.at hK hH⟩ rfl rfl hl.1 rfl (lv_room (Nat.le_of_ble_eq_true rfl)) dX4_whyNot_80 ⟨Nat.zero_le _, Nat.zero_le _⟩) (fun v5 h => ?_)
    exact W.iret hx hb hr (fun t ht _ => ⟨_, rfl, qOk.s h, ht⟩) (fun _ hq => by cases hq) dX4_whyNot_83
  have h := qOk.f c2 h
  by_cases c4 : x1 = 4
  · have h := qOk.t c4 h
    refine lv_tableIn (tgt := 84) hx hb dX4_whyNot_1 (by rw [c4]; decide) (by rw [c4]; decide) (by rw [c4]; rfl) (by decide) ?_
    refine lv_aload_n hx hb dX4_whyNot_84 rfl (lv_at hl 0 rfl) ?_
    refine y_get hx hb hts i_X4 hown hK hH qOb_4 rfl 0 (by decide) f12 rfl dX4_whyNot_85 ?_
    refine y_get hx hb hts i_X1 hown hK hH (qMi_ob qMi_48) rfl 6 (by decide) f97 rfl dX4_whyNot_88 ?_
    refine lv_sipush (v := 999) hx hb dX4_whyNot_91 (by decide) ?_
    refine qj1 (G := fun (v6 : Int32) => W p l e (headSpec wsX4_whyNot rm_X4_whyNot).room s m [.ref (ad 47), .int x1, .int x2, .int x3].toArray below meth c s.heap [] 0 0 (MQ below (vp_Si P) [.ref (ad 47), .int x1, .int x2, .int x3].toArray s 0 0 (fun _ => False)) (F0 m 103 ls [.int v6])) h ?_ ?_
    rotate_left
    · intro h
      refine lv_icmp_lt (tgt := 102) hx hb dX4_whyNot_94 (by decide) (fun hc => ?_) (fun hc => ?_)
      · have h := qOk.t hc h
        refine lv_iconst (v := 0) hx hb dX4_whyNot_102 (by decide) ?_
        have h := qOk.s h
        exact h
      · have h := qOk.f hc h
        refine lv_bipush (v := 7) hx hb dX4_whyNot_97 (by decide) ?_
        refine lv_goto (tgt := 103) hx hb dX4_whyNot_99 (by decide) ?_
        have h := qOk.s h
        exact h
    intro v6 h
    exact W.iret hx hb hr (fun t ht _ => ⟨_, rfl, qOk.s h, ht⟩) (fun _ hq => by cases hq) dX4_whyNot_103
  have h := qOk.f c4 h
  by_cases c3 : x1 = 3
  · refine lv_tableIn (tgt := 104) hx hb dX4_whyNot_1 (by rw [c3]; decide) (by rw [c3]; decide) (by rw [c3]; rfl) (by decide) ?_
    refine lv_iconst (v := 0) hx hb dX4_whyNot_104 (by decide) ?_
    exact W.iret hx hb hr (fun t ht _ => ⟨_, rfl, qOk.s h, ht⟩) (fun _ hq => by cases hq) dX4_whyNot_105
  have n0 := lv_neT c0 (a := 0) rfl
  have n1 := lv_neT c1 (a := 1) rfl
  have n2 := lv_neT c2 (a := 2) rfl
  have n3 := lv_neT c3 (a := 3) rfl
  have n4 := lv_neT c4 (a := 4) rfl
  refine lv_tableOut (tgt := 104) hx hb dX4_whyNot_1 (by omega) (by decide) ?_
  refine lv_iconst (v := 0) hx hb dX4_whyNot_104 (by decide) ?_
  exact W.iret hx hb hr (fun t ht _ => ⟨_, rfl, qOk.s h, ht⟩) (fun _ hq => by cases hq) dX4_whyNot_105
abbrev rm_X4_spendBreath : Room := { frames := 0, cells := 0, slots := 0, locals := 0 }
set_option maxHeartbeats 4000000 in
set_option maxRecDepth 100000 in
theorem c_X4_spendBreath (l : Launch) (G : qG) (ad : Nat → Nat) (hI : qI W1N ad) (M : qM) (sz : Nat) (x1 : Int32) {P : qM → Prop} (h : qOk (kX4_spendBreath M x1) P) : Met l yX4_spendBreath wsX4_spendBreath rm_X4_spendBreath (va_Pc [.ref (ad 47), .int x1] (qPre W1N e1 G ad M sz)) (va_Qv P (fun u t => qHp W1N e1 G ad u t.heap) (qA W1N ad sz)) 0 0 (qA W1N ad sz) := by
  refine Met.ofW (cc := cX4_spendBreath) (maxL := 2) (ret := none) (by decide) rfl ?_
  intro p e s m args below meth c s₁ B hml hv
  obtain ⟨rfl, hsz, hK, hP⟩ := hv
  subst hsz
  have hx := B.exec
  have hb := B.bytes
  have hr := B.returns
  have hts := atoms_spec (ws := wsX4_spendBreath) B.pre
  have hown : s.vm.findClass RX4 = some m.cls := findClass_of_methodNamed B.named
  have hlocks := B.notSynchronized
  have hH : qHS W1N e1 G ad M s.heap s.heap [] := ⟨hP, va_S.rf⟩
  have f12 : (Cond.fieldLink RX4 12 "SongLamps$Trial" "mine" "LSongLamps$Mine;").before [.ref (ad 47), .int x1].toArray s = true := hts _ (by decide +kernel)
  have i_X4 : ∀ w ∈ wsX40, w ∈ wsX4_spendBreath := fun w hw => List.mem_cons_of_mem _ ((List.mem_append_left _ (List.mem_append_right _ hw)))
  have f106 : (Cond.fieldLink RX4 106 "SongLamps$Mine" "breath" "[I").before [.ref (ad 47), .int x1].toArray s = true := hts _ (by decide +kernel)
  have i_X1 : ∀ w ∈ wsX10, w ∈ wsX4_spendBreath := fun w hw => List.mem_cons_of_mem _ ((List.mem_append_right _ hw))
  have f91 : (Cond.fieldLink RX4 91 "SongLamps$Mine" "note" "[I").before [.ref (ad 47), .int x1].toArray s = true := hts _ (by decide +kernel)
  have hl := lv_entry ([.ref (ad 47), .int x1]) (n := 2) (Nat.le_of_ble_eq_true rfl)
  rw [lg_entry_eq]
  generalize (lg_sl ([.ref (ad 47), .int x1]) ++ List.replicate (2 - (lg_sl ([.ref (ad 47), .int x1])).length) Slot.unset).toArray = ls at hl ⊢
  have hl : lv_has ls 2 [(0, .ref (ad 47)), (1, .int x1)] := hl
  have h : qOk (kX4_spendBreath M x1) _ := h
  unfold kX4_spendBreath at h
  refine lv_aload_n hx hb dX4_spendBreath_0 rfl (lv_at hl 0 rfl) ?_
  refine y_get hx hb hts i_X4 hown hK hH qOb_4 rfl 0 (by decide) f12 rfl dX4_spendBreath_1 ?_
  refine y_get hx hb hts i_X1 hown hK hH (qMi_ob qMi_48) rfl 11 (by decide) f106 rfl dX4_spendBreath_4 ?_
  refine lv_iload_n hx hb dX4_spendBreath_7 rfl (lv_at hl 1 rfl) ?_
  refine lv_dup2_11 hx hb dX4_spendBreath_8 rfl rfl ?_
  refine y_iald hx hb hK hH (qMi_a7 qMi_48) h dX4_spendBreath_9 (fun v1 h => ?_)
  refine lv_iconst (v := 1) hx hb dX4_spendBreath_10 (by decide) ?_
  refine lv_isub hx hb dX4_spendBreath_11 ?_
  refine y_iast hx hb hK hI hH (qMi_a7 qMi_48) h dX4_spendBreath_12 (fun M2 H locs hH h => ?_)
  refine lv_aload_n hx hb dX4_spendBreath_13 rfl (lv_at hl 0 rfl) ?_
  refine y_get hx hb hts i_X4 hown hK hH qOb_4 rfl 0 (by decide) f12 rfl dX4_spendBreath_14 ?_
  refine y_get hx hb hts i_X1 hown hK hH (qMi_ob qMi_48) rfl 11 (by decide) f106 rfl dX4_spendBreath_17 ?_
  refine lv_iload_n hx hb dX4_spendBreath_20 rfl (lv_at hl 1 rfl) ?_
  refine y_iald hx hb hK hH (qMi_a7 qMi_48) h dX4_spendBreath_21 (fun v3 h => ?_)
  refine qj1 (G := fun (M4 : qM) => ∀ (H : Heap) (locs : List Loc), qHS W1N e1 G ad M4 s.heap H locs → W p l e (headSpec wsX4_spendBreath rm_X4_spendBreath).room s m [.ref (ad 47), .int x1].toArray below meth c H locs 0 0 (MQ below (va_Qv P (fun u t => qHp W1N e1 G ad u t.heap) (qA W1N ad s.heap.size)) [.ref (ad 47), .int x1].toArray s 0 0 (qA W1N ad s.heap.size)) (F0 m 45 ls [])) h ?_ ?_
  rotate_left
  · intro h
    refine lv_if_gt (tgt := 45) hx hb dX4_spendBreath_22 (by decide) (fun hc => ?_) (fun hc => ?_)
    · have h := qOk.t hc h
      have h := qOk.s h
      exact h _ _ hH
    · have h := qOk.f hc h
      refine lv_aload_n hx hb dX4_spendBreath_25 rfl (lv_at hl 0 rfl) ?_
      refine y_get hx hb hts i_X4 hown hK hH qOb_4 rfl 0 (by decide) f12 rfl dX4_spendBreath_26 ?_
      refine y_get hx hb hts i_X1 hown hK hH (qMi_ob qMi_48) rfl 11 (by decide) f106 rfl dX4_spendBreath_29 ?_
      refine lv_iload_n hx hb dX4_spendBreath_32 rfl (lv_at hl 1 rfl) ?_
      refine lv_iconst (v := 0) hx hb dX4_spendBreath_33 (by decide) ?_
      refine y_iast hx hb hK hI hH (qMi_a7 qMi_48) h dX4_spendBreath_34 (fun M5 H locs hH h => ?_)
      refine lv_aload_n hx hb dX4_spendBreath_35 rfl (lv_at hl 0 rfl) ?_
      refine y_get hx hb hts i_X4 hown hK hH qOb_4 rfl 0 (by decide) f12 rfl dX4_spendBreath_36 ?_
      refine y_get hx hb hts i_X1 hown hK hH (qMi_ob qMi_48) rfl 13 (by decide) f91 rfl dX4_spendBreath_39 ?_
      refine lv_iload_n hx hb dX4_spendBreath_42 rfl (lv_at hl 1 rfl) ?_
      refine lv_iconst (v := (-1)) hx hb dX4_spendBreath_43 (by decide) ?_
      refine y_iast hx hb hK hI hH (qMi_a9 qMi_48) h dX4_spendBreath_44 (fun M6 H locs hH h => ?_)
      have h := qOk.s h
      exact h _ _ hH
  intro M4 h H locs hH
  exact W.vret hx hb hr (fun t ht _ => ⟨⟨_, rfl, qOk.s h, qHpt ht hH.1⟩, hH.2.F ht⟩) hH.2.2.2 dX4_spendBreath_45
abbrev rm_X4_cutCoal : Room := { frames := 0, cells := 0, slots := 0, locals := 0 }
set_option maxHeartbeats 4000000 in
set_option maxRecDepth 100000 in
theorem c_X4_cutCoal (l : Launch) (G : qG) (ad : Nat → Nat) (hI : qI W1N ad) (M : qM) (sz : Nat) (x1 : Int32) {P : qM → Prop} (h : qOk (kX4_cutCoal M x1) P) : Met l yX4_cutCoal wsX4_cutCoal rm_X4_cutCoal (va_Pc [.ref (ad 47), .int x1] (qPre W1N e1 G ad M sz)) (va_Qv P (fun u t => qHp W1N e1 G ad u t.heap) (qA W1N ad sz)) 0 0 (qA W1N ad sz) := by
  refine Met.ofW (cc := cX4_cutCoal) (maxL := 4) (ret := none) (by decide) rfl ?_
  intro p e s m args below meth c s₁ B hml hv
  obtain ⟨rfl, hsz, hK, hP⟩ := hv
  subst hsz
  have hx := B.exec
  have hb := B.bytes
  have hr := B.returns
  have hts := atoms_spec (ws := wsX4_cutCoal) B.pre
  have hown : s.vm.findClass RX4 = some m.cls := findClass_of_methodNamed B.named
  have hlocks := B.notSynchronized
  have hH : qHS W1N e1 G ad M s.heap s.heap [] := ⟨hP, va_S.rf⟩
  have f12 : (Cond.fieldLink RX4 12 "SongLamps$Trial" "mine" "LSongLamps$Mine;").before [.ref (ad 47), .int x1].toArray s = true := hts _ (by decide +kernel)
  have i_X4 : ∀ w ∈ wsX40, w ∈ wsX4_cutCoal := fun w hw => List.mem_cons_of_mem _ ((List.mem_append_left _ (List.mem_append_left _ (List.mem_append_right _ hw))))
  have f109 : (Cond.fieldLink RX4 109 "SongLamps$Mine" "place" "[I").before [.ref (ad 47), .int x1].toArray s = true := hts _ (by decide +kernel)
  have i_X1 : ∀ w ∈ wsX10, w ∈ wsX4_cutCoal := fun w hw => List.mem_cons_of_mem _ ((List.mem_append_left _ (List.mem_append_right _ hw)))
  have f34 : (Cond.fieldLink RX4 34 "SongLamps$Trial" "lamps" "LSongLamps$Lamps;").before [.ref (ad 47), .int x1].toArray s = true := hts _ (by decide +kernel)
  have f143 : (Cond.fieldLink RX4 143 "SongLamps$Lamps" "full" "[I").before [.ref (ad 47), .int x1].toArray s = true := hts _ (by decide +kernel)
  have i_X0 : ∀ w ∈ wsX00, w ∈ wsX4_cutCoal := fun w hw => List.mem_cons_of_mem _ ((List.mem_append_right _ hw))
  have f146 : (Cond.fieldLink RX4 146 "SongLamps$Mine" "coal" "[I").before [.ref (ad 47), .int x1].toArray s = true := hts _ (by decide +kernel)
  have hl := lv_entry ([.ref (ad 47), .int x1]) (n := 4) (Nat.le_of_ble_eq_true rfl)
  rw [lg_entry_eq]
  generalize (lg_sl ([.ref (ad 47), .int x1]) ++ List.replicate (4 - (lg_sl ([.ref (ad 47), .int x1])).length) Slot.unset).toArray = ls at hl ⊢
  have hl : lv_has ls 4 [(0, .ref (ad 47)), (1, .int x1)] := hl
  have h : qOk (kX4_cutCoal M x1) _ := h
  unfold kX4_cutCoal at h
  refine lv_aload_n hx hb dX4_cutCoal_0 rfl (lv_at hl 0 rfl) ?_
  refine y_get hx hb hts i_X4 hown hK hH qOb_4 rfl 0 (by decide) f12 rfl dX4_cutCoal_1 ?_
  refine y_get hx hb hts i_X1 hown hK hH (qMi_ob qMi_48) rfl 12 (by decide) f109 rfl dX4_cutCoal_4 ?_
  refine lv_iload_n hx hb dX4_cutCoal_7 rfl (lv_at hl 1 rfl) ?_
  refine y_iald hx hb hK hH (qMi_a8 qMi_48) h dX4_cutCoal_8 (fun v1 h => ?_)
  refine lv_istore_n (lv' := [(2, .int v1), (0, .ref (ad 47)), (1, .int x1)]) hx hb dX4_cutCoal_9 rfl hl (by decide) rfl (fun ls hl => ?_)
  refine lv_aload_n hx hb dX4_cutCoal_10 rfl (lv_at hl 1 rfl) ?_
  refine y_get hx hb hts i_X4 hown hK hH qOb_4 rfl 5 (by decide) f34 rfl dX4_cutCoal_11 ?_
  refine y_get hx hb hts i_X0 hown hK hH (qLa_ob qLa_60) rfl 1 (by decide) f143 rfl dX4_cutCoal_14 ?_
  refine lv_iload_n hx hb dX4_cutCoal_17 rfl (lv_at hl 0 rfl) ?_
  refine y_iald hx hb hK hH (qLa_a2 qLa_60) h dX4_cutCoal_18 (fun v2 h => ?_)
  refine lv_istore_n (lv' := [(3, .int v2), (2, .int v1), (0, .ref (ad 47)), (1, .int x1)]) hx hb dX4_cutCoal_19 rfl hl (by decide) rfl (fun ls hl => ?_)
  refine lv_aload_n hx hb dX4_cutCoal_20 rfl (lv_at hl 2 rfl) ?_
  refine y_get hx hb hts i_X4 hown hK hH qOb_4 rfl 0 (by decide) f12 rfl dX4_cutCoal_21 ?_
  refine y_get hx hb hts i_X1 hown hK hH (qMi_ob qMi_48) rfl 2 (by decide) f146 rfl dX4_cutCoal_24 ?_
  refine lv_iload_n hx hb dX4_cutCoal_27 rfl (lv_at hl 1 rfl) ?_
  refine lv_dup2_11 hx hb dX4_cutCoal_28 rfl rfl ?_
  refine y_iald hx hb hK hH (qMi_a3 qMi_48) h dX4_cutCoal_29 (fun v3 h => ?_)
  refine lv_iload_n hx hb dX4_cutCoal_30 rfl (lv_at hl 0 rfl) ?_
  refine lv_bipush (v := 8) hx hb dX4_cutCoal_31 (by decide) ?_
  refine qj1 (G := fun (v4 : Int32) => W p l e (headSpec wsX4_cutCoal rm_X4_cutCoal).room s m [.ref (ad 47), .int x1].toArray below meth c s.heap [] 0 0 (MQ below (va_Qv P (fun u t => qHp W1N e1 G ad u t.heap) (qA W1N ad s.heap.size)) [.ref (ad 47), .int x1].toArray s 0 0 (qA W1N ad s.heap.size)) (F0 m 49 ls [.int v4, .int v3, .int v1, .ref (ad (48 + 3))])) h ?_ ?_
  rotate_left
  · intro h
    refine lv_icmp_le (tgt := 40) hx hb dX4_cutCoal_33 (by decide) (fun hc => ?_) (fun hc => ?_)
    · have h := qOk.t hc h
      refine lv_iload_n hx hb dX4_cutCoal_40 rfl (lv_at hl 0 rfl) ?_
      refine lv_if_le (tgt := 48) hx hb dX4_cutCoal_41 (by decide) (fun hc => ?_) (fun hc => ?_)
      · have h := qOk.t hc h
        refine lv_iconst (v := 0) hx hb dX4_cutCoal_48 (by decide) ?_
        have h := qOk.s h
        exact h
      · have h := qOk.f hc h
        refine lv_iconst (v := 1) hx hb dX4_cutCoal_44 (by decide) ?_
        refine lv_goto (tgt := 49) hx hb dX4_cutCoal_45 (by decide) ?_
        have h := qOk.s h
        exact h
    · have h := qOk.f hc h
      refine lv_iconst (v := 2) hx hb dX4_cutCoal_36 (by decide) ?_
      refine lv_goto (tgt := 49) hx hb dX4_cutCoal_37 (by decide) ?_
      have h := qOk.s h
      exact h
  intro v4 h
  refine lv_iadd hx hb dX4_cutCoal_49 ?_
  refine y_iast hx hb hK hI hH (qMi_a3 qMi_48) h dX4_cutCoal_50 (fun M5 H locs hH h => ?_)
  exact W.vret hx hb hr (fun t ht _ => ⟨⟨_, rfl, qOk.s h, qHpt ht hH.1⟩, hH.2.F ht⟩) hH.2.2.2 dX4_cutCoal_51
abbrev rm_X4_passBeat : Room := { frames := 2, cells := 0, slots := 0, locals := 42 }
set_option maxHeartbeats 4000000 in
set_option maxRecDepth 100000 in
theorem c_X4_passBeat (l : Launch) (G : qG) (ad : Nat → Nat) (hI : qI W1N ad) (M : qM) (sz : Nat) {P : qM → Prop} (h : qOk (kX4_passBeat M) P) : Met l yX4_passBeat wsX4_passBeat rm_X4_passBeat (va_Pc [.ref (ad 47)] (qPre W1N e1 G ad M sz)) (va_Qv P (fun u t => qHp W1N e1 G ad u t.heap) (qA W1N ad sz)) 0 0 (qA W1N ad sz) := by
  refine Met.ofW (cc := cX4_passBeat) (maxL := 2) (ret := none) (by decide) rfl ?_
  intro p e s m args below meth c s₁ B hml hv
  obtain ⟨rfl, hsz, hK, hP⟩ := hv
  subst hsz
  have hx := B.exec
  have hb := B.bytes
  have hr := B.returns
  have hts := atoms_spec (ws := wsX4_passBeat) B.pre
  have hown : s.vm.findClass RX4 = some m.cls := findClass_of_methodNamed B.named
  have hlocks := B.notSynchronized
  have hH : qHS W1N e1 G ad M s.heap s.heap [] := ⟨hP, va_S.rf⟩
  have f12 : (Cond.fieldLink RX4 12 "SongLamps$Trial" "mine" "LSongLamps$Mine;").before [.ref (ad 47)].toArray s = true := hts _ (by decide +kernel)
  have i_X4 : ∀ w ∈ wsX40, w ∈ wsX4_passBeat := fun w hw => List.mem_cons_of_mem _ ((List.mem_append_left _ (List.mem_append_left _ (List.mem_append_right _ hw))))
  have f106 : (Cond.fieldLink RX4 106 "SongLamps$Mine" "breath" "[I").before [.ref (ad 47)].toArray s = true := hts _ (by decide +kernel)
  have i_X1 : ∀ w ∈ wsX10, w ∈ wsX4_passBeat := fun w hw => List.mem_cons_of_mem _ ((List.mem_append_left _ (List.mem_append_right _ hw)))
  have f135 : (Cond.fieldLink RX4 135 "SongLamps$Mine" "lungs" "[I").before [.ref (ad 47)].toArray s = true := hts _ (by decide +kernel)
  have ml138 : (Cond.methodLink RX4 138 Lib.Math.min.name).before [.ref (ad 47)].toArray s = true := hts _ (by decide +kernel)
  have ms_min : (Cond.static Lib.Math.min.name).before [.ref (ad 47)].toArray s = true := hts _ (by decide +kernel)
  have mi : (Cond.initialized "java/lang/Math").before [.ref (ad 47)].toArray s = true := hts _ (by decide +kernel)
  have mc_min : (Cond.code Lib.Math.min.name Lib.Math.min.code 2 (some .int)).before [.ref (ad 47)].toArray s = true := hts _ (by decide +kernel)
  have f97 : (Cond.fieldLink RX4 97 "SongLamps$Mine" "beat" "I").before [.ref (ad 47)].toArray s = true := hts _ (by decide +kernel)
  have hl := lv_entry ([.ref (ad 47)]) (n := 2) (Nat.le_of_ble_eq_true rfl)
  rw [lg_entry_eq]
  generalize (lg_sl ([.ref (ad 47)]) ++ List.replicate (2 - (lg_sl ([.ref (ad 47)])).length) Slot.unset).toArray = ls at hl ⊢
  have hl : lv_has ls 2 [(0, .ref (ad 47))] := hl
  have h : qOk (kX4_passBeat M) _ := h
  unfold kX4_passBeat at h
  refine lv_iconst (v := 0) hx hb dX4_passBeat_0 (by decide) ?_
  refine lv_istore_n (lv' := [(1, .int 0), (0, .ref (ad 47))]) hx hb dX4_passBeat_1 rfl hl (by decide) rfl (fun ls hl => ?_)
  refine qj1 (G := fun (M3 : qM) => ∀ (H : Heap) (locs : List Loc), qHS W1N e1 G ad M3 s.heap H locs → ∀ ls : Array Slot, lv_has ls 2 [(0, .ref (ad 47))] → W p l e (headSpec wsX4_passBeat rm_X4_passBeat).room s m [.ref (ad 47)].toArray below meth c H locs 0 0 (MQ below (va_Qv P (fun u t => qHp W1N e1 G ad u t.heap) (qA W1N ad s.heap.size)) [.ref (ad 47)].toArray s 0 0 (qA W1N ad s.heap.size)) (F0 m 81 ls [])) h ?_ ?_
  rotate_left
  · intro h
    refine qloop2 (I := fun (v1 : Int32) (M2 : qM) => ∀ (H : Heap) (locs : List Loc), qHS W1N e1 G ad M2 s.heap H locs → ∀ ls : Array Slot, lv_has ls 2 [(0, .ref (ad 47)), (1, .int v1)] → W p l e (headSpec wsX4_passBeat rm_X4_passBeat).room s m [.ref (ad 47)].toArray below meth c H locs 0 0 (MQ below (va_Qv P (fun u t => qHp W1N e1 G ad u t.heap) (qA W1N ad s.heap.size)) [.ref (ad 47)].toArray s 0 0 (qA W1N ad s.heap.size)) (F0 m 2 ls [])) ?_ h _ _ hH _ (lv_sub hl [1, 0] rfl)
    intro v1 M2 h H locs hH ls hl
    have h : qOk (kX4_passBeat_L2 v1 M2) _ := h
    unfold kX4_passBeat_L2 at h
    refine lv_iload_n hx hb dX4_passBeat_2 rfl (lv_at hl 1 rfl) ?_
    refine lv_bipush (v := 8) hx hb dX4_passBeat_3 (by decide) ?_
    refine lv_icmp_ge (tgt := 81) hx hb dX4_passBeat_5 (by decide) (fun hc => ?_) (fun hc => ?_)
    · have h := qOk.t hc h
      exact qOk.le h _ _ hH _ (lv_sub hl [0] rfl)
    · have h := qOk.f hc h
      refine lv_aload_n hx hb dX4_passBeat_8 rfl (lv_at hl 0 rfl) ?_
      refine y_get hx hb hts i_X4 hown hK hH qOb_4 rfl 0 (by decide) f12 rfl dX4_passBeat_9 ?_
      refine lv_iload_n hx hb dX4_passBeat_12 rfl (lv_at hl 1 rfl) ?_
      refine y_cs (va_runV (As := [.int v1]) (rest := []) ⟨hx, hb, hml, hown, hts⟩ (c_X1_isSinging l G ad hI M2 _ qMi_48 v1 (qOk.b1 h)) (cwV 1 hts gX4_passBeat_X1_isSinging rfl rfl rfl (by decide +kernel) ⟨Nat.le_of_ble_eq_true rfl, Nat.le_of_ble_eq_true rfl⟩) ⟨qPre.blind, qrecv hK hH (qMi_ob qMi_48) rfl, qPre.at hK hH⟩ rfl rfl hl.1 rfl (lv_room (Nat.le_of_ble_eq_true rfl)) dX4_passBeat_13 ⟨Nat.zero_le _, Nat.zero_le _⟩) (fun v4 h => ?_)
      refine qj1 (G := fun (M5 : qM) => ∀ (H : Heap) (locs : List Loc), qHS W1N e1 G ad M5 s.heap H locs → W p l e (headSpec wsX4_passBeat rm_X4_passBeat).room s m [.ref (ad 47)].toArray below meth c H locs 0 0 (MQ below (va_Qv P (fun u t => qHp W1N e1 G ad u t.heap) (qA W1N ad s.heap.size)) [.ref (ad 47)].toArray s 0 0 (qA W1N ad s.heap.size)) (F0 m 75 ls [])) h ?_ ?_
      rotate_left
      · intro h
        refine lv_if_eq (tgt := 27) hx hb dX4_passBeat_16 (by decide) (fun hc => ?_) (fun hc => ?_)
        · have h := qOk.t hc h
          refine lv_aload_n hx hb dX4_passBeat_27 rfl (lv_at hl 0 rfl) ?_
          refine y_get hx hb hts i_X4 hown hK hH qOb_4 rfl 0 (by decide) f12 rfl dX4_passBeat_28 ?_
          refine lv_iload_n hx hb dX4_passBeat_31 rfl (lv_at hl 1 rfl) ?_
          refine y_cs (va_runV (As := [.int v1]) (rest := []) ⟨hx, hb, hml, hown, hts⟩ (c_X1_isThere l G ad hI M2 _ qMi_48 v1 (qOk.b1 h)) (cwV 1 hts gX4_passBeat_X1_isThere rfl rfl rfl (by decide +kernel) ⟨Nat.le_of_ble_eq_true rfl, Nat.le_of_ble_eq_true rfl⟩) ⟨qPre.blind, qrecv hK hH (qMi_ob qMi_48) rfl, qPre.at hK hH⟩ rfl rfl hl.1 rfl (lv_room (Nat.le_of_ble_eq_true rfl)) dX4_passBeat_32 ⟨Nat.zero_le _, Nat.zero_le _⟩) (fun v6 h => ?_)
          refine lv_if_eq (tgt := 75) hx hb dX4_passBeat_35 (by decide) (fun hc => ?_) (fun hc => ?_)
          · have h := qOk.t hc h
            have h := qOk.s h
            exact h _ _ hH
          · have h := qOk.f hc h
            refine lv_aload_n hx hb dX4_passBeat_38 rfl (lv_at hl 0 rfl) ?_
            refine lv_iload_n hx hb dX4_passBeat_39 rfl (lv_at hl 1 rfl) ?_
            refine y_cv hH (va_runV (As := [.int v1]) (rest := []) ⟨hx, hb, hml, hown, hts⟩ (c_X4_cutCoal l G ad hI M2 _ v1 (qOk.b1 h)) (cwV 1 hts gX4_passBeat_X4_cutCoal rfl rfl rfl (by decide +kernel) ⟨Nat.le_of_ble_eq_true rfl, Nat.le_of_ble_eq_true rfl⟩) ⟨qPre.blind, qrecv hK hH qOb_4 rfl, qPre.at hK hH⟩ rfl rfl hl.1 rfl (lv_room (Nat.le_of_ble_eq_true rfl)) dX4_passBeat_40 ⟨Nat.zero_le _, Nat.zero_le _⟩) (fun M7 H locs hH h => ?_)
            refine lv_aload_n hx hb dX4_passBeat_43 rfl (lv_at hl 0 rfl) ?_
            refine y_get hx hb hts i_X4 hown hK hH qOb_4 rfl 0 (by decide) f12 rfl dX4_passBeat_44 ?_
            refine y_get hx hb hts i_X1 hown hK hH (qMi_ob qMi_48) rfl 11 (by decide) f106 rfl dX4_passBeat_47 ?_
            refine lv_iload_n hx hb dX4_passBeat_50 rfl (lv_at hl 1 rfl) ?_
            refine lv_aload_n hx hb dX4_passBeat_51 rfl (lv_at hl 0 rfl) ?_
            refine y_get hx hb hts i_X4 hown hK hH qOb_4 rfl 0 (by decide) f12 rfl dX4_passBeat_52 ?_
            refine y_get hx hb hts i_X1 hown hK hH (qMi_ob qMi_48) rfl 10 (by decide) f135 rfl dX4_passBeat_55 ?_
            refine lv_iload_n hx hb dX4_passBeat_58 rfl (lv_at hl 1 rfl) ?_
            refine y_iald hx hb hK hH (qMi_a6 qMi_48) h dX4_passBeat_59 (fun v8 h => ?_)
            refine lv_aload_n hx hb dX4_passBeat_60 rfl (lv_at hl 0 rfl) ?_
            refine y_get hx hb hts i_X4 hown hK hH qOb_4 rfl 0 (by decide) f12 rfl dX4_passBeat_61 ?_
            refine y_get hx hb hts i_X1 hown hK hH (qMi_ob qMi_48) rfl 11 (by decide) f106 rfl dX4_passBeat_64 ?_
            refine lv_iload_n hx hb dX4_passBeat_67 rfl (lv_at hl 1 rfl) ?_
            refine y_iald hx hb hK hH (qMi_a7 qMi_48) h dX4_passBeat_68 (fun v9 h => ?_)
            refine lv_iconst (v := 1) hx hb dX4_passBeat_69 (by decide) ?_
            refine lv_iadd hx hb dX4_passBeat_70 ?_
            refine va_mmin hx hb (hml.trans hl.1.symm) hown ml138 ms_min mi mc_min (Nat.le_of_ble_eq_true rfl) (Nat.le_of_ble_eq_true rfl) (Nat.zero_le _) (Nat.zero_le _) dX4_passBeat_71 ?_
            refine y_iast hx hb hK hI hH (qMi_a7 qMi_48) h dX4_passBeat_74 (fun M10 H locs hH h => ?_)
            have h := qOk.s h
            exact h _ _ hH
        · have h := qOk.f hc h
          refine lv_aload_n hx hb dX4_passBeat_19 rfl (lv_at hl 0 rfl) ?_
          refine lv_iload_n hx hb dX4_passBeat_20 rfl (lv_at hl 1 rfl) ?_
          refine y_cv hH (va_runV (As := [.int v1]) (rest := []) ⟨hx, hb, hml, hown, hts⟩ (c_X4_spendBreath l G ad hI M2 _ v1 (qOk.b1 h)) (cwV 1 hts gX4_passBeat_X4_spendBreath rfl rfl rfl (by decide +kernel) ⟨Nat.le_of_ble_eq_true rfl, Nat.le_of_ble_eq_true rfl⟩) ⟨qPre.blind, qrecv hK hH qOb_4 rfl, qPre.at hK hH⟩ rfl rfl hl.1 rfl (lv_room (Nat.le_of_ble_eq_true rfl)) dX4_passBeat_21 ⟨Nat.zero_le _, Nat.zero_le _⟩) (fun M11 H locs hH h => ?_)
          refine lv_goto (tgt := 75) hx hb dX4_passBeat_24 (by decide) ?_
          have h := qOk.s h
          exact h _ _ hH
      intro M5 h H locs hH
      obtain ⟨v12, ev12⟩ : ∃ y : Int32, y = v1 + 1 := ⟨_, rfl⟩
      have h := qOk.v h ev12
      refine lv_iinc (v := v12) (lv' := [(1, .int v12), (0, .ref (ad 47))]) hx hb dX4_passBeat_75 hl (k := 1) rfl (by rw [ev12]; rfl) (by decide) rfl (fun ls hl => ?_)
      refine lv_goto (tgt := 2) hx hb dX4_passBeat_78 (by decide) ?_
      exact qOk.li h _ _ hH _ (lv_sub hl [1, 0] rfl)
  intro M3 h H locs hH ls hl
  refine lv_aload_n hx hb dX4_passBeat_81 rfl (lv_at hl 0 rfl) ?_
  refine y_get hx hb hts i_X4 hown hK hH qOb_4 rfl 0 (by decide) f12 rfl dX4_passBeat_82 ?_
  refine lv_dup hx hb dX4_passBeat_85 rfl ?_
  refine y_get hx hb hts i_X1 hown hK hH (qMi_ob qMi_48) rfl 6 (by decide) f97 rfl dX4_passBeat_86 ?_
  refine lv_iconst (v := 1) hx hb dX4_passBeat_89 (by decide) ?_
  refine lv_iadd hx hb dX4_passBeat_90 ?_
  refine y_put hx hb hts i_X1 tyX1 tyX1_ok nmX1 hown hK hI hH (qMi_ob qMi_48) rfl 6 (by decide) f97 rfl (by decide +kernel) (Nat.le_of_ble_eq_true rfl) (fun _ => rfl) h dX4_passBeat_91 (fun M13 H locs hH h => ?_)
  exact W.vret hx hb hr (fun t ht _ => ⟨⟨_, rfl, qOk.s h, qHpt ht hH.1⟩, hH.2.F ht⟩) hH.2.2.2 dX4_passBeat_94
abbrev rm_X4_act : Room := { frames := 3, cells := 0, slots := 0, locals := 63 }
set_option maxHeartbeats 4000000 in
set_option maxRecDepth 100000 in
theorem c_X4_act (l : Launch) (G : qG) (ad : Nat → Nat) (hI : qI W1N ad) (M : qM) (sz : Nat) (x1 : Int32) (x2 : Int32) (x3 : Int32) {P : qM → Prop} (h : qOk (kX4_act M x1 x2 x3) P) : Met l yX4_act wsX4_act rm_X4_act (va_Pc [.ref (ad 47), .int x1, .int x2, .int x3] (qPre W1N e1 G ad M sz)) (va_Qv P (fun u t => qHp W1N e1 G ad u t.heap) (qA W1N ad sz)) 0 0 (qA W1N ad sz) := by
  refine Met.ofW (cc := cX4_act) (maxL := 4) (ret := none) (by decide) rfl ?_
  intro p e s m args below meth c s₁ B hml hv
  obtain ⟨rfl, hsz, hK, hP⟩ := hv
  subst hsz
  have hx := B.exec
  have hb := B.bytes
  have hr := B.returns
  have hts := atoms_spec (ws := wsX4_act) B.pre
  have hown : s.vm.findClass RX4 = some m.cls := findClass_of_methodNamed B.named
  have hlocks := B.notSynchronized
  have hH : qHS W1N e1 G ad M s.heap s.heap [] := ⟨hP, va_S.rf⟩
  have f12 : (Cond.fieldLink RX4 12 "SongLamps$Trial" "mine" "LSongLamps$Mine;").before [.ref (ad 47), .int x1, .int x2, .int x3].toArray s = true := hts _ (by decide +kernel)
  have i_X4 : ∀ w ∈ wsX40, w ∈ wsX4_act := fun w hw => List.mem_cons_of_mem _ ((List.mem_append_left _ (List.mem_append_left _ (List.mem_append_right _ hw))))
  have f91 : (Cond.fieldLink RX4 91 "SongLamps$Mine" "note" "[I").before [.ref (ad 47), .int x1, .int x2, .int x3].toArray s = true := hts _ (by decide +kernel)
  have i_X1 : ∀ w ∈ wsX10, w ∈ wsX4_act := fun w hw => List.mem_cons_of_mem _ ((List.mem_append_left _ (List.mem_append_right _ hw)))
  have f109 : (Cond.fieldLink RX4 109 "SongLamps$Mine" "place" "[I").before [.ref (ad 47), .int x1, .int x2, .int x3].toArray s = true := hts _ (by decide +kernel)
  have f119 : (Cond.fieldLink RX4 119 "SongLamps$Mine" "closed" "I").before [.ref (ad 47), .int x1, .int x2, .int x3].toArray s = true := hts _ (by decide +kernel)
  have hl := lv_entry ([.ref (ad 47), .int x1, .int x2, .int x3]) (n := 4) (Nat.le_of_ble_eq_true rfl)
  rw [lg_entry_eq]
  generalize (lg_sl ([.ref (ad 47), .int x1, .int x2, .int x3]) ++ List.replicate (4 - (lg_sl ([.ref (ad 47), .int x1, .int x2, .int x3])).length) Slot.unset).toArray = ls at hl ⊢
  have hl : lv_has ls 4 [(0, .ref (ad 47)), (1, .int x1), (2, .int x2), (3, .int x3)] := hl
  have h : qOk (kX4_act M x1 x2 x3) _ := h
  unfold kX4_act at h
  refine lv_iload_n hx hb dX4_act_0 rfl (lv_at hl 1 rfl) ?_
  refine qj1 (G := fun (M1 : qM) => ∀ (H : Heap) (locs : List Loc), qHS W1N e1 G ad M1 s.heap H locs → W p l e (headSpec wsX4_act rm_X4_act).room s m [.ref (ad 47), .int x1, .int x2, .int x3].toArray below meth c H locs 0 0 (MQ below (va_Qv P (fun u t => qHp W1N e1 G ad u t.heap) (qA W1N ad s.heap.size)) [.ref (ad 47), .int x1, .int x2, .int x3].toArray s 0 0 (qA W1N ad s.heap.size)) (F0 m 93 ls [])) h ?_ ?_
  rotate_left
  · intro h
    by_cases c0 : x1 = 0
    · have h := qOk.t c0 h
      refine lv_tableIn (tgt := 32) hx hb dX4_act_1 (by rw [c0]; decide) (by rw [c0]; decide) (by rw [c0]; rfl) (by decide) ?_
      refine lv_aload_n hx hb dX4_act_32 rfl (lv_at hl 0 rfl) ?_
      refine y_get hx hb hts i_X4 hown hK hH qOb_4 rfl 0 (by decide) f12 rfl dX4_act_33 ?_
      refine y_get hx hb hts i_X1 hown hK hH (qMi_ob qMi_48) rfl 13 (by decide) f91 rfl dX4_act_36 ?_
      refine lv_iload_n hx hb dX4_act_39 rfl (lv_at hl 2 rfl) ?_
      refine lv_iload_n hx hb dX4_act_40 rfl (lv_at hl 3 rfl) ?_
      refine y_iast hx hb hK hI hH (qMi_a9 qMi_48) h dX4_act_41 (fun M2 H locs hH h => ?_)
      refine lv_goto (tgt := 93) hx hb dX4_act_42 (by decide) ?_
      have h := qOk.s h
      exact h _ _ hH
    have h := qOk.f c0 h
    by_cases c1 : x1 = 1
    · have h := qOk.t c1 h
      refine lv_tableIn (tgt := 45) hx hb dX4_act_1 (by rw [c1]; decide) (by rw [c1]; decide) (by rw [c1]; rfl) (by decide) ?_
      refine lv_aload_n hx hb dX4_act_45 rfl (lv_at hl 0 rfl) ?_
      refine y_get hx hb hts i_X4 hown hK hH qOb_4 rfl 0 (by decide) f12 rfl dX4_act_46 ?_
      refine y_get hx hb hts i_X1 hown hK hH (qMi_ob qMi_48) rfl 13 (by decide) f91 rfl dX4_act_49 ?_
      refine lv_iload_n hx hb dX4_act_52 rfl (lv_at hl 2 rfl) ?_
      refine lv_iconst (v := (-1)) hx hb dX4_act_53 (by decide) ?_
      refine y_iast hx hb hK hI hH (qMi_a9 qMi_48) h dX4_act_54 (fun M3 H locs hH h => ?_)
      refine lv_goto (tgt := 93) hx hb dX4_act_55 (by decide) ?_
      have h := qOk.s h
      exact h _ _ hH
    have h := qOk.f c1 h
    by_cases c2 : x1 = 2
    · have h := qOk.t c2 h
      refine lv_tableIn (tgt := 58) hx hb dX4_act_1 (by rw [c2]; decide) (by rw [c2]; decide) (by rw [c2]; rfl) (by decide) ?_
      refine lv_aload_n hx hb dX4_act_58 rfl (lv_at hl 0 rfl) ?_
      refine y_get hx hb hts i_X4 hown hK hH qOb_4 rfl 0 (by decide) f12 rfl dX4_act_59 ?_
      refine y_get hx hb hts i_X1 hown hK hH (qMi_ob qMi_48) rfl 12 (by decide) f109 rfl dX4_act_62 ?_
      refine lv_iload_n hx hb dX4_act_65 rfl (lv_at hl 2 rfl) ?_
      refine lv_iload_n hx hb dX4_act_66 rfl (lv_at hl 3 rfl) ?_
      refine y_iast hx hb hK hI hH (qMi_a8 qMi_48) h dX4_act_67 (fun M4 H locs hH h => ?_)
      refine lv_goto (tgt := 93) hx hb dX4_act_68 (by decide) ?_
      have h := qOk.s h
      exact h _ _ hH
    have h := qOk.f c2 h
    by_cases c3 : x1 = 3
    · have h := qOk.t c3 h
      refine lv_tableIn (tgt := 71) hx hb dX4_act_1 (by rw [c3]; decide) (by rw [c3]; decide) (by rw [c3]; rfl) (by decide) ?_
      refine lv_aload_n hx hb dX4_act_71 rfl (lv_at hl 0 rfl) ?_
      refine y_get hx hb hts i_X4 hown hK hH qOb_4 rfl 0 (by decide) f12 rfl dX4_act_72 ?_
      refine lv_dup hx hb dX4_act_75 rfl ?_
      refine y_get hx hb hts i_X1 hown hK hH (qMi_ob qMi_48) rfl 4 (by decide) f119 rfl dX4_act_76 ?_
      refine lv_iconst (v := 1) hx hb dX4_act_79 (by decide) ?_
      refine lv_iload_n hx hb dX4_act_80 rfl (lv_at hl 3 rfl) ?_
      refine lv_ishl hx hb dX4_act_81 ?_
      refine lv_ixor hx hb dX4_act_82 ?_
      refine y_put hx hb hts i_X1 tyX1 tyX1_ok nmX1 hown hK hI hH (qMi_ob qMi_48) rfl 4 (by decide) f119 rfl (by decide +kernel) (Nat.le_of_ble_eq_true rfl) (fun _ => rfl) h dX4_act_83 (fun M5 H locs hH h => ?_)
      refine lv_goto (tgt := 93) hx hb dX4_act_86 (by decide) ?_
      have h := qOk.s h
      exact h _ _ hH
    have h := qOk.f c3 h
    have n0 := lv_neT c0 (a := 0) rfl
    have n1 := lv_neT c1 (a := 1) rfl
    have n2 := lv_neT c2 (a := 2) rfl
    have n3 := lv_neT c3 (a := 3) rfl
    refine lv_tableOut (tgt := 89) hx hb dX4_act_1 (by omega) (by decide) ?_
    refine lv_aload_n hx hb dX4_act_89 rfl (lv_at hl 0 rfl) ?_
    refine y_cv hH (va_runV (As := []) (rest := []) ⟨hx, hb, hml, hown, hts⟩ (c_X4_passBeat l G ad hI M _  (qOk.b1 h)) (cwV 0 hts gX4_act_X4_passBeat rfl rfl rfl (by decide +kernel) ⟨Nat.le_of_ble_eq_true rfl, Nat.le_of_ble_eq_true rfl⟩) ⟨qPre.blind, qrecv hK hH qOb_4 rfl, qPre.at hK hH⟩ rfl rfl hl.1 rfl (lv_room (Nat.le_of_ble_eq_true rfl)) dX4_act_90 ⟨Nat.zero_le _, Nat.zero_le _⟩) (fun M6 H locs hH h => ?_)
    have h := qOk.s h
    exact h _ _ hH
  intro M1 h H locs hH
  exact W.vret hx hb hr (fun t ht _ => ⟨⟨_, rfl, qOk.s h, qHpt ht hH.1⟩, hH.2.F ht⟩) hH.2.2.2 dX4_act_93
abbrev rm_X4_rememberDark : Room := { frames := 2, cells := 0, slots := 0, locals := 41 }
set_option maxHeartbeats 4000000 in
set_option maxRecDepth 100000 in
theorem c_X4_rememberDark (l : Launch) (G : qG) (ad : Nat → Nat) (hI : qI W1N ad) (M : qM) (sz : Nat) (x1 : Int32) (x2 : Int32) {P : qM → Prop} (h : qOk (kX4_rememberDark M x1 x2) P) : Met l yX4_rememberDark wsX4_rememberDark rm_X4_rememberDark (va_Pc [.ref (ad 47), .int x1, .int x2] (qPre W1N e1 G ad M sz)) (va_Qv P (fun u t => qHp W1N e1 G ad u t.heap) (qA W1N ad sz)) 0 0 (qA W1N ad sz) := by
  refine Met.ofW (cc := cX4_rememberDark) (maxL := 3) (ret := none) (by decide) rfl ?_
  intro p e s m args below meth c s₁ B hml hv
  obtain ⟨rfl, hsz, hK, hP⟩ := hv
  subst hsz
  have hx := B.exec
  have hb := B.bytes
  have hr := B.returns
  have hts := atoms_spec (ws := wsX4_rememberDark) B.pre
  have hown : s.vm.findClass RX4 = some m.cls := findClass_of_methodNamed B.named
  have hlocks := B.notSynchronized
  have hH : qHS W1N e1 G ad M s.heap s.heap [] := ⟨hP, va_S.rf⟩
  have f25 : (Cond.fieldLink RX4 25 "SongLamps$Trial" "darkAct" "I").before [.ref (ad 47), .int x1, .int x2].toArray s = true := hts _ (by decide +kernel)
  have i_X4 : ∀ w ∈ wsX40, w ∈ wsX4_rememberDark := fun w hw => List.mem_cons_of_mem _ ((List.mem_append_right _ hw))
  have nS_X7_leastOf : (Cond.static yX7_leastOf).before [.ref (ad 47), .int x1, .int x2].toArray s = true := hts _ (by decide +kernel)
  have nI_X7 : (Cond.initialized RX7).before [.ref (ad 47), .int x1, .int x2].toArray s = true := hts _ (by decide +kernel)
  have f28 : (Cond.fieldLink RX4 28 "SongLamps$Trial" "darkGallery" "I").before [.ref (ad 47), .int x1, .int x2].toArray s = true := hts _ (by decide +kernel)
  have hl := lv_entry ([.ref (ad 47), .int x1, .int x2]) (n := 3) (Nat.le_of_ble_eq_true rfl)
  rw [lg_entry_eq]
  generalize (lg_sl ([.ref (ad 47), .int x1, .int x2]) ++ List.replicate (3 - (lg_sl ([.ref (ad 47), .int x1, .int x2])).length) Slot.unset).toArray = ls at hl ⊢
  have hl : lv_has ls 3 [(0, .ref (ad 47)), (1, .int x1), (2, .int x2)] := hl
  have h : qOk (kX4_rememberDark M x1 x2) _ := h
  unfold kX4_rememberDark at h
  refine lv_aload_n hx hb dX4_rememberDark_0 rfl (lv_at hl 0 rfl) ?_
  refine y_get hx hb hts i_X4 hown hK hH qOb_4 rfl 3 (by decide) f25 rfl dX4_rememberDark_1 ?_
  refine lv_bipush (v := (-6)) hx hb dX4_rememberDark_4 (by decide) ?_
  refine qj1 (G := fun (M1 : qM) => ∀ (H : Heap) (locs : List Loc), qHS W1N e1 G ad M1 s.heap H locs → W p l e (headSpec wsX4_rememberDark rm_X4_rememberDark).room s m [.ref (ad 47), .int x1, .int x2].toArray below meth c H locs 0 0 (MQ below (va_Qv P (fun u t => qHp W1N e1 G ad u t.heap) (qA W1N ad s.heap.size)) [.ref (ad 47), .int x1, .int x2].toArray s 0 0 (qA W1N ad s.heap.size)) (F0 m 26 ls [])) h ?_ ?_
  rotate_left
  · intro h
    refine lv_icmp_ne (tgt := 26) hx hb dX4_rememberDark_6 (by decide) (fun hc => ?_) (fun hc => ?_)
    · have h := qOk.f hc h
      have h := qOk.s h
      exact h _ _ hH
    · have h := qOk.t hc h
      refine lv_iload_n hx hb dX4_rememberDark_9 rfl (lv_at hl 2 rfl) ?_
      refine lv_if_eq (tgt := 26) hx hb dX4_rememberDark_10 (by decide) (fun hc => ?_) (fun hc => ?_)
      · have h := qOk.t hc h
        have h := qOk.s h
        exact h _ _ hH
      · have h := qOk.f hc h
        refine lv_aload_n hx hb dX4_rememberDark_13 rfl (lv_at hl 0 rfl) ?_
        refine lv_iload_n hx hb dX4_rememberDark_14 rfl (lv_at hl 1 rfl) ?_
        refine y_put hx hb hts i_X4 tyX4 tyX4_ok nmX4 hown hK hI hH qOb_4 rfl 3 (by decide) f25 rfl (by decide +kernel) (Nat.le_of_ble_eq_true rfl) (fun _ => rfl) h dX4_rememberDark_15 (fun M2 H locs hH h => ?_)
        refine lv_aload_n hx hb dX4_rememberDark_18 rfl (lv_at hl 0 rfl) ?_
        refine lv_iload_n hx hb dX4_rememberDark_19 rfl (lv_at hl 2 rfl) ?_
        refine y_cs (va_runSN (host := "SongLamps") (As := [.int x2]) (rest := [.ref (ad 47)]) ⟨hx, hb, hml, hown, hts⟩ (c_X7_leastOf l x2 (qOk.b1 h)) ⟨va_cnB 1 hts gX4_rememberDark_X7_leastOf_n80 rfl rfl rfl (hK.2 (RX4, 80, yX7_leastOf, "SongLamps") (List.mem_of_getElem? (i := 6) rfl)) nI_X7 (by decide +kernel) ⟨Nat.le_of_ble_eq_true rfl, Nat.le_of_ble_eq_true rfl⟩, nS_X7_leastOf, trivial⟩ ⟨qPrT.blind, qPrT.at⟩ rfl rfl hl.1 rfl (lv_room (Nat.le_of_ble_eq_true rfl)) dX4_rememberDark_20 ⟨Nat.zero_le _, Nat.zero_le _⟩) (fun v3 h => ?_)
        refine y_put hx hb hts i_X4 tyX4 tyX4_ok nmX4 hown hK hI hH qOb_4 rfl 4 (by decide) f28 rfl (by decide +kernel) (Nat.le_of_ble_eq_true rfl) (fun _ => rfl) h dX4_rememberDark_23 (fun M4 H locs hH h => ?_)
        have h := qOk.s h
        exact h _ _ hH
  intro M1 h H locs hH
  exact W.vret hx hb hr (fun t ht _ => ⟨⟨_, rfl, qOk.s h, qHpt ht hH.1⟩, hH.2.F ht⟩) hH.2.2.2 dX4_rememberDark_26
abbrev rm_X4_tryActs : Room := { frames := 4, cells := 0, slots := 0, locals := 90 }
set_option maxHeartbeats 4000000 in
set_option maxRecDepth 100000 in
theorem c_X4_tryActs (l : Launch) (G : qG) (ad : Nat → Nat) (hI : qI W1N ad) (M : qM) (sz : Nat) {b2 : Nat} (w2 : qMi b2) {P : qM → Prop} (h : qOk (kX4_tryActs M b2) P) : Met l yX4_tryActs wsX4_tryActs rm_X4_tryActs (va_Pc [.ref (ad 47), .ref (ad 39), .ref (ad b2)] (qPre W1N e1 G ad M sz)) (va_Qv P (fun u t => qHp W1N e1 G ad u t.heap) (qA W1N ad sz)) 0 0 (qA W1N ad sz) := by
  refine Met.ofW (cc := cX4_tryActs) (maxL := 6) (ret := none) (by decide) rfl ?_
  intro p e s m args below meth c s₁ B hml hv
  obtain ⟨rfl, hsz, hK, hP⟩ := hv
  subst hsz
  have hx := B.exec
  have hb := B.bytes
  have hr := B.returns
  have hts := atoms_spec (ws := wsX4_tryActs) B.pre
  have hown : s.vm.findClass RX4 = some m.cls := findClass_of_methodNamed B.named
  have hlocks := B.notSynchronized
  have hH : qHS W1N e1 G ad M s.heap s.heap [] := ⟨hP, va_S.rf⟩
  have f12 : (Cond.fieldLink RX4 12 "SongLamps$Trial" "mine" "LSongLamps$Mine;").before [.ref (ad 47), .ref (ad 39), .ref (ad b2)].toArray s = true := hts _ (by decide +kernel)
  have i_X4 : ∀ w ∈ wsX40, w ∈ wsX4_tryActs := fun w hw => List.mem_cons_of_mem _ ((List.mem_append_left _ (List.mem_append_left _ (List.mem_append_left _ (List.mem_append_right _ hw)))))
  have f18 : (Cond.fieldLink RX4 18 "SongLamps$Trial" "stoppedAt" "I").before [.ref (ad 47), .ref (ad 39), .ref (ad b2)].toArray s = true := hts _ (by decide +kernel)
  have f22 : (Cond.fieldLink RX4 22 "SongLamps$Trial" "why" "I").before [.ref (ad 47), .ref (ad 39), .ref (ad b2)].toArray s = true := hts _ (by decide +kernel)
  have f25 : (Cond.fieldLink RX4 25 "SongLamps$Trial" "darkAct" "I").before [.ref (ad 47), .ref (ad 39), .ref (ad b2)].toArray s = true := hts _ (by decide +kernel)
  have f28 : (Cond.fieldLink RX4 28 "SongLamps$Trial" "darkGallery" "I").before [.ref (ad 47), .ref (ad 39), .ref (ad b2)].toArray s = true := hts _ (by decide +kernel)
  have f34 : (Cond.fieldLink RX4 34 "SongLamps$Trial" "lamps" "LSongLamps$Lamps;").before [.ref (ad 47), .ref (ad 39), .ref (ad b2)].toArray s = true := hts _ (by decide +kernel)
  have f45 : (Cond.fieldLink RX4 45 "SongLamps$Pad" "acts" "I").before [.ref (ad 47), .ref (ad 39), .ref (ad b2)].toArray s = true := hts _ (by decide +kernel)
  have i_X2 : ∀ w ∈ wsX20, w ∈ wsX4_tryActs := fun w hw => List.mem_cons_of_mem _ ((List.mem_append_left _ (List.mem_append_left _ (List.mem_append_right _ hw))))
  have f50 : (Cond.fieldLink RX4 50 "SongLamps$Pad" "kind" "[I").before [.ref (ad 47), .ref (ad 39), .ref (ad b2)].toArray s = true := hts _ (by decide +kernel)
  have f54 : (Cond.fieldLink RX4 54 "SongLamps$Pad" "who" "[I").before [.ref (ad 47), .ref (ad 39), .ref (ad b2)].toArray s = true := hts _ (by decide +kernel)
  have f57 : (Cond.fieldLink RX4 57 "SongLamps$Pad" "number" "[I").before [.ref (ad 47), .ref (ad 39), .ref (ad b2)].toArray s = true := hts _ (by decide +kernel)
  have f64 : (Cond.fieldLink RX4 64 "SongLamps$Lamps" "burning" "I").before [.ref (ad 47), .ref (ad 39), .ref (ad b2)].toArray s = true := hts _ (by decide +kernel)
  have i_X0 : ∀ w ∈ wsX00, w ∈ wsX4_tryActs := fun w hw => List.mem_cons_of_mem _ ((List.mem_append_left _ (List.mem_append_right _ hw)))
  have hl := lv_entry ([.ref (ad 47), .ref (ad 39), .ref (ad b2)]) (n := 6) (Nat.le_of_ble_eq_true rfl)
  rw [lg_entry_eq]
  generalize (lg_sl ([.ref (ad 47), .ref (ad 39), .ref (ad b2)]) ++ List.replicate (6 - (lg_sl ([.ref (ad 47), .ref (ad 39), .ref (ad b2)])).length) Slot.unset).toArray = ls at hl ⊢
  have hl : lv_has ls 6 [(0, .ref (ad 47)), (1, .ref (ad 39)), (2, .ref (ad b2))] := hl
  have h : qOk (kX4_tryActs M b2) _ := h
  unfold kX4_tryActs at h
  refine lv_aload_n hx hb dX4_tryActs_0 rfl (lv_at hl 0 rfl) ?_
  refine y_get hx hb hts i_X4 hown hK hH qOb_4 rfl 0 (by decide) f12 rfl dX4_tryActs_1 ?_
  refine lv_aload_n hx hb dX4_tryActs_4 rfl (lv_at hl 2 rfl) ?_
  refine y_cv hH (va_runV (As := [.ref (ad b2)]) (rest := []) ⟨hx, hb, hml, hown, hts⟩ (c_X1_become l G ad hI M _ qMi_48 w2 (qOk.b1 h)) (cwV 1 hts gX4_tryActs_X1_become rfl rfl rfl (by decide +kernel) ⟨Nat.le_of_ble_eq_true rfl, Nat.le_of_ble_eq_true rfl⟩) ⟨qPre.blind, qrecv hK hH (qMi_ob qMi_48) rfl, qPre.at hK hH⟩ rfl rfl hl.1 rfl (lv_room (Nat.le_of_ble_eq_true rfl)) dX4_tryActs_5 ⟨Nat.zero_le _, Nat.zero_le _⟩) (fun M1 H locs hH h => ?_)
  refine lv_aload_n hx hb dX4_tryActs_8 rfl (lv_at hl 0 rfl) ?_
  refine lv_bipush (v := (-6)) hx hb dX4_tryActs_9 (by decide) ?_
  refine y_put hx hb hts i_X4 tyX4 tyX4_ok nmX4 hown hK hI hH qOb_4 rfl 1 (by decide) f18 rfl (by decide +kernel) (Nat.le_of_ble_eq_true rfl) (fun _ => rfl) h dX4_tryActs_11 (fun M2 H locs hH h => ?_)
  refine lv_aload_n hx hb dX4_tryActs_14 rfl (lv_at hl 0 rfl) ?_
  refine lv_bipush (v := (-6)) hx hb dX4_tryActs_15 (by decide) ?_
  refine y_put hx hb hts i_X4 tyX4 tyX4_ok nmX4 hown hK hI hH qOb_4 rfl 2 (by decide) f22 rfl (by decide +kernel) (Nat.le_of_ble_eq_true rfl) (fun _ => rfl) h dX4_tryActs_17 (fun M3 H locs hH h => ?_)
  refine lv_aload_n hx hb dX4_tryActs_20 rfl (lv_at hl 0 rfl) ?_
  refine lv_bipush (v := (-6)) hx hb dX4_tryActs_21 (by decide) ?_
  refine y_put hx hb hts i_X4 tyX4 tyX4_ok nmX4 hown hK hI hH qOb_4 rfl 3 (by decide) f25 rfl (by decide +kernel) (Nat.le_of_ble_eq_true rfl) (fun _ => rfl) h dX4_tryActs_23 (fun M4 H locs hH h => ?_)
  refine lv_aload_n hx hb dX4_tryActs_26 rfl (lv_at hl 0 rfl) ?_
  refine lv_bipush (v := (-6)) hx hb dX4_tryActs_27 (by decide) ?_
  refine y_put hx hb hts i_X4 tyX4 tyX4_ok nmX4 hown hK hI hH qOb_4 rfl 4 (by decide) f28 rfl (by decide +kernel) (Nat.le_of_ble_eq_true rfl) (fun _ => rfl) h dX4_tryActs_29 (fun M5 H locs hH h => ?_)
  refine lv_aload_n hx hb dX4_tryActs_32 rfl (lv_at hl 0 rfl) ?_
  refine y_get hx hb hts i_X4 hown hK hH qOb_4 rfl 5 (by decide) f34 rfl dX4_tryActs_33 ?_
  refine lv_aload_n hx hb dX4_tryActs_36 rfl (lv_at hl 0 rfl) ?_
  refine y_get hx hb hts i_X4 hown hK hH qOb_4 rfl 0 (by decide) f12 rfl dX4_tryActs_37 ?_
  refine y_cv hH (va_runV (As := [.ref (ad 48)]) (rest := []) ⟨hx, hb, hml, hown, hts⟩ (c_X0_shineOn l G ad hI M5 _ qLa_60 qMi_48 (qOk.b1 h)) (cwV 1 hts gX4_tryActs_X0_shineOn rfl rfl rfl (by decide +kernel) ⟨Nat.le_of_ble_eq_true rfl, Nat.le_of_ble_eq_true rfl⟩) ⟨qPre.blind, qrecv hK hH (qLa_ob qLa_60) rfl, qPre.at hK hH⟩ rfl rfl hl.1 rfl (lv_room (Nat.le_of_ble_eq_true rfl)) dX4_tryActs_40 ⟨Nat.zero_le _, Nat.zero_le _⟩) (fun M6 H locs hH h => ?_)
  refine lv_iconst (v := 0) hx hb dX4_tryActs_43 (by decide) ?_
  refine lv_istore_n (lv' := [(3, .int 0), (0, .ref (ad 47)), (1, .ref (ad 39)), (2, .ref (ad b2))]) hx hb dX4_tryActs_44 rfl hl (by decide) rfl (fun ls hl => ?_)
  refine qjx1 (G := fun (M9 : qM) => ∀ (H : Heap) (locs : List Loc), qHS W1N e1 G ad M9 s.heap H locs → ∀ ls : Array Slot, lv_has ls 6 [] → W p l e (headSpec wsX4_tryActs rm_X4_tryActs).room s m [.ref (ad 47), .ref (ad 39), .ref (ad b2)].toArray below meth c H locs 0 0 (MQ below (va_Qv P (fun u t => qHp W1N e1 G ad u t.heap) (qA W1N ad s.heap.size)) [.ref (ad 47), .ref (ad 39), .ref (ad b2)].toArray s 0 0 (qA W1N ad s.heap.size)) (F0 m 165 ls [])) h ?_ ?_
  rotate_left
  · intro h
    refine qloop2 (I := fun (v7 : Int32) (M8 : qM) => ∀ (H : Heap) (locs : List Loc), qHS W1N e1 G ad M8 s.heap H locs → ∀ ls : Array Slot, lv_has ls 6 [(0, .ref (ad 47)), (1, .ref (ad 39)), (3, .int v7)] → W p l e (headSpec wsX4_tryActs rm_X4_tryActs).room s m [.ref (ad 47), .ref (ad 39), .ref (ad b2)].toArray below meth c H locs 0 0 (MQ below (va_Qv P (fun u t => qHp W1N e1 G ad u t.heap) (qA W1N ad s.heap.size)) [.ref (ad 47), .ref (ad 39), .ref (ad b2)].toArray s 0 0 (qA W1N ad s.heap.size)) (F0 m 45 ls [])) ?_ h _ _ hH _ (lv_sub hl [1, 2, 0] rfl)
    intro v7 M8 h H locs hH ls hl
    have h : qOk (kX4_tryActs_L45 v7 M8) _ := h
    unfold kX4_tryActs_L45 at h
    refine lv_iload_n hx hb dX4_tryActs_45 rfl (lv_at hl 2 rfl) ?_
    refine lv_aload_n hx hb dX4_tryActs_46 rfl (lv_at hl 1 rfl) ?_
    refine y_get hx hb hts i_X2 hown hK hH qOb_2 rfl 5 (by decide) f45 rfl dX4_tryActs_47 ?_
    refine lv_icmp_ge (tgt := 165) hx hb dX4_tryActs_50 (by decide) (fun hc => ?_) (fun hc => ?_)
    · have h := qOk.t hc h
      exact qOk.lx h _ _ hH _ (lv_sub hl [] rfl)
    · have h := qOk.f hc h
      refine lv_iload_n hx hb dX4_tryActs_53 rfl (lv_at hl 2 rfl) ?_
      refine lv_bipush (v := 60) hx hb dX4_tryActs_54 (by decide) ?_
      refine lv_icmp_ge (tgt := 165) hx hb dX4_tryActs_56 (by decide) (fun hc => ?_) (fun hc => ?_)
      · have h := qOk.t hc h
        exact qOk.lx h _ _ hH _ (lv_sub hl [] rfl)
      · have h := qOk.f hc h
        refine lv_aload_n hx hb dX4_tryActs_59 rfl (lv_at hl 0 rfl) ?_
        refine lv_aload_n hx hb dX4_tryActs_60 rfl (lv_at hl 1 rfl) ?_
        refine y_get hx hb hts i_X2 hown hK hH qOb_2 rfl 2 (by decide) f50 rfl dX4_tryActs_61 ?_
        refine lv_iload_n hx hb dX4_tryActs_64 rfl (lv_at hl 2 rfl) ?_
        refine y_iald hx hb hK hH qAr_41 h dX4_tryActs_65 (fun v10 h => ?_)
        refine lv_aload_n hx hb dX4_tryActs_66 rfl (lv_at hl 1 rfl) ?_
        refine y_get hx hb hts i_X2 hown hK hH qOb_2 rfl 3 (by decide) f54 rfl dX4_tryActs_67 ?_
        refine lv_iload_n hx hb dX4_tryActs_70 rfl (lv_at hl 2 rfl) ?_
        refine y_iald hx hb hK hH qAr_42 h dX4_tryActs_71 (fun v11 h => ?_)
        refine lv_aload_n hx hb dX4_tryActs_72 rfl (lv_at hl 1 rfl) ?_
        refine y_get hx hb hts i_X2 hown hK hH qOb_2 rfl 4 (by decide) f57 rfl dX4_tryActs_73 ?_
        refine lv_iload_n hx hb dX4_tryActs_76 rfl (lv_at hl 2 rfl) ?_
        refine y_iald hx hb hK hH qAr_43 h dX4_tryActs_77 (fun v12 h => ?_)
        refine y_cs (va_runV (As := [.int v10, .int v11, .int v12]) (rest := []) ⟨hx, hb, hml, hown, hts⟩ (c_X4_whyNot l G ad hI M8 _ v10 v11 v12 (qOk.b1 h)) (cwV 3 hts gX4_tryActs_X4_whyNot rfl rfl rfl (by decide +kernel) ⟨Nat.le_of_ble_eq_true rfl, Nat.le_of_ble_eq_true rfl⟩) ⟨qPre.blind, qrecv hK hH qOb_4 rfl, qPre.at hK hH⟩ rfl rfl hl.1 rfl (lv_room (Nat.le_of_ble_eq_true rfl)) dX4_tryActs_78 ⟨Nat.zero_le _, Nat.zero_le _⟩) (fun v13 h => ?_)
        refine lv_istore (lv' := [(4, .int v13), (0, .ref (ad 47)), (1, .ref (ad 39)), (3, .int v7)]) hx hb dX4_tryActs_81 hl (by decide) rfl (fun ls hl => ?_)
        refine lv_iload hx hb dX4_tryActs_83 (lv_at hl 0 rfl) ?_
        refine lv_if_eq (tgt := 100) hx hb dX4_tryActs_85 (by decide) (fun hc => ?_) (fun hc => ?_)
        · have h := qOk.t hc h
          refine lv_aload_n hx hb dX4_tryActs_100 rfl (lv_at hl 1 rfl) ?_
          refine y_get hx hb hts i_X4 hown hK hH qOb_4 rfl 5 (by decide) f34 rfl dX4_tryActs_101 ?_
          refine y_get hx hb hts i_X0 hown hK hH (qLa_ob qLa_60) rfl 2 (by decide) f64 rfl dX4_tryActs_104 ?_
          refine lv_topi (fun v14 ev14 => ?_)
          have h := qOk.v h ev14
          refine lv_istore (lv' := [(5, .int v14), (4, .int v13), (0, .ref (ad 47)), (1, .ref (ad 39)), (3, .int v7)]) hx hb dX4_tryActs_107 hl (by decide) rfl (fun ls hl => ?_)
          refine lv_aload_n hx hb dX4_tryActs_109 rfl (lv_at hl 2 rfl) ?_
          refine lv_aload_n hx hb dX4_tryActs_110 rfl (lv_at hl 3 rfl) ?_
          refine y_get hx hb hts i_X2 hown hK hH qOb_2 rfl 2 (by decide) f50 rfl dX4_tryActs_111 ?_
          refine lv_iload_n hx hb dX4_tryActs_114 rfl (lv_at hl 4 rfl) ?_
          refine y_iald hx hb hK hH qAr_41 h dX4_tryActs_115 (fun v15 h => ?_)
          refine lv_aload_n hx hb dX4_tryActs_116 rfl (lv_at hl 3 rfl) ?_
          refine y_get hx hb hts i_X2 hown hK hH qOb_2 rfl 3 (by decide) f54 rfl dX4_tryActs_117 ?_
          refine lv_iload_n hx hb dX4_tryActs_120 rfl (lv_at hl 4 rfl) ?_
          refine y_iald hx hb hK hH qAr_42 h dX4_tryActs_121 (fun v16 h => ?_)
          refine lv_aload_n hx hb dX4_tryActs_122 rfl (lv_at hl 3 rfl) ?_
          refine y_get hx hb hts i_X2 hown hK hH qOb_2 rfl 4 (by decide) f57 rfl dX4_tryActs_123 ?_
          refine lv_iload_n hx hb dX4_tryActs_126 rfl (lv_at hl 4 rfl) ?_
          refine y_iald hx hb hK hH qAr_43 h dX4_tryActs_127 (fun v17 h => ?_)
          refine y_cv hH (va_runV (As := [.int v15, .int v16, .int v17]) (rest := []) ⟨hx, hb, hml, hown, hts⟩ (c_X4_act l G ad hI M8 _ v15 v16 v17 (qOk.b1 h)) (cwV 3 hts gX4_tryActs_X4_act rfl rfl rfl (by decide +kernel) ⟨Nat.le_of_ble_eq_true rfl, Nat.le_of_ble_eq_true rfl⟩) ⟨qPre.blind, qrecv hK hH qOb_4 rfl, qPre.at hK hH⟩ rfl rfl hl.1 rfl (lv_room (Nat.le_of_ble_eq_true rfl)) dX4_tryActs_128 ⟨Nat.zero_le _, Nat.zero_le _⟩) (fun M18 H locs hH h => ?_)
          refine lv_aload_n hx hb dX4_tryActs_131 rfl (lv_at hl 2 rfl) ?_
          refine y_get hx hb hts i_X4 hown hK hH qOb_4 rfl 5 (by decide) f34 rfl dX4_tryActs_132 ?_
          refine lv_aload_n hx hb dX4_tryActs_135 rfl (lv_at hl 2 rfl) ?_
          refine y_get hx hb hts i_X4 hown hK hH qOb_4 rfl 0 (by decide) f12 rfl dX4_tryActs_136 ?_
          refine y_cv hH (va_runV (As := [.ref (ad 48)]) (rest := []) ⟨hx, hb, hml, hown, hts⟩ (c_X0_shineOn l G ad hI M18 _ qLa_60 qMi_48 (qOk.b1 h)) (cwV 1 hts gX4_tryActs_X0_shineOn rfl rfl rfl (by decide +kernel) ⟨Nat.le_of_ble_eq_true rfl, Nat.le_of_ble_eq_true rfl⟩) ⟨qPre.blind, qrecv hK hH (qLa_ob qLa_60) rfl, qPre.at hK hH⟩ rfl rfl hl.1 rfl (lv_room (Nat.le_of_ble_eq_true rfl)) dX4_tryActs_139 ⟨Nat.zero_le _, Nat.zero_le _⟩) (fun M19 H locs hH h => ?_)
          refine lv_aload_n hx hb dX4_tryActs_142 rfl (lv_at hl 2 rfl) ?_
          refine lv_iload_n hx hb dX4_tryActs_143 rfl (lv_at hl 4 rfl) ?_
          refine lv_iload hx hb dX4_tryActs_144 (lv_at hl 0 rfl) ?_
          refine lv_aload_n hx hb dX4_tryActs_146 rfl (lv_at hl 2 rfl) ?_
          refine y_get hx hb hts i_X4 hown hK hH qOb_4 rfl 5 (by decide) f34 rfl dX4_tryActs_147 ?_
          refine y_get hx hb hts i_X0 hown hK hH (qLa_ob qLa_60) rfl 2 (by decide) f64 rfl dX4_tryActs_150 ?_
          refine lv_iconst (v := (-1)) hx hb dX4_tryActs_153 (by decide) ?_
          refine lv_ixor hx hb dX4_tryActs_154 ?_
          refine lv_iand hx hb dX4_tryActs_155 ?_
          refine y_cv hH (va_runV (As := [.int v7, .int (v14 &&& ((M19 60 2) ^^^ (-1)))]) (rest := []) ⟨hx, hb, hml, hown, hts⟩ (c_X4_rememberDark l G ad hI M19 _ v7 (v14 &&& ((M19 60 2) ^^^ (-1))) (qOk.b1 h)) (cwV 2 hts gX4_tryActs_X4_rememberDark rfl rfl rfl (by decide +kernel) ⟨Nat.le_of_ble_eq_true rfl, Nat.le_of_ble_eq_true rfl⟩) ⟨qPre.blind, qrecv hK hH qOb_4 rfl, qPre.at hK hH⟩ rfl rfl hl.1 rfl (lv_room (Nat.le_of_ble_eq_true rfl)) dX4_tryActs_156 ⟨Nat.zero_le _, Nat.zero_le _⟩) (fun M20 H locs hH h => ?_)
          obtain ⟨v21, ev21⟩ : ∃ y : Int32, y = v7 + 1 := ⟨_, rfl⟩
          have h := qOk.v h ev21
          refine lv_iinc (v := v21) (lv' := [(3, .int v21), (5, .int v14), (4, .int v13), (0, .ref (ad 47)), (1, .ref (ad 39))]) hx hb dX4_tryActs_159 hl (k := 4) rfl (by rw [ev21]; rfl) (by decide) rfl (fun ls hl => ?_)
          refine lv_goto (tgt := 45) hx hb dX4_tryActs_162 (by decide) ?_
          exact qOk.li h _ _ hH _ (lv_sub hl [3, 4, 0] rfl)
        · have h := qOk.f hc h
          refine lv_aload_n hx hb dX4_tryActs_88 rfl (lv_at hl 1 rfl) ?_
          refine lv_iload_n hx hb dX4_tryActs_89 rfl (lv_at hl 3 rfl) ?_
          refine y_put hx hb hts i_X4 tyX4 tyX4_ok nmX4 hown hK hI hH qOb_4 rfl 1 (by decide) f18 rfl (by decide +kernel) (Nat.le_of_ble_eq_true rfl) (fun _ => rfl) h dX4_tryActs_90 (fun M22 H locs hH h => ?_)
          refine lv_aload_n hx hb dX4_tryActs_93 rfl (lv_at hl 1 rfl) ?_
          refine lv_iload hx hb dX4_tryActs_94 (lv_at hl 0 rfl) ?_
          refine y_put hx hb hts i_X4 tyX4 tyX4_ok nmX4 hown hK hI hH qOb_4 rfl 2 (by decide) f22 rfl (by decide +kernel) (Nat.le_of_ble_eq_true rfl) (fun _ => rfl) h dX4_tryActs_96 (fun M23 H locs hH h => ?_)
          have h := qOk.lr h
          exact W.vret hx hb hr (fun t ht _ => ⟨⟨_, rfl, qOk.s h, qHpt ht hH.1⟩, hH.2.F ht⟩) hH.2.2.2 dX4_tryActs_99
  intro M9 h H locs hH ls hl
  exact W.vret hx hb hr (fun t ht _ => ⟨⟨_, rfl, qOk.s h, qHpt ht hH.1⟩, hH.2.F ht⟩) hH.2.2.2 dX4_tryActs_165
abbrev rm_X4_drawnKind : Room := { frames := 0, cells := 0, slots := 0, locals := 0 }
set_option maxHeartbeats 4000000 in
set_option maxRecDepth 100000 in
theorem c_X4_drawnKind (l : Launch) (x0 : Int32) {P : Int32 → Prop} (h : qOk (kX4_drawnKind x0) P) : Met l yX4_drawnKind wsX4_drawnKind rm_X4_drawnKind (va_Pc [.int x0] (fun _ => True)) (vp_Si P) 0 0 (fun _ => False) := by
  refine Met.ofW (cc := cX4_drawnKind) (maxL := 1) (ret := (some .int)) (by decide) rfl ?_
  intro p e s m args below meth c s₁ B hml hv
  obtain ⟨rfl, -⟩ := hv
  have hx := B.exec
  have hb := B.bytes
  have hr := B.returns
  have hts := atoms_spec (ws := wsX4_drawnKind) B.pre
  have hown : s.vm.findClass RX4 = some m.cls := findClass_of_methodNamed B.named
  have hlocks := B.notSynchronized
  have hl := lv_entry ([.int x0]) (n := 1) (Nat.le_of_ble_eq_true rfl)
  rw [lg_entry_eq]
  generalize (lg_sl ([.int x0]) ++ List.replicate (1 - (lg_sl ([.int x0])).length) Slot.unset).toArray = ls at hl ⊢
  have hl : lv_has ls 1 [(0, .int x0)] := hl
  have h : qOk (kX4_drawnKind x0) _ := h
  unfold kX4_drawnKind at h
  refine lv_iload_n hx hb dX4_drawnKind_0 rfl (lv_at hl 0 rfl) ?_
  refine lv_iconst (v := 2) hx hb dX4_drawnKind_1 (by decide) ?_
  refine lv_icmp_gt (tgt := 7) hx hb dX4_drawnKind_2 (by decide) (fun hc => ?_) (fun hc => ?_)
  · have h := qOk.t hc h
    refine lv_iload_n hx hb dX4_drawnKind_7 rfl (lv_at hl 0 rfl) ?_
    refine lv_iconst (v := 3) hx hb dX4_drawnKind_8 (by decide) ?_
    refine lv_icmp_ne (tgt := 14) hx hb dX4_drawnKind_9 (by decide) (fun hc => ?_) (fun hc => ?_)
    · have h := qOk.f hc h
      refine lv_iload_n hx hb dX4_drawnKind_14 rfl (lv_at hl 0 rfl) ?_
      refine lv_iconst (v := 5) hx hb dX4_drawnKind_15 (by decide) ?_
      refine lv_icmp_gt (tgt := 21) hx hb dX4_drawnKind_16 (by decide) (fun hc => ?_) (fun hc => ?_)
      · have h := qOk.t hc h
        refine lv_iload_n hx hb dX4_drawnKind_21 rfl (lv_at hl 0 rfl) ?_
        refine lv_bipush (v := 6) hx hb dX4_drawnKind_22 (by decide) ?_
        refine qj1 (G := fun (v1 : Int32) => W p l e (headSpec wsX4_drawnKind rm_X4_drawnKind).room s m [.int x0].toArray below meth c s.heap [] 0 0 (MQ below (vp_Si P) [.int x0].toArray s 0 0 (fun _ => False)) (F0 m 32 ls [.int v1])) h ?_ ?_
        rotate_left
        · intro h
          refine lv_icmp_ne (tgt := 31) hx hb dX4_drawnKind_24 (by decide) (fun hc => ?_) (fun hc => ?_)
          · have h := qOk.f hc h
            refine lv_iconst (v := 4) hx hb dX4_drawnKind_31 (by decide) ?_
            have h := qOk.s h
            exact h
          · have h := qOk.t hc h
            refine lv_iconst (v := 3) hx hb dX4_drawnKind_27 (by decide) ?_
            refine lv_goto (tgt := 32) hx hb dX4_drawnKind_28 (by decide) ?_
            have h := qOk.s h
            exact h
        intro v1 h
        exact W.iret hx hb hr (fun t ht _ => ⟨_, rfl, qOk.s h, ht⟩) (fun _ hq => by cases hq) dX4_drawnKind_32
      · have h := qOk.f hc h
        refine lv_iconst (v := 2) hx hb dX4_drawnKind_19 (by decide) ?_
        exact W.iret hx hb hr (fun t ht _ => ⟨_, rfl, qOk.s h, ht⟩) (fun _ hq => by cases hq) dX4_drawnKind_20
    · have h := qOk.t hc h
      refine lv_iconst (v := 1) hx hb dX4_drawnKind_12 (by decide) ?_
      exact W.iret hx hb hr (fun t ht _ => ⟨_, rfl, qOk.s h, ht⟩) (fun _ hq => by cases hq) dX4_drawnKind_13
  · have h := qOk.f hc h
    refine lv_iconst (v := 0) hx hb dX4_drawnKind_5 (by decide) ?_
    exact W.iret hx hb hr (fun t ht _ => ⟨_, rfl, qOk.s h, ht⟩) (fun _ hq => by cases hq) dX4_drawnKind_6
