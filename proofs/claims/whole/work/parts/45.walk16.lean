abbrev rm_X8_told : Room := { frames := 6, cells := 0, slots := 0, locals := 136 }
set_option maxHeartbeats 4000000 in
set_option maxRecDepth 100000 in
theorem c_X8_told (l : Launch) (G : qG) (ad : Nat → Nat) (hI : qI W2N ad) (M : qM) (sz : Nat) (x1 : Int32) {P : Int32 → qM → Prop} (h : qOk2 (kX8_told M x1) P) : Met l yX8_told wsX8_told rm_X8_told (va_Pc [.ref (ad 0), .int x1] (qPre W2N e2 G ad M sz)) (va_Qi P (fun u t => qHp W2N e2 G ad u t.heap) (qA W2N ad sz)) 0 0 (qA W2N ad sz) := by
  refine Met.ofW (cc := cX8_told) (maxL := 3) (ret := (some .int)) (by decide) rfl ?_
  intro p e s m args below meth c s₁ B hml hv
  obtain ⟨rfl, hsz, hK, hP⟩ := hv
  subst hsz
  have hx := B.exec
  have hb := B.bytes
  have hr := B.returns
  have hts := atoms_spec (ws := wsX8_told) B.pre
  have hown : s.vm.findClass RX8 = some m.cls := findClass_of_methodNamed B.named
  have hlocks := B.notSynchronized
  have hH : qHS W2N e2 G ad M s.heap s.heap [] := ⟨hP, va_S.rf⟩
  have f85 : (Cond.fieldLink RX8 85 "SongLampsModel" "signs" "I").before [.ref (ad 0), .int x1].toArray s = true := hts _ (by decide +kernel)
  have i_X8 : ∀ w ∈ wsX80, w ∈ wsX8_told := fun w hw => List.mem_cons_of_mem _ ((List.mem_append_right _ hw))
  have f63 : (Cond.fieldLink RX8 63 "SongLampsModel" "there" "I").before [.ref (ad 0), .int x1].toArray s = true := hts _ (by decide +kernel)
  have f7 : (Cond.fieldLink RX8 7 "SongLampsModel" "book" "[I").before [.ref (ad 0), .int x1].toArray s = true := hts _ (by decide +kernel)
  have f79 : (Cond.fieldLink RX8 79 "SongLampsModel" "gas" "I").before [.ref (ad 0), .int x1].toArray s = true := hts _ (by decide +kernel)
  have f160 : (Cond.fieldLink RX8 160 "SongLampsModel" "sights" "I").before [.ref (ad 0), .int x1].toArray s = true := hts _ (by decide +kernel)
  have f25 : (Cond.fieldLink RX8 25 "SongLampsModel" "passages" "[I").before [.ref (ad 0), .int x1].toArray s = true := hts _ (by decide +kernel)
  have f28 : (Cond.fieldLink RX8 28 "SongLampsModel" "echo" "[I").before [.ref (ad 0), .int x1].toArray s = true := hts _ (by decide +kernel)
  have hl := lv_entry ([.ref (ad 0), .int x1]) (n := 3) (Nat.le_of_ble_eq_true rfl)
  rw [lg_entry_eq]
  generalize (lg_sl ([.ref (ad 0), .int x1]) ++ List.replicate (3 - (lg_sl ([.ref (ad 0), .int x1])).length) Slot.unset).toArray = ls at hl ⊢
  have hl : lv_has ls 3 [(0, .ref (ad 0)), (1, .int x1)] := hl
  have h : qOk (kX8_told M x1) _ := h
  unfold kX8_told at h
  refine lv_iload_n hx hb dX8_told_0 rfl (lv_at hl 1 rfl) ?_
  refine lv_bipush (v := 100) hx hb dX8_told_1 (by decide) ?_
  refine lv_icmp_lt (tgt := 75) hx hb dX8_told_3 (by decide) (fun hc => ?_) (fun hc => ?_)
  · have h := qOk.t hc h
    refine lv_iload_n hx hb dX8_told_75 rfl (lv_at hl 1 rfl) ?_
    refine lv_bipush (v := 10) hx hb dX8_told_76 (by decide) ?_
    refine lv_icmp_lt (tgt := 96) hx hb dX8_told_78 (by decide) (fun hc => ?_) (fun hc => ?_)
    · have h := qOk.t hc h
      refine lv_iload_n hx hb dX8_told_96 rfl (lv_at hl 1 rfl) ?_
      by_cases c0 : x1 = 0
      · have h := qOk.t c0 h
        refine lv_tableIn (tgt := 136) hx hb dX8_told_97 (by rw [c0]; decide) (by rw [c0]; decide) (by rw [c0]; rfl) (by decide) ?_
        refine lv_aload_n hx hb dX8_told_136 rfl (lv_at hl 0 rfl) ?_
        refine y_get hx hb hts i_X8 hown hK hH qOb_8 rfl 11 (by decide) f85 rfl dX8_told_137 ?_
        exact W.iret hx hb hr (fun t ht _ => ⟨⟨_, _, rfl, qOk2.s h, qHpt ht hH.1⟩, hH.2.F ht⟩) hH.2.2.2 dX8_told_140
      have h := qOk.f c0 h
      by_cases c1 : x1 = 1
      · have h := qOk.t c1 h
        refine lv_tableIn (tgt := 141) hx hb dX8_told_97 (by rw [c1]; decide) (by rw [c1]; decide) (by rw [c1]; rfl) (by decide) ?_
        refine lv_aload_n hx hb dX8_told_141 rfl (lv_at hl 0 rfl) ?_
        refine y_get hx hb hts i_X8 hown hK hH qOb_8 rfl 2 (by decide) f63 rfl dX8_told_142 ?_
        exact W.iret hx hb hr (fun t ht _ => ⟨⟨_, _, rfl, qOk2.s h, qHpt ht hH.1⟩, hH.2.F ht⟩) hH.2.2.2 dX8_told_145
      have h := qOk.f c1 h
      by_cases c2 : x1 = 2
      · have h := qOk.t c2 h
        refine lv_tableIn (tgt := 146) hx hb dX8_told_97 (by rw [c2]; decide) (by rw [c2]; decide) (by rw [c2]; rfl) (by decide) ?_
        refine lv_aload_n hx hb dX8_told_146 rfl (lv_at hl 0 rfl) ?_
        refine y_cv hH (va_runV (As := []) (rest := []) ⟨hx, hb, hml, hown, hts⟩ (c_X8_asNow l G ad hI M _  (qOk.b1 h)) (cwV 0 hts gX8_told_X8_asNow rfl rfl rfl (by decide +kernel) ⟨Nat.le_of_ble_eq_true rfl, Nat.le_of_ble_eq_true rfl⟩) ⟨qPre.blind, qrecv hK hH qOb_8 rfl, qPre.at hK hH⟩ rfl rfl hl.1 rfl (lv_room (Nat.le_of_ble_eq_true rfl)) dX8_told_147 ⟨Nat.zero_le _, Nat.zero_le _⟩) (fun M1 H locs hH h => ?_)
        refine lv_aload_n hx hb dX8_told_150 rfl (lv_at hl 0 rfl) ?_
        refine y_cs (va_runV (As := []) (rest := []) ⟨hx, hb, hml, hown, hts⟩ (c_X8_lamps l G ad hI M1 _  (qOk.b1 h)) (cwV 0 hts gX8_told_X8_lamps rfl rfl rfl (by decide +kernel) ⟨Nat.le_of_ble_eq_true rfl, Nat.le_of_ble_eq_true rfl⟩) ⟨qPre.blind, qrecv hK hH qOb_8 rfl, qPre.at hK hH⟩ rfl rfl hl.1 rfl (lv_room (Nat.le_of_ble_eq_true rfl)) dX8_told_151 ⟨Nat.zero_le _, Nat.zero_le _⟩) (fun v2 h => ?_)
        exact W.iret hx hb hr (fun t ht _ => ⟨⟨_, _, rfl, qOk2.s h, qHpt ht hH.1⟩, hH.2.F ht⟩) hH.2.2.2 dX8_told_154
      have h := qOk.f c2 h
      by_cases c3 : x1 = 3
      · have h := qOk.t c3 h
        refine lv_tableIn (tgt := 155) hx hb dX8_told_97 (by rw [c3]; decide) (by rw [c3]; decide) (by rw [c3]; rfl) (by decide) ?_
        refine lv_aload_n hx hb dX8_told_155 rfl (lv_at hl 0 rfl) ?_
        refine y_get hx hb hts i_X8 hown hK hH qOb_8 rfl 0 (by decide) f7 rfl dX8_told_156 ?_
        refine lv_bipush (v := 35) hx hb dX8_told_159 (by decide) ?_
        refine y_iald hx hb hK hH qMr_1 h dX8_told_161 (fun v3 h => ?_)
        exact W.iret hx hb hr (fun t ht _ => ⟨⟨_, _, rfl, qOk2.s h, qHpt ht hH.1⟩, hH.2.F ht⟩) hH.2.2.2 dX8_told_162
      have h := qOk.f c3 h
      by_cases c4 : x1 = 4
      · have h := qOk.t c4 h
        refine lv_tableIn (tgt := 163) hx hb dX8_told_97 (by rw [c4]; decide) (by rw [c4]; decide) (by rw [c4]; rfl) (by decide) ?_
        refine lv_aload_n hx hb dX8_told_163 rfl (lv_at hl 0 rfl) ?_
        refine y_get hx hb hts i_X8 hown hK hH qOb_8 rfl 0 (by decide) f7 rfl dX8_told_164 ?_
        refine lv_bipush (v := 34) hx hb dX8_told_167 (by decide) ?_
        refine y_iald hx hb hK hH qMr_1 h dX8_told_169 (fun v4 h => ?_)
        exact W.iret hx hb hr (fun t ht _ => ⟨⟨_, _, rfl, qOk2.s h, qHpt ht hH.1⟩, hH.2.F ht⟩) hH.2.2.2 dX8_told_170
      have h := qOk.f c4 h
      by_cases c5 : x1 = 5
      · have h := qOk.t c5 h
        refine lv_tableIn (tgt := 171) hx hb dX8_told_97 (by rw [c5]; decide) (by rw [c5]; decide) (by rw [c5]; rfl) (by decide) ?_
        refine lv_aload_n hx hb dX8_told_171 rfl (lv_at hl 0 rfl) ?_
        refine y_get hx hb hts i_X8 hown hK hH qOb_8 rfl 8 (by decide) f79 rfl dX8_told_172 ?_
        exact W.iret hx hb hr (fun t ht _ => ⟨⟨_, _, rfl, qOk2.s h, qHpt ht hH.1⟩, hH.2.F ht⟩) hH.2.2.2 dX8_told_175
      have h := qOk.f c5 h
      have n0 := lv_neT c0 (a := 0) rfl
      have n1 := lv_neT c1 (a := 1) rfl
      have n2 := lv_neT c2 (a := 2) rfl
      have n3 := lv_neT c3 (a := 3) rfl
      have n4 := lv_neT c4 (a := 4) rfl
      have n5 := lv_neT c5 (a := 5) rfl
      refine lv_tableOut (tgt := 176) hx hb dX8_told_97 (by omega) (by decide) ?_
      refine lv_iload_n hx hb dX8_told_176 rfl (lv_at hl 1 rfl) ?_
      refine lv_bipush (v := 6) hx hb dX8_told_177 (by decide) ?_
      refine qj1 (G := fun (v5 : Int32) => W p l e (headSpec wsX8_told rm_X8_told).room s m [.ref (ad 0), .int x1].toArray below meth c s.heap [] 0 0 (MQ below (va_Qi P (fun u t => qHp W2N e2 G ad u t.heap) (qA W2N ad s.heap.size)) [.ref (ad 0), .int x1].toArray s 0 0 (qA W2N ad s.heap.size)) (F0 m 191 ls [.int v5])) h ?_ ?_
      rotate_left
      · intro h
        refine lv_icmp_ne (tgt := 189) hx hb dX8_told_179 (by decide) (fun hc => ?_) (fun hc => ?_)
        · have h := qOk.f hc h
          refine lv_bipush (v := (-2)) hx hb dX8_told_189 (by decide) ?_
          have h := qOk.s h
          exact h
        · have h := qOk.t hc h
          refine lv_aload_n hx hb dX8_told_182 rfl (lv_at hl 0 rfl) ?_
          refine y_get hx hb hts i_X8 hown hK hH qOb_8 rfl 9 (by decide) f160 rfl dX8_told_183 ?_
          refine lv_goto (tgt := 191) hx hb dX8_told_186 (by decide) ?_
          have h := qOk.s h
          exact h
      intro v5 h
      exact W.iret hx hb hr (fun t ht _ => ⟨⟨_, _, rfl, qOk2.s h, qHpt ht hH.1⟩, hH.2.F ht⟩) hH.2.2.2 dX8_told_191
    · have h := qOk.f hc h
      refine lv_aload_n hx hb dX8_told_81 rfl (lv_at hl 0 rfl) ?_
      refine lv_iload_n hx hb dX8_told_82 rfl (lv_at hl 1 rfl) ?_
      refine lv_bipush (v := 10) hx hb dX8_told_83 (by decide) ?_
      refine lv_idiv hx hb dX8_told_85 (by decide) ?_
      refine lv_iconst (v := 1) hx hb dX8_told_86 (by decide) ?_
      refine lv_isub hx hb dX8_told_87 ?_
      refine lv_iload_n hx hb dX8_told_88 rfl (lv_at hl 1 rfl) ?_
      refine lv_bipush (v := 10) hx hb dX8_told_89 (by decide) ?_
      refine lv_irem hx hb dX8_told_91 (by decide) ?_
      refine y_cs (va_runV (As := [.int ((x1 / 10) - 1), .int (x1 - x1 / 10 * 10)]) (rest := []) ⟨hx, hb, hml, hown, hts⟩ (c_X8_toldVoice l G ad hI M _ ((x1 / 10) - 1) (x1 - x1 / 10 * 10) (qOk.b1 h)) (cwV 2 hts gX8_told_X8_toldVoice rfl rfl rfl (by decide +kernel) ⟨Nat.le_of_ble_eq_true rfl, Nat.le_of_ble_eq_true rfl⟩) ⟨qPre.blind, qrecv hK hH qOb_8 rfl, qPre.at hK hH⟩ rfl rfl hl.1 rfl (lv_room (Nat.le_of_ble_eq_true rfl)) dX8_told_92 ⟨Nat.zero_le _, Nat.zero_le _⟩) (fun v6 h => ?_)
      exact W.iret hx hb hr (fun t ht _ => ⟨⟨_, _, rfl, qOk2.s h, qHpt ht hH.1⟩, hH.2.F ht⟩) hH.2.2.2 dX8_told_95
  · have h := qOk.f hc h
    refine lv_iload_n hx hb dX8_told_6 rfl (lv_at hl 1 rfl) ?_
    refine lv_bipush (v := 10) hx hb dX8_told_7 (by decide) ?_
    refine lv_idiv hx hb dX8_told_9 (by decide) ?_
    refine lv_bipush (v := 10) hx hb dX8_told_10 (by decide) ?_
    refine lv_isub hx hb dX8_told_12 ?_
    refine lv_topi (fun v7 ev7 => ?_)
    have h := qOk.v h ev7
    refine lv_istore_n (lv' := [(2, .int v7), (0, .ref (ad 0)), (1, .int x1)]) hx hb dX8_told_13 rfl hl (by decide) rfl (fun ls hl => ?_)
    refine lv_iload_n hx hb dX8_told_14 rfl (lv_at hl 0 rfl) ?_
    refine y_cs (va_runS (As := [.int v7]) (rest := []) ⟨hx, hb, hml, hown, hts⟩ (c_X8_isGallery l v7 (qOk.b1 h)) (va_cwS 1 hts gX8_told_X8_isGallery rfl rfl rfl (by decide +kernel) ⟨Nat.le_of_ble_eq_true rfl, Nat.le_of_ble_eq_true rfl⟩) ⟨qPrT.blind, qPrT.at⟩ rfl rfl hl.1 rfl (lv_room (Nat.le_of_ble_eq_true rfl)) dX8_told_15 ⟨Nat.zero_le _, Nat.zero_le _⟩) (fun v8 h => ?_)
    refine lv_if_eq (tgt := 29) hx hb dX8_told_18 (by decide) (fun hc => ?_) (fun hc => ?_)
    · have h := qOk.t hc h
      refine lv_bipush (v := (-2)) hx hb dX8_told_29 (by decide) ?_
      exact W.iret hx hb hr (fun t ht _ => ⟨⟨_, _, rfl, qOk2.s h, qHpt ht hH.1⟩, hH.2.F ht⟩) hH.2.2.2 dX8_told_31
    · have h := qOk.f hc h
      refine lv_iload_n hx hb dX8_told_21 rfl (lv_at hl 2 rfl) ?_
      refine lv_bipush (v := 10) hx hb dX8_told_22 (by decide) ?_
      refine lv_irem hx hb dX8_told_24 (by decide) ?_
      refine lv_iconst (v := 2) hx hb dX8_told_25 (by decide) ?_
      refine lv_icmp_le (tgt := 32) hx hb dX8_told_26 (by decide) (fun hc => ?_) (fun hc => ?_)
      · have h := qOk.t hc h
        refine lv_iload_n hx hb dX8_told_32 rfl (lv_at hl 2 rfl) ?_
        refine lv_bipush (v := 10) hx hb dX8_told_33 (by decide) ?_
        refine lv_irem hx hb dX8_told_35 (by decide) ?_
        refine qj1 (G := fun (v9 : Int32) => W p l e (headSpec wsX8_told rm_X8_told).room s m [.ref (ad 0), .int x1].toArray below meth c s.heap [] 0 0 (MQ below (va_Qi P (fun u t => qHp W2N e2 G ad u t.heap) (qA W2N ad s.heap.size)) [.ref (ad 0), .int x1].toArray s 0 0 (qA W2N ad s.heap.size)) (F0 m 74 ls [.int v9])) h ?_ ?_
        rotate_left
        · intro h
          refine lv_if_ne (tgt := 48) hx hb dX8_told_36 (by decide) (fun hc => ?_) (fun hc => ?_)
          · have h := qOk.f hc h
            refine lv_iload_n hx hb dX8_told_48 rfl (lv_at hl 2 rfl) ?_
            refine lv_bipush (v := 10) hx hb dX8_told_49 (by decide) ?_
            refine lv_irem hx hb dX8_told_51 (by decide) ?_
            refine lv_iconst (v := 1) hx hb dX8_told_52 (by decide) ?_
            refine lv_icmp_ne (tgt := 68) hx hb dX8_told_53 (by decide) (fun hc => ?_) (fun hc => ?_)
            · have h := qOk.f hc h
              refine lv_aload_n hx hb dX8_told_68 rfl (lv_at hl 1 rfl) ?_
              refine y_get hx hb hts i_X8 hown hK hH qOb_8 rfl 6 (by decide) f25 rfl dX8_told_69 ?_
              refine lv_iload_n hx hb dX8_told_72 rfl (lv_at hl 0 rfl) ?_
              refine y_iald hx hb hK hH qMr_6 h dX8_told_73 (fun v10 h => ?_)
              have h := qOk.s h
              exact h
            · have h := qOk.t hc h
              refine lv_aload_n hx hb dX8_told_56 rfl (lv_at hl 1 rfl) ?_
              refine y_get hx hb hts i_X8 hown hK hH qOb_8 rfl 0 (by decide) f7 rfl dX8_told_57 ?_
              refine lv_bipush (v := 24) hx hb dX8_told_60 (by decide) ?_
              refine lv_iload_n hx hb dX8_told_62 rfl (lv_at hl 0 rfl) ?_
              refine lv_iadd hx hb dX8_told_63 ?_
              refine y_iald hx hb hK hH qMr_1 h dX8_told_64 (fun v11 h => ?_)
              refine lv_goto (tgt := 74) hx hb dX8_told_65 (by decide) ?_
              have h := qOk.s h
              exact h
          · have h := qOk.t hc h
            refine lv_aload_n hx hb dX8_told_39 rfl (lv_at hl 1 rfl) ?_
            refine y_get hx hb hts i_X8 hown hK hH qOb_8 rfl 7 (by decide) f28 rfl dX8_told_40 ?_
            refine lv_iload_n hx hb dX8_told_43 rfl (lv_at hl 0 rfl) ?_
            refine y_iald hx hb hK hH qMr_7 h dX8_told_44 (fun v12 h => ?_)
            refine lv_goto (tgt := 74) hx hb dX8_told_45 (by decide) ?_
            have h := qOk.s h
            exact h
        intro v9 h
        exact W.iret hx hb hr (fun t ht _ => ⟨⟨_, _, rfl, qOk2.s h, qHpt ht hH.1⟩, hH.2.F ht⟩) hH.2.2.2 dX8_told_74
      · have h := qOk.f hc h
        refine lv_bipush (v := (-2)) hx hb dX8_told_29 (by decide) ?_
        exact W.iret hx hb hr (fun t ht _ => ⟨⟨_, _, rfl, qOk2.s h, qHpt ht hH.1⟩, hH.2.F ht⟩) hH.2.2.2 dX8_told_31
