abbrev rm_X8_year : Room := { frames := 6, cells := 0, slots := 0, locals := 136 }
set_option maxHeartbeats 4000000 in
set_option maxRecDepth 100000 in
theorem c_X8_year (l : Launch) (G : qG) (ad : Nat → Nat) (hI : qI W2N ad) (M : qM) (sz : Nat) (x1 : Int32) (x2 : Int32) (x3 : Int32) {P : Int32 → qM → Prop} (h : qOk2 (kX8_year M x1 x2 x3) P) : Met l yX8_year wsX8_year rm_X8_year (va_Pc [.ref (ad 0), .int x1, .int x2, .int x3] (qPre W2N e2 G ad M sz)) (va_Qi P (fun u t => qHp W2N e2 G ad u t.heap) (qA W2N ad sz)) 0 0 (qA W2N ad sz) := by
  refine Met.ofW (cc := cX8_year) (maxL := 9) (ret := (some .int)) (by decide) rfl ?_
  intro p e s m args below meth c s₁ B hml hv
  obtain ⟨rfl, hsz, hK, hP⟩ := hv
  subst hsz
  have hx := B.exec
  have hb := B.bytes
  have hr := B.returns
  have hts := atoms_spec (ws := wsX8_year) B.pre
  have hown : s.vm.findClass RX8 = some m.cls := findClass_of_methodNamed B.named
  have hlocks := B.notSynchronized
  have hH : qHS W2N e2 G ad M s.heap s.heap [] := ⟨hP, va_S.rf⟩
  have q184 : (Cond.constant RX8 184 (65537)).before [.ref (ad 0), .int x1, .int x2, .int x3].toArray s = true := hts _ (by decide +kernel)
  have f13 : (Cond.fieldLink RX8 13 "SongLampsModel" "now" "[I").before [.ref (ad 0), .int x1, .int x2, .int x3].toArray s = true := hts _ (by decide +kernel)
  have i_X8 : ∀ w ∈ wsX80, w ∈ wsX8_year := fun w hw => List.mem_cons_of_mem _ ((List.mem_append_right _ hw))
  have f63 : (Cond.fieldLink RX8 63 "SongLampsModel" "there" "I").before [.ref (ad 0), .int x1, .int x2, .int x3].toArray s = true := hts _ (by decide +kernel)
  have hl := lv_entry ([.ref (ad 0), .int x1, .int x2, .int x3]) (n := 9) (Nat.le_of_ble_eq_true rfl)
  rw [lg_entry_eq]
  generalize (lg_sl ([.ref (ad 0), .int x1, .int x2, .int x3]) ++ List.replicate (9 - (lg_sl ([.ref (ad 0), .int x1, .int x2, .int x3])).length) Slot.unset).toArray = ls at hl ⊢
  have hl : lv_has ls 9 [(0, .ref (ad 0)), (1, .int x1), (2, .int x2), (3, .int x3)] := hl
  have h : qOk (kX8_year M x1 x2 x3) _ := h
  unfold kX8_year at h
  refine lv_iload_n hx hb dX8_year_0 rfl (lv_at hl 1 rfl) ?_
  refine lv_iconst (v := 0) hx hb dX8_year_1 (by decide) ?_
  refine lv_sipush (v := 9999) hx hb dX8_year_2 (by decide) ?_
  refine y_cs (va_runS (As := [.int x1, .int 0, .int 9999]) (rest := []) ⟨hx, hb, hml, hown, hts⟩ (c_X8_in l x1 0 9999 (qOk.b1 h)) (va_cwS 3 hts gX8_year_X8_in rfl rfl rfl (by decide +kernel) ⟨Nat.le_of_ble_eq_true rfl, Nat.le_of_ble_eq_true rfl⟩) ⟨qPrT.blind, qPrT.at⟩ rfl rfl hl.1 rfl (lv_room (Nat.le_of_ble_eq_true rfl)) dX8_year_5 ⟨Nat.zero_le _, Nat.zero_le _⟩) (fun v1 h => ?_)
  refine lv_if_eq (tgt := 30) hx hb dX8_year_8 (by decide) (fun hc => ?_) (fun hc => ?_)
  · have h := qOk.t hc h
    refine lv_bipush (v := (-2)) hx hb dX8_year_30 (by decide) ?_
    exact W.iret hx hb hr (fun t ht _ => ⟨⟨_, _, rfl, qOk2.s h, qHpt ht hH.1⟩, hH.2.F ht⟩) hH.2.2.2 dX8_year_32
  · have h := qOk.f hc h
    refine lv_iload_n hx hb dX8_year_11 rfl (lv_at hl 2 rfl) ?_
    refine lv_iconst (v := 1) hx hb dX8_year_12 (by decide) ?_
    refine lv_bipush (v := 99) hx hb dX8_year_13 (by decide) ?_
    refine y_cs (va_runS (As := [.int x2, .int 1, .int 99]) (rest := []) ⟨hx, hb, hml, hown, hts⟩ (c_X8_in l x2 1 99 (qOk.b1 h)) (va_cwS 3 hts gX8_year_X8_in rfl rfl rfl (by decide +kernel) ⟨Nat.le_of_ble_eq_true rfl, Nat.le_of_ble_eq_true rfl⟩) ⟨qPrT.blind, qPrT.at⟩ rfl rfl hl.1 rfl (lv_room (Nat.le_of_ble_eq_true rfl)) dX8_year_15 ⟨Nat.zero_le _, Nat.zero_le _⟩) (fun v2 h => ?_)
    refine lv_if_eq (tgt := 30) hx hb dX8_year_18 (by decide) (fun hc => ?_) (fun hc => ?_)
    · have h := qOk.t hc h
      refine lv_bipush (v := (-2)) hx hb dX8_year_30 (by decide) ?_
      exact W.iret hx hb hr (fun t ht _ => ⟨⟨_, _, rfl, qOk2.s h, qHpt ht hH.1⟩, hH.2.F ht⟩) hH.2.2.2 dX8_year_32
    · have h := qOk.f hc h
      refine lv_iload_n hx hb dX8_year_21 rfl (lv_at hl 3 rfl) ?_
      refine lv_iconst (v := 0) hx hb dX8_year_22 (by decide) ?_
      refine lv_iconst (v := 2) hx hb dX8_year_23 (by decide) ?_
      refine y_cs (va_runS (As := [.int x3, .int 0, .int 2]) (rest := []) ⟨hx, hb, hml, hown, hts⟩ (c_X8_in l x3 0 2 (qOk.b1 h)) (va_cwS 3 hts gX8_year_X8_in rfl rfl rfl (by decide +kernel) ⟨Nat.le_of_ble_eq_true rfl, Nat.le_of_ble_eq_true rfl⟩) ⟨qPrT.blind, qPrT.at⟩ rfl rfl hl.1 rfl (lv_room (Nat.le_of_ble_eq_true rfl)) dX8_year_24 ⟨Nat.zero_le _, Nat.zero_le _⟩) (fun v3 h => ?_)
      refine lv_if_ne (tgt := 33) hx hb dX8_year_27 (by decide) (fun hc => ?_) (fun hc => ?_)
      · have h := qOk.f hc h
        refine lv_aload_n hx hb dX8_year_33 rfl (lv_at hl 0 rfl) ?_
        refine y_cv hH (va_runV (As := []) (rest := []) ⟨hx, hb, hml, hown, hts⟩ (c_X8_asNow l G ad hI M _  (qOk.b1 h)) (cwV 0 hts gX8_year_X8_asNow rfl rfl rfl (by decide +kernel) ⟨Nat.le_of_ble_eq_true rfl, Nat.le_of_ble_eq_true rfl⟩) ⟨qPre.blind, qrecv hK hH qOb_8 rfl, qPre.at hK hH⟩ rfl rfl hl.1 rfl (lv_room (Nat.le_of_ble_eq_true rfl)) dX8_year_34 ⟨Nat.zero_le _, Nat.zero_le _⟩) (fun M4 H locs hH h => ?_)
        refine lv_iload_n hx hb dX8_year_37 rfl (lv_at hl 1 rfl) ?_
        refine lv_istore (lv' := [(4, .int x1), (0, .ref (ad 0)), (1, .int x1), (2, .int x2), (3, .int x3)]) hx hb dX8_year_38 hl (by decide) rfl (fun ls hl => ?_)
        refine lv_iconst (v := 0) hx hb dX8_year_40 (by decide) ?_
        refine lv_istore (lv' := [(5, .int 0), (4, .int x1), (0, .ref (ad 0)), (1, .int x1), (2, .int x2), (3, .int x3)]) hx hb dX8_year_41 hl (by decide) rfl (fun ls hl => ?_)
        refine qj1 (G := fun (M8 : qM) => ∀ (H : Heap) (locs : List Loc), qHS W2N e2 G ad M8 s.heap H locs → ∀ ls : Array Slot, lv_has ls 9 [(0, .ref (ad 0)), (3, .int x3)] → W p l e (headSpec wsX8_year rm_X8_year).room s m [.ref (ad 0), .int x1, .int x2, .int x3].toArray below meth c H locs 0 0 (MQ below (va_Qi P (fun u t => qHp W2N e2 G ad u t.heap) (qA W2N ad s.heap.size)) [.ref (ad 0), .int x1, .int x2, .int x3].toArray s 0 0 (qA W2N ad s.heap.size)) (F0 m 183 ls [])) h ?_ ?_
        rotate_left
        · intro h
          refine qloop3 (I := fun (v5 : Int32) (v6 : Int32) (M7 : qM) => ∀ (H : Heap) (locs : List Loc), qHS W2N e2 G ad M7 s.heap H locs → ∀ ls : Array Slot, lv_has ls 9 [(0, .ref (ad 0)), (2, .int x2), (3, .int x3), (4, .int v5), (5, .int v6)] → W p l e (headSpec wsX8_year rm_X8_year).room s m [.ref (ad 0), .int x1, .int x2, .int x3].toArray below meth c H locs 0 0 (MQ below (va_Qi P (fun u t => qHp W2N e2 G ad u t.heap) (qA W2N ad s.heap.size)) [.ref (ad 0), .int x1, .int x2, .int x3].toArray s 0 0 (qA W2N ad s.heap.size)) (F0 m 43 ls [])) ?_ h _ _ hH _ (lv_sub hl [2, 4, 5, 1, 0] rfl)
          intro v5 v6 M7 h H locs hH ls hl
          have h : qOk (kX8_year_L43 x2 v5 v6 M7) _ := h
          unfold kX8_year_L43 at h
          refine lv_iload hx hb dX8_year_43 (lv_at hl 4 rfl) ?_
          refine lv_iload_n hx hb dX8_year_45 rfl (lv_at hl 1 rfl) ?_
          refine lv_icmp_ge (tgt := 183) hx hb dX8_year_46 (by decide) (fun hc => ?_) (fun hc => ?_)
          · have h := qOk.t hc h
            exact qOk.le h _ _ hH _ (lv_sub hl [0, 2] rfl)
          · have h := qOk.f hc h
            refine lv_bipush (v := 75) hx hb dX8_year_49 (by decide) ?_
            refine lv_iload hx hb dX8_year_51 (lv_at hl 3 rfl) ?_
            refine lv_imul hx hb dX8_year_53 ?_
            refine lv_bipush (v := 74) hx hb dX8_year_54 (by decide) ?_
            refine lv_iadd hx hb dX8_year_56 ?_
            refine lv_ldc (v := 65537) hx hb hown q184 dX8_year_57 ?_
            refine lv_irem hx hb dX8_year_59 (by decide) ?_
            refine lv_topi (fun v9 ev9 => ?_)
            have h := qOk.v h ev9
            refine lv_istore (lv' := [(4, .int v9), (0, .ref (ad 0)), (2, .int x2), (3, .int x3), (5, .int v6)]) hx hb dX8_year_60 hl (by decide) rfl (fun ls hl => ?_)
            refine lv_iload hx hb dX8_year_62 (lv_at hl 0 rfl) ?_
            refine lv_bipush (v := 8) hx hb dX8_year_64 (by decide) ?_
            refine lv_irem hx hb dX8_year_66 (by decide) ?_
            refine lv_topi (fun v10 ev10 => ?_)
            have h := qOk.v h ev10
            refine lv_istore (lv' := [(6, .int v10), (4, .int v9), (0, .ref (ad 0)), (2, .int x2), (3, .int x3), (5, .int v6)]) hx hb dX8_year_67 hl (by decide) rfl (fun ls hl => ?_)
            refine lv_iload hx hb dX8_year_69 (lv_at hl 1 rfl) ?_
            refine lv_bipush (v := 8) hx hb dX8_year_71 (by decide) ?_
            refine lv_idiv hx hb dX8_year_73 (by decide) ?_
            refine lv_bipush (v := 8) hx hb dX8_year_74 (by decide) ?_
            refine lv_irem hx hb dX8_year_76 (by decide) ?_
            refine lv_topi (fun v11 ev11 => ?_)
            have h := qOk.v h ev11
            refine lv_istore (lv' := [(7, .int v11), (6, .int v10), (4, .int v9), (0, .ref (ad 0)), (2, .int x2), (3, .int x3), (5, .int v6)]) hx hb dX8_year_77 hl (by decide) rfl (fun ls hl => ?_)
            refine lv_iload hx hb dX8_year_79 (lv_at hl 2 rfl) ?_
            refine lv_bipush (v := 64) hx hb dX8_year_81 (by decide) ?_
            refine lv_idiv hx hb dX8_year_83 (by decide) ?_
            refine lv_topi (fun v12 ev12 => ?_)
            have h := qOk.v h ev12
            refine lv_istore (lv' := [(8, .int v12), (7, .int v11), (6, .int v10), (4, .int v9), (0, .ref (ad 0)), (2, .int x2), (3, .int x3), (5, .int v6)]) hx hb dX8_year_84 hl (by decide) rfl (fun ls hl => ?_)
            refine lv_iload hx hb dX8_year_86 (lv_at hl 1 rfl) ?_
            refine lv_iconst (v := 3) hx hb dX8_year_88 (by decide) ?_
            refine qj1 (G := fun (M13 : qM) => ∀ (H : Heap) (locs : List Loc), qHS W2N e2 G ad M13 s.heap H locs → W p l e (headSpec wsX8_year rm_X8_year).room s m [.ref (ad 0), .int x1, .int x2, .int x3].toArray below meth c H locs 0 0 (MQ below (va_Qi P (fun u t => qHp W2N e2 G ad u t.heap) (qA W2N ad s.heap.size)) [.ref (ad 0), .int x1, .int x2, .int x3].toArray s 0 0 (qA W2N ad s.heap.size)) (F0 m 177 ls [])) h ?_ ?_
            rotate_left
            · intro h
              refine lv_icmp_ge (tgt := 107) hx hb dX8_year_89 (by decide) (fun hc => ?_) (fun hc => ?_)
              · have h := qOk.t hc h
                refine lv_iload hx hb dX8_year_107 (lv_at hl 1 rfl) ?_
                refine lv_iconst (v := 3) hx hb dX8_year_109 (by decide) ?_
                refine lv_icmp_ne (tgt := 123) hx hb dX8_year_110 (by decide) (fun hc => ?_) (fun hc => ?_)
                · have h := qOk.f hc h
                  refine lv_iload hx hb dX8_year_123 (lv_at hl 1 rfl) ?_
                  refine lv_bipush (v := 6) hx hb dX8_year_125 (by decide) ?_
                  refine lv_icmp_ge (tgt := 145) hx hb dX8_year_127 (by decide) (fun hc => ?_) (fun hc => ?_)
                  · have h := qOk.t hc h
                    refine lv_iload hx hb dX8_year_145 (lv_at hl 1 rfl) ?_
                    refine lv_bipush (v := 6) hx hb dX8_year_147 (by decide) ?_
                    refine lv_icmp_ne (tgt := 172) hx hb dX8_year_149 (by decide) (fun hc => ?_) (fun hc => ?_)
                    · have h := qOk.f hc h
                      refine lv_aload_n hx hb dX8_year_172 rfl (lv_at hl 4 rfl) ?_
                      refine y_ci hH (va_runV (As := []) (rest := []) ⟨hx, hb, hml, hown, hts⟩ (c_X8_beat l G ad hI M7 _  (qOk.b2 h)) (cwV 0 hts gX8_year_X8_beat rfl rfl rfl (by decide +kernel) ⟨Nat.le_of_ble_eq_true rfl, Nat.le_of_ble_eq_true rfl⟩) ⟨qPre.blind, qrecv hK hH qOb_8 rfl, qPre.at hK hH⟩ rfl rfl hl.1 rfl (lv_room (Nat.le_of_ble_eq_true rfl)) dX8_year_173 ⟨Nat.zero_le _, Nat.zero_le _⟩) (fun v15 M14 H locs hH h => ?_)
                      refine lv_pop hx hb dX8_year_176 rfl ?_
                      have h := qOk.s h
                      exact h _ _ hH
                    · have h := qOk.t hc h
                      refine lv_aload_n hx hb dX8_year_152 rfl (lv_at hl 4 rfl) ?_
                      refine y_get hx hb hts i_X8 hown hK hH qOb_8 rfl 1 (by decide) f13 rfl dX8_year_153 ?_
                      refine lv_bipush (v := 34) hx hb dX8_year_156 (by decide) ?_
                      refine lv_dup2_11 hx hb dX8_year_158 rfl rfl ?_
                      refine y_iald hx hb hK hH qMr_2 h dX8_year_159 (fun v16 h => ?_)
                      refine lv_iconst (v := 1) hx hb dX8_year_160 (by decide) ?_
                      refine lv_iload hx hb dX8_year_161 (lv_at hl 0 rfl) ?_
                      refine lv_bipush (v := 10) hx hb dX8_year_163 (by decide) ?_
                      refine lv_irem hx hb dX8_year_165 (by decide) ?_
                      refine lv_ishl hx hb dX8_year_166 ?_
                      refine lv_ixor hx hb dX8_year_167 ?_
                      refine y_iast hx hb hK hI hH qMr_2 h dX8_year_168 (fun M17 H locs hH h => ?_)
                      refine lv_goto (tgt := 177) hx hb dX8_year_169 (by decide) ?_
                      have h := qOk.s h
                      exact h _ _ hH
                  · have h := qOk.f hc h
                    refine lv_aload_n hx hb dX8_year_130 rfl (lv_at hl 4 rfl) ?_
                    refine lv_iload hx hb dX8_year_131 (lv_at hl 2 rfl) ?_
                    refine lv_iload hx hb dX8_year_133 (lv_at hl 0 rfl) ?_
                    refine lv_bipush (v := 10) hx hb dX8_year_135 (by decide) ?_
                    refine lv_irem hx hb dX8_year_137 (by decide) ?_
                    refine y_ci hH (va_runV (As := [.int v10, .int (v12 - v12 / 10 * 10)]) (rest := []) ⟨hx, hb, hml, hown, hts⟩ (c_X8_go l G ad hI M7 _ v10 (v12 - v12 / 10 * 10) (qOk.b2 h)) (cwV 2 hts gX8_year_X8_go rfl rfl rfl (by decide +kernel) ⟨Nat.le_of_ble_eq_true rfl, Nat.le_of_ble_eq_true rfl⟩) ⟨qPre.blind, qrecv hK hH qOb_8 rfl, qPre.at hK hH⟩ rfl rfl hl.1 rfl (lv_room (Nat.le_of_ble_eq_true rfl)) dX8_year_138 ⟨Nat.zero_le _, Nat.zero_le _⟩) (fun v19 M18 H locs hH h => ?_)
                    refine lv_pop hx hb dX8_year_141 rfl ?_
                    refine lv_goto (tgt := 177) hx hb dX8_year_142 (by decide) ?_
                    have h := qOk.s h
                    exact h _ _ hH
                · have h := qOk.t hc h
                  refine lv_aload_n hx hb dX8_year_113 rfl (lv_at hl 4 rfl) ?_
                  refine lv_iload hx hb dX8_year_114 (lv_at hl 2 rfl) ?_
                  refine y_ci hH (va_runV (As := [.int v10]) (rest := []) ⟨hx, hb, hml, hown, hts⟩ (c_X8_hush l G ad hI M7 _ v10 (qOk.b2 h)) (cwV 1 hts gX8_year_X8_hush rfl rfl rfl (by decide +kernel) ⟨Nat.le_of_ble_eq_true rfl, Nat.le_of_ble_eq_true rfl⟩) ⟨qPre.blind, qrecv hK hH qOb_8 rfl, qPre.at hK hH⟩ rfl rfl hl.1 rfl (lv_room (Nat.le_of_ble_eq_true rfl)) dX8_year_116 ⟨Nat.zero_le _, Nat.zero_le _⟩) (fun v21 M20 H locs hH h => ?_)
                  refine lv_pop hx hb dX8_year_119 rfl ?_
                  refine lv_goto (tgt := 177) hx hb dX8_year_120 (by decide) ?_
                  have h := qOk.s h
                  exact h _ _ hH
              · have h := qOk.f hc h
                refine lv_aload_n hx hb dX8_year_92 rfl (lv_at hl 4 rfl) ?_
                refine lv_iload hx hb dX8_year_93 (lv_at hl 2 rfl) ?_
                refine lv_iload hx hb dX8_year_95 (lv_at hl 0 rfl) ?_
                refine lv_bipush (v := 24) hx hb dX8_year_97 (by decide) ?_
                refine lv_irem hx hb dX8_year_99 (by decide) ?_
                refine y_ci hH (va_runV (As := [.int v10, .int (v12 - v12 / 24 * 24)]) (rest := []) ⟨hx, hb, hml, hown, hts⟩ (c_X8_sing l G ad hI M7 _ v10 (v12 - v12 / 24 * 24) (qOk.b2 h)) (cwV 2 hts gX8_year_X8_sing rfl rfl rfl (by decide +kernel) ⟨Nat.le_of_ble_eq_true rfl, Nat.le_of_ble_eq_true rfl⟩) ⟨qPre.blind, qrecv hK hH qOb_8 rfl, qPre.at hK hH⟩ rfl rfl hl.1 rfl (lv_room (Nat.le_of_ble_eq_true rfl)) dX8_year_100 ⟨Nat.zero_le _, Nat.zero_le _⟩) (fun v23 M22 H locs hH h => ?_)
                refine lv_pop hx hb dX8_year_103 rfl ?_
                refine lv_goto (tgt := 177) hx hb dX8_year_104 (by decide) ?_
                have h := qOk.s h
                exact h _ _ hH
            intro M13 h H locs hH
            obtain ⟨v24, ev24⟩ : ∃ y : Int32, y = v6 + 1 := ⟨_, rfl⟩
            have h := qOk.v h ev24
            refine lv_iinc (v := v24) (lv' := [(5, .int v24), (8, .int v12), (7, .int v11), (6, .int v10), (4, .int v9), (0, .ref (ad 0)), (2, .int x2), (3, .int x3)]) hx hb dX8_year_177 hl (k := 7) rfl (by rw [ev24]; rfl) (by decide) rfl (fun ls hl => ?_)
            refine lv_goto (tgt := 43) hx hb dX8_year_180 (by decide) ?_
            exact qOk.li h _ _ hH _ (lv_sub hl [5, 6, 7, 4, 0] rfl)
        intro M8 h H locs hH ls hl
        refine lv_iconst (v := 0) hx hb dX8_year_183 (by decide) ?_
        refine lv_istore (lv' := [(5, .int 0), (0, .ref (ad 0)), (3, .int x3)]) hx hb dX8_year_184 hl (by decide) rfl (fun ls hl => ?_)
        refine lv_iconst (v := 0) hx hb dX8_year_186 (by decide) ?_
        refine lv_istore (lv' := [(6, .int 0), (5, .int 0), (0, .ref (ad 0)), (3, .int x3)]) hx hb dX8_year_187 hl (by decide) rfl (fun ls hl => ?_)
        refine qj1 (G := fun (v27 : Int32) => ∀ ls : Array Slot, lv_has ls 9 [(0, .ref (ad 0)), (3, .int x3), (5, .int v27)] → W p l e (headSpec wsX8_year rm_X8_year).room s m [.ref (ad 0), .int x1, .int x2, .int x3].toArray below meth c H locs 0 0 (MQ below (va_Qi P (fun u t => qHp W2N e2 G ad u t.heap) (qA W2N ad s.heap.size)) [.ref (ad 0), .int x1, .int x2, .int x3].toArray s 0 0 (qA W2N ad s.heap.size)) (F0 m 234 ls [])) h ?_ ?_
        rotate_left
        · intro h
          refine qloop2 (I := fun (v25 : Int32) (v26 : Int32) => ∀ ls : Array Slot, lv_has ls 9 [(0, .ref (ad 0)), (3, .int x3), (5, .int v25), (6, .int v26)] → W p l e (headSpec wsX8_year rm_X8_year).room s m [.ref (ad 0), .int x1, .int x2, .int x3].toArray below meth c H locs 0 0 (MQ below (va_Qi P (fun u t => qHp W2N e2 G ad u t.heap) (qA W2N ad s.heap.size)) [.ref (ad 0), .int x1, .int x2, .int x3].toArray s 0 0 (qA W2N ad s.heap.size)) (F0 m 189 ls [])) ?_ h _ (lv_sub hl [2, 3, 1, 0] rfl)
          intro v25 v26 h ls hl
          have h : qOk (kX8_year_L189 M8 v25 v26) _ := h
          unfold kX8_year_L189 at h
          refine lv_iload hx hb dX8_year_189 (lv_at hl 3 rfl) ?_
          refine lv_bipush (v := 8) hx hb dX8_year_191 (by decide) ?_
          refine lv_icmp_ge (tgt := 234) hx hb dX8_year_193 (by decide) (fun hc => ?_) (fun hc => ?_)
          · have h := qOk.t hc h
            exact qOk.le h _ (lv_sub hl [0, 1, 2] rfl)
          · have h := qOk.f hc h
            refine lv_iload hx hb dX8_year_196 (lv_at hl 2 rfl) ?_
            refine lv_aload_n hx hb dX8_year_198 rfl (lv_at hl 0 rfl) ?_
            refine y_get hx hb hts i_X8 hown hK hH qOb_8 rfl 2 (by decide) f63 rfl dX8_year_199 ?_
            refine lv_iload hx hb dX8_year_202 (lv_at hl 3 rfl) ?_
            refine y_cs (va_runS (As := [.int (M8 0 2), .int v26]) (rest := [.int v25]) ⟨hx, hb, hml, hown, hts⟩ (c_X8_has l (M8 0 2) v26 (qOk.b1 h)) (va_cwS 2 hts gX8_year_X8_has rfl rfl rfl (by decide +kernel) ⟨Nat.le_of_ble_eq_true rfl, Nat.le_of_ble_eq_true rfl⟩) ⟨qPrT.blind, qPrT.at⟩ rfl rfl hl.1 rfl (lv_room (Nat.le_of_ble_eq_true rfl)) dX8_year_204 ⟨Nat.zero_le _, Nat.zero_le _⟩) (fun v28 h => ?_)
            refine qj1 (G := fun (v29 : Int32) => W p l e (headSpec wsX8_year rm_X8_year).room s m [.ref (ad 0), .int x1, .int x2, .int x3].toArray below meth c H locs 0 0 (MQ below (va_Qi P (fun u t => qHp W2N e2 G ad u t.heap) (qA W2N ad s.heap.size)) [.ref (ad 0), .int x1, .int x2, .int x3].toArray s 0 0 (qA W2N ad s.heap.size)) (F0 m 225 ls [.int v29, .int v25])) h ?_ ?_
            rotate_left
            · intro h
              refine lv_if_eq (tgt := 224) hx hb dX8_year_207 (by decide) (fun hc => ?_) (fun hc => ?_)
              · have h := qOk.t hc h
                refine lv_iconst (v := 0) hx hb dX8_year_224 (by decide) ?_
                have h := qOk.s h
                exact h
              · have h := qOk.f hc h
                refine lv_aload_n hx hb dX8_year_210 rfl (lv_at hl 0 rfl) ?_
                refine y_get hx hb hts i_X8 hown hK hH qOb_8 rfl 1 (by decide) f13 rfl dX8_year_211 ?_
                refine lv_iload hx hb dX8_year_214 (lv_at hl 3 rfl) ?_
                refine y_iald hx hb hK hH qMr_2 h dX8_year_216 (fun v30 h => ?_)
                refine lv_if_lt (tgt := 224) hx hb dX8_year_217 (by decide) (fun hc => ?_) (fun hc => ?_)
                · have h := qOk.t hc h
                  refine lv_iconst (v := 0) hx hb dX8_year_224 (by decide) ?_
                  have h := qOk.s h
                  exact h
                · have h := qOk.f hc h
                  refine lv_iconst (v := 1) hx hb dX8_year_220 (by decide) ?_
                  refine lv_goto (tgt := 225) hx hb dX8_year_221 (by decide) ?_
                  have h := qOk.s h
                  exact h
            intro v29 h
            refine lv_iadd hx hb dX8_year_225 ?_
            refine lv_topi (fun v31 ev31 => ?_)
            have h := qOk.v h ev31
            refine lv_istore (lv' := [(5, .int v31), (0, .ref (ad 0)), (3, .int x3), (6, .int v26)]) hx hb dX8_year_226 hl (by decide) rfl (fun ls hl => ?_)
            obtain ⟨v32, ev32⟩ : ∃ y : Int32, y = v26 + 1 := ⟨_, rfl⟩
            have h := qOk.v h ev32
            refine lv_iinc (v := v32) (lv' := [(6, .int v32), (5, .int v31), (0, .ref (ad 0)), (3, .int x3)]) hx hb dX8_year_228 hl (k := 3) rfl (by rw [ev32]; rfl) (by decide) rfl (fun ls hl => ?_)
            refine lv_goto (tgt := 189) hx hb dX8_year_231 (by decide) ?_
            exact qOk.li h _ (lv_sub hl [2, 3, 1, 0] rfl)
        intro v27 h ls hl
        refine lv_iload_n hx hb dX8_year_234 rfl (lv_at hl 1 rfl) ?_
        refine qj1 (G := fun (v33 : Int32) => W p l e (headSpec wsX8_year rm_X8_year).room s m [.ref (ad 0), .int x1, .int x2, .int x3].toArray below meth c H locs 0 0 (MQ below (va_Qi P (fun u t => qHp W2N e2 G ad u t.heap) (qA W2N ad s.heap.size)) [.ref (ad 0), .int x1, .int x2, .int x3].toArray s 0 0 (qA W2N ad s.heap.size)) (F0 m 262 ls [.int v33])) h ?_ ?_
        rotate_left
        · intro h
          refine lv_if_ne (tgt := 245) hx hb dX8_year_235 (by decide) (fun hc => ?_) (fun hc => ?_)
          · have h := qOk.f hc h
            refine lv_iload_n hx hb dX8_year_245 rfl (lv_at hl 1 rfl) ?_
            refine lv_iconst (v := 1) hx hb dX8_year_246 (by decide) ?_
            refine lv_icmp_ne (tgt := 260) hx hb dX8_year_247 (by decide) (fun hc => ?_) (fun hc => ?_)
            · have h := qOk.f hc h
              refine lv_iload hx hb dX8_year_260 (lv_at hl 2 rfl) ?_
              have h := qOk.s h
              exact h
            · have h := qOk.t hc h
              refine lv_aload_n hx hb dX8_year_250 rfl (lv_at hl 0 rfl) ?_
              refine y_cs (va_runV (As := []) (rest := []) ⟨hx, hb, hml, hown, hts⟩ (c_X8_lamps l G ad hI M8 _  (qOk.b1 h)) (cwV 0 hts gX8_year_X8_lamps rfl rfl rfl (by decide +kernel) ⟨Nat.le_of_ble_eq_true rfl, Nat.le_of_ble_eq_true rfl⟩) ⟨qPre.blind, qrecv hK hH qOb_8 rfl, qPre.at hK hH⟩ rfl rfl hl.1 rfl (lv_room (Nat.le_of_ble_eq_true rfl)) dX8_year_251 ⟨Nat.zero_le _, Nat.zero_le _⟩) (fun v34 h => ?_)
              refine y_cs (va_runS (As := [.int v34]) (rest := []) ⟨hx, hb, hml, hown, hts⟩ (c_X8_bits l v34 (qOk.b1 h)) (va_cwS 1 hts gX8_year_X8_bits rfl rfl rfl (by decide +kernel) ⟨Nat.le_of_ble_eq_true rfl, Nat.le_of_ble_eq_true rfl⟩) ⟨qPrT.blind, qPrT.at⟩ rfl rfl hl.1 rfl (lv_room (Nat.le_of_ble_eq_true rfl)) dX8_year_254 ⟨Nat.zero_le _, Nat.zero_le _⟩) (fun v35 h => ?_)
              refine lv_goto (tgt := 262) hx hb dX8_year_257 (by decide) ?_
              have h := qOk.s h
              exact h
          · have h := qOk.t hc h
            refine lv_aload_n hx hb dX8_year_238 rfl (lv_at hl 0 rfl) ?_
            refine y_cs (va_runV (As := []) (rest := []) ⟨hx, hb, hml, hown, hts⟩ (c_X8_coal l G ad hI M8 _  (qOk.b1 h)) (cwV 0 hts gX8_year_X8_coal rfl rfl rfl (by decide +kernel) ⟨Nat.le_of_ble_eq_true rfl, Nat.le_of_ble_eq_true rfl⟩) ⟨qPre.blind, qrecv hK hH qOb_8 rfl, qPre.at hK hH⟩ rfl rfl hl.1 rfl (lv_room (Nat.le_of_ble_eq_true rfl)) dX8_year_239 ⟨Nat.zero_le _, Nat.zero_le _⟩) (fun v36 h => ?_)
            refine lv_goto (tgt := 262) hx hb dX8_year_242 (by decide) ?_
            have h := qOk.s h
            exact h
        intro v33 h
        exact W.iret hx hb hr (fun t ht _ => ⟨⟨_, _, rfl, qOk2.s h, qHpt ht hH.1⟩, hH.2.F ht⟩) hH.2.2.2 dX8_year_262
      · have h := qOk.t hc h
        refine lv_bipush (v := (-2)) hx hb dX8_year_30 (by decide) ?_
        exact W.iret hx hb hr (fun t ht _ => ⟨⟨_, _, rfl, qOk2.s h, qHpt ht hH.1⟩, hH.2.F ht⟩) hH.2.2.2 dX8_year_32
abbrev rm_X8_image : Room := { frames := 1, cells := 0, slots := 0, locals := 22 }
set_option maxHeartbeats 4000000 in
set_option maxRecDepth 100000 in
theorem c_X8_image (l : Launch) (G : qG) (ad : Nat → Nat) (hI : qI W2N ad) (M : qM) (sz : Nat) (x1 : Int32) {P : Int32 → qM → Prop} (h : qOk2 (kX8_image M x1) P) : Met l yX8_image wsX8_image rm_X8_image (va_Pc [.ref (ad 0), .int x1] (qPre W2N e2 G ad M sz)) (va_Qi P (fun u t => qHp W2N e2 G ad u t.heap) (qA W2N ad sz)) 0 0 (qA W2N ad sz) := by
  refine Met.ofW (cc := cX8_image) (maxL := 4) (ret := (some .int)) (by decide) rfl ?_
  intro p e s m args below meth c s₁ B hml hv
  obtain ⟨rfl, hsz, hK, hP⟩ := hv
  subst hsz
  have hx := B.exec
  have hb := B.bytes
  have hr := B.returns
  have hts := atoms_spec (ws := wsX8_image) B.pre
  have hown : s.vm.findClass RX8 = some m.cls := findClass_of_methodNamed B.named
  have hlocks := B.notSynchronized
  have hH : qHS W2N e2 G ad M s.heap s.heap [] := ⟨hP, va_S.rf⟩
  have f53 : (Cond.fieldLink RX8 53 "SongLampsModel" "image" "[I").before [.ref (ad 0), .int x1].toArray s = true := hts _ (by decide +kernel)
  have i_X8 : ∀ w ∈ wsX80, w ∈ wsX8_image := fun w hw => List.mem_cons_of_mem _ ((List.mem_append_right _ hw))
  have f7 : (Cond.fieldLink RX8 7 "SongLampsModel" "book" "[I").before [.ref (ad 0), .int x1].toArray s = true := hts _ (by decide +kernel)
  have f16 : (Cond.fieldLink RX8 16 "SongLampsModel" "low" "[I").before [.ref (ad 0), .int x1].toArray s = true := hts _ (by decide +kernel)
  have f19 : (Cond.fieldLink RX8 19 "SongLampsModel" "high" "[I").before [.ref (ad 0), .int x1].toArray s = true := hts _ (by decide +kernel)
  have f22 : (Cond.fieldLink RX8 22 "SongLampsModel" "lungs" "[I").before [.ref (ad 0), .int x1].toArray s = true := hts _ (by decide +kernel)
  have f25 : (Cond.fieldLink RX8 25 "SongLampsModel" "passages" "[I").before [.ref (ad 0), .int x1].toArray s = true := hts _ (by decide +kernel)
  have f28 : (Cond.fieldLink RX8 28 "SongLampsModel" "echo" "[I").before [.ref (ad 0), .int x1].toArray s = true := hts _ (by decide +kernel)
  have f31 : (Cond.fieldLink RX8 31 "SongLampsModel" "sight" "[I").before [.ref (ad 0), .int x1].toArray s = true := hts _ (by decide +kernel)
  have f63 : (Cond.fieldLink RX8 63 "SongLampsModel" "there" "I").before [.ref (ad 0), .int x1].toArray s = true := hts _ (by decide +kernel)
  have f79 : (Cond.fieldLink RX8 79 "SongLampsModel" "gas" "I").before [.ref (ad 0), .int x1].toArray s = true := hts _ (by decide +kernel)
  have f160 : (Cond.fieldLink RX8 160 "SongLampsModel" "sights" "I").before [.ref (ad 0), .int x1].toArray s = true := hts _ (by decide +kernel)
  have f56 : (Cond.fieldLink RX8 56 "SongLampsModel" "isKept" "[Z").before [.ref (ad 0), .int x1].toArray s = true := hts _ (by decide +kernel)
  have hl := lv_entry ([.ref (ad 0), .int x1]) (n := 4) (Nat.le_of_ble_eq_true rfl)
  rw [lg_entry_eq]
  generalize (lg_sl ([.ref (ad 0), .int x1]) ++ List.replicate (4 - (lg_sl ([.ref (ad 0), .int x1])).length) Slot.unset).toArray = ls at hl ⊢
  have hl : lv_has ls 4 [(0, .ref (ad 0)), (1, .int x1)] := hl
  have h : qOk (kX8_image M x1) _ := h
  unfold kX8_image at h
  refine lv_iload_n hx hb dX8_image_0 rfl (lv_at hl 1 rfl) ?_
  refine lv_iconst (v := 0) hx hb dX8_image_1 (by decide) ?_
  refine lv_iconst (v := 1) hx hb dX8_image_2 (by decide) ?_
  refine y_cs (va_runS (As := [.int x1, .int 0, .int 1]) (rest := []) ⟨hx, hb, hml, hown, hts⟩ (c_X8_in l x1 0 1 (qOk.b1 h)) (va_cwS 3 hts gX8_image_X8_in rfl rfl rfl (by decide +kernel) ⟨Nat.le_of_ble_eq_true rfl, Nat.le_of_ble_eq_true rfl⟩) ⟨qPrT.blind, qPrT.at⟩ rfl rfl hl.1 rfl (lv_room (Nat.le_of_ble_eq_true rfl)) dX8_image_3 ⟨Nat.zero_le _, Nat.zero_le _⟩) (fun v1 h => ?_)
  refine lv_if_ne (tgt := 12) hx hb dX8_image_6 (by decide) (fun hc => ?_) (fun hc => ?_)
  · have h := qOk.f hc h
    refine lv_bipush (v := 110) hx hb dX8_image_12 (by decide) ?_
    refine lv_iload_n hx hb dX8_image_14 rfl (lv_at hl 1 rfl) ?_
    refine lv_imul hx hb dX8_image_15 ?_
    refine lv_topi (fun v2 ev2 => ?_)
    have h := qOk.v h ev2
    refine lv_istore_n (lv' := [(2, .int v2), (0, .ref (ad 0)), (1, .int x1)]) hx hb dX8_image_16 rfl hl (by decide) rfl (fun ls hl => ?_)
    refine lv_iconst (v := 0) hx hb dX8_image_17 (by decide) ?_
    refine lv_istore_n (lv' := [(3, .int 0), (2, .int v2), (0, .ref (ad 0)), (1, .int x1)]) hx hb dX8_image_18 rfl hl (by decide) rfl (fun ls hl => ?_)
    refine qj1 (G := fun (M5 : qM) => ∀ (H : Heap) (locs : List Loc), qHS W2N e2 G ad M5 s.heap H locs → ∀ ls : Array Slot, lv_has ls 4 [(0, .ref (ad 0)), (1, .int x1), (2, .int v2)] → W p l e (headSpec wsX8_image rm_X8_image).room s m [.ref (ad 0), .int x1].toArray below meth c H locs 0 0 (MQ below (va_Qi P (fun u t => qHp W2N e2 G ad u t.heap) (qA W2N ad s.heap.size)) [.ref (ad 0), .int x1].toArray s 0 0 (qA W2N ad s.heap.size)) (F0 m 45 ls [])) h ?_ ?_
    rotate_left
    · intro h
      refine qloop2 (I := fun (v3 : Int32) (M4 : qM) => ∀ (H : Heap) (locs : List Loc), qHS W2N e2 G ad M4 s.heap H locs → ∀ ls : Array Slot, lv_has ls 4 [(0, .ref (ad 0)), (1, .int x1), (2, .int v2), (3, .int v3)] → W p l e (headSpec wsX8_image rm_X8_image).room s m [.ref (ad 0), .int x1].toArray below meth c H locs 0 0 (MQ below (va_Qi P (fun u t => qHp W2N e2 G ad u t.heap) (qA W2N ad s.heap.size)) [.ref (ad 0), .int x1].toArray s 0 0 (qA W2N ad s.heap.size)) (F0 m 19 ls [])) ?_ h _ _ hH _ (lv_sub hl [2, 3, 1, 0] rfl)
      intro v3 M4 h H locs hH ls hl
      have h : qOk (kX8_image_L19 v2 v3 M4) _ := h
      unfold kX8_image_L19 at h
      refine lv_iload_n hx hb dX8_image_19 rfl (lv_at hl 3 rfl) ?_
      refine lv_bipush (v := 36) hx hb dX8_image_20 (by decide) ?_
      refine lv_icmp_ge (tgt := 45) hx hb dX8_image_22 (by decide) (fun hc => ?_) (fun hc => ?_)
      · have h := qOk.t hc h
        exact qOk.le h _ _ hH _ (lv_sub hl [0, 1, 2] rfl)
      · have h := qOk.f hc h
        refine lv_aload_n hx hb dX8_image_25 rfl (lv_at hl 0 rfl) ?_
        refine y_get hx hb hts i_X8 hown hK hH qOb_8 rfl 22 (by decide) f53 rfl dX8_image_26 ?_
        refine lv_iload_n hx hb dX8_image_29 rfl (lv_at hl 2 rfl) ?_
        refine lv_iload_n hx hb dX8_image_30 rfl (lv_at hl 3 rfl) ?_
        refine lv_iadd hx hb dX8_image_31 ?_
        refine lv_aload_n hx hb dX8_image_32 rfl (lv_at hl 0 rfl) ?_
        refine y_get hx hb hts i_X8 hown hK hH qOb_8 rfl 0 (by decide) f7 rfl dX8_image_33 ?_
        refine lv_iload_n hx hb dX8_image_36 rfl (lv_at hl 3 rfl) ?_
        refine y_iald hx hb hK hH qMr_1 h dX8_image_37 (fun v6 h => ?_)
        refine y_iast hx hb hK hI hH qMr_15 h dX8_image_38 (fun M7 H locs hH h => ?_)
        obtain ⟨v8, ev8⟩ : ∃ y : Int32, y = v3 + 1 := ⟨_, rfl⟩
        have h := qOk.v h ev8
        refine lv_iinc (v := v8) (lv' := [(3, .int v8), (0, .ref (ad 0)), (1, .int x1), (2, .int v2)]) hx hb dX8_image_39 hl (k := 3) rfl (by rw [ev8]; rfl) (by decide) rfl (fun ls hl => ?_)
        refine lv_goto (tgt := 19) hx hb dX8_image_42 (by decide) ?_
        exact qOk.li h _ _ hH _ (lv_sub hl [1, 2, 3, 0] rfl)
    intro M5 h H locs hH ls hl
    refine lv_iconst (v := 0) hx hb dX8_image_45 (by decide) ?_
    refine lv_istore_n (lv' := [(3, .int 0), (0, .ref (ad 0)), (1, .int x1), (2, .int v2)]) hx hb dX8_image_46 rfl hl (by decide) rfl (fun ls hl => ?_)
    refine qj1 (G := fun (M11 : qM) => ∀ (H : Heap) (locs : List Loc), qHS W2N e2 G ad M11 s.heap H locs → ∀ ls : Array Slot, lv_has ls 4 [(0, .ref (ad 0)), (1, .int x1), (2, .int v2)] → W p l e (headSpec wsX8_image rm_X8_image).room s m [.ref (ad 0), .int x1].toArray below meth c H locs 0 0 (MQ below (va_Qi P (fun u t => qHp W2N e2 G ad u t.heap) (qA W2N ad s.heap.size)) [.ref (ad 0), .int x1].toArray s 0 0 (qA W2N ad s.heap.size)) (F0 m 110 ls [])) h ?_ ?_
    rotate_left
    · intro h
      refine qloop2 (I := fun (v9 : Int32) (M10 : qM) => ∀ (H : Heap) (locs : List Loc), qHS W2N e2 G ad M10 s.heap H locs → ∀ ls : Array Slot, lv_has ls 4 [(0, .ref (ad 0)), (1, .int x1), (2, .int v2), (3, .int v9)] → W p l e (headSpec wsX8_image rm_X8_image).room s m [.ref (ad 0), .int x1].toArray below meth c H locs 0 0 (MQ below (va_Qi P (fun u t => qHp W2N e2 G ad u t.heap) (qA W2N ad s.heap.size)) [.ref (ad 0), .int x1].toArray s 0 0 (qA W2N ad s.heap.size)) (F0 m 47 ls [])) ?_ h _ _ hH _ (lv_sub hl [1, 2, 3, 0] rfl)
      intro v9 M10 h H locs hH ls hl
      have h : qOk (kX8_image_L47 v2 v9 M10) _ := h
      unfold kX8_image_L47 at h
      refine lv_iload_n hx hb dX8_image_47 rfl (lv_at hl 3 rfl) ?_
      refine lv_bipush (v := 8) hx hb dX8_image_48 (by decide) ?_
      refine lv_icmp_ge (tgt := 110) hx hb dX8_image_50 (by decide) (fun hc => ?_) (fun hc => ?_)
      · have h := qOk.t hc h
        exact qOk.le h _ _ hH _ (lv_sub hl [0, 1, 2] rfl)
      · have h := qOk.f hc h
        refine lv_aload_n hx hb dX8_image_53 rfl (lv_at hl 0 rfl) ?_
        refine y_get hx hb hts i_X8 hown hK hH qOb_8 rfl 22 (by decide) f53 rfl dX8_image_54 ?_
        refine lv_iload_n hx hb dX8_image_57 rfl (lv_at hl 2 rfl) ?_
        refine lv_bipush (v := 36) hx hb dX8_image_58 (by decide) ?_
        refine lv_iadd hx hb dX8_image_60 ?_
        refine lv_iload_n hx hb dX8_image_61 rfl (lv_at hl 3 rfl) ?_
        refine lv_iadd hx hb dX8_image_62 ?_
        refine lv_aload_n hx hb dX8_image_63 rfl (lv_at hl 0 rfl) ?_
        refine y_get hx hb hts i_X8 hown hK hH qOb_8 rfl 3 (by decide) f16 rfl dX8_image_64 ?_
        refine lv_iload_n hx hb dX8_image_67 rfl (lv_at hl 3 rfl) ?_
        refine y_iald hx hb hK hH qMr_3 h dX8_image_68 (fun v12 h => ?_)
        refine y_iast hx hb hK hI hH qMr_15 h dX8_image_69 (fun M13 H locs hH h => ?_)
        refine lv_aload_n hx hb dX8_image_70 rfl (lv_at hl 0 rfl) ?_
        refine y_get hx hb hts i_X8 hown hK hH qOb_8 rfl 22 (by decide) f53 rfl dX8_image_71 ?_
        refine lv_iload_n hx hb dX8_image_74 rfl (lv_at hl 2 rfl) ?_
        refine lv_bipush (v := 44) hx hb dX8_image_75 (by decide) ?_
        refine lv_iadd hx hb dX8_image_77 ?_
        refine lv_iload_n hx hb dX8_image_78 rfl (lv_at hl 3 rfl) ?_
        refine lv_iadd hx hb dX8_image_79 ?_
        refine lv_aload_n hx hb dX8_image_80 rfl (lv_at hl 0 rfl) ?_
        refine y_get hx hb hts i_X8 hown hK hH qOb_8 rfl 4 (by decide) f19 rfl dX8_image_81 ?_
        refine lv_iload_n hx hb dX8_image_84 rfl (lv_at hl 3 rfl) ?_
        refine y_iald hx hb hK hH qMr_4 h dX8_image_85 (fun v14 h => ?_)
        refine y_iast hx hb hK hI hH qMr_15 h dX8_image_86 (fun M15 H locs hH h => ?_)
        refine lv_aload_n hx hb dX8_image_87 rfl (lv_at hl 0 rfl) ?_
        refine y_get hx hb hts i_X8 hown hK hH qOb_8 rfl 22 (by decide) f53 rfl dX8_image_88 ?_
        refine lv_iload_n hx hb dX8_image_91 rfl (lv_at hl 2 rfl) ?_
        refine lv_bipush (v := 52) hx hb dX8_image_92 (by decide) ?_
        refine lv_iadd hx hb dX8_image_94 ?_
        refine lv_iload_n hx hb dX8_image_95 rfl (lv_at hl 3 rfl) ?_
        refine lv_iadd hx hb dX8_image_96 ?_
        refine lv_aload_n hx hb dX8_image_97 rfl (lv_at hl 0 rfl) ?_
        refine y_get hx hb hts i_X8 hown hK hH qOb_8 rfl 5 (by decide) f22 rfl dX8_image_98 ?_
        refine lv_iload_n hx hb dX8_image_101 rfl (lv_at hl 3 rfl) ?_
        refine y_iald hx hb hK hH qMr_5 h dX8_image_102 (fun v16 h => ?_)
        refine y_iast hx hb hK hI hH qMr_15 h dX8_image_103 (fun M17 H locs hH h => ?_)
        obtain ⟨v18, ev18⟩ : ∃ y : Int32, y = v9 + 1 := ⟨_, rfl⟩
        have h := qOk.v h ev18
        refine lv_iinc (v := v18) (lv' := [(3, .int v18), (0, .ref (ad 0)), (1, .int x1), (2, .int v2)]) hx hb dX8_image_104 hl (k := 3) rfl (by rw [ev18]; rfl) (by decide) rfl (fun ls hl => ?_)
        refine lv_goto (tgt := 47) hx hb dX8_image_107 (by decide) ?_
        exact qOk.li h _ _ hH _ (lv_sub hl [1, 2, 3, 0] rfl)
    intro M11 h H locs hH ls hl
    refine lv_iconst (v := 0) hx hb dX8_image_110 (by decide) ?_
    refine lv_istore_n (lv' := [(3, .int 0), (0, .ref (ad 0)), (1, .int x1), (2, .int v2)]) hx hb dX8_image_111 rfl hl (by decide) rfl (fun ls hl => ?_)
    refine qj1 (G := fun (M21 : qM) => ∀ (H : Heap) (locs : List Loc), qHS W2N e2 G ad M21 s.heap H locs → ∀ ls : Array Slot, lv_has ls 4 [(0, .ref (ad 0)), (1, .int x1), (2, .int v2)] → W p l e (headSpec wsX8_image rm_X8_image).room s m [.ref (ad 0), .int x1].toArray below meth c H locs 0 0 (MQ below (va_Qi P (fun u t => qHp W2N e2 G ad u t.heap) (qA W2N ad s.heap.size)) [.ref (ad 0), .int x1].toArray s 0 0 (qA W2N ad s.heap.size)) (F0 m 158 ls [])) h ?_ ?_
    rotate_left
    · intro h
      refine qloop2 (I := fun (v19 : Int32) (M20 : qM) => ∀ (H : Heap) (locs : List Loc), qHS W2N e2 G ad M20 s.heap H locs → ∀ ls : Array Slot, lv_has ls 4 [(0, .ref (ad 0)), (1, .int x1), (2, .int v2), (3, .int v19)] → W p l e (headSpec wsX8_image rm_X8_image).room s m [.ref (ad 0), .int x1].toArray below meth c H locs 0 0 (MQ below (va_Qi P (fun u t => qHp W2N e2 G ad u t.heap) (qA W2N ad s.heap.size)) [.ref (ad 0), .int x1].toArray s 0 0 (qA W2N ad s.heap.size)) (F0 m 112 ls [])) ?_ h _ _ hH _ (lv_sub hl [1, 2, 3, 0] rfl)
      intro v19 M20 h H locs hH ls hl
      have h : qOk (kX8_image_L112 v2 v19 M20) _ := h
      unfold kX8_image_L112 at h
      refine lv_iload_n hx hb dX8_image_112 rfl (lv_at hl 3 rfl) ?_
      refine lv_bipush (v := 10) hx hb dX8_image_113 (by decide) ?_
      refine lv_icmp_ge (tgt := 158) hx hb dX8_image_115 (by decide) (fun hc => ?_) (fun hc => ?_)
      · have h := qOk.t hc h
        exact qOk.le h _ _ hH _ (lv_sub hl [0, 1, 2] rfl)
      · have h := qOk.f hc h
        refine lv_aload_n hx hb dX8_image_118 rfl (lv_at hl 0 rfl) ?_
        refine y_get hx hb hts i_X8 hown hK hH qOb_8 rfl 22 (by decide) f53 rfl dX8_image_119 ?_
        refine lv_iload_n hx hb dX8_image_122 rfl (lv_at hl 2 rfl) ?_
        refine lv_bipush (v := 60) hx hb dX8_image_123 (by decide) ?_
        refine lv_iadd hx hb dX8_image_125 ?_
        refine lv_iload_n hx hb dX8_image_126 rfl (lv_at hl 3 rfl) ?_
        refine lv_iadd hx hb dX8_image_127 ?_
        refine lv_aload_n hx hb dX8_image_128 rfl (lv_at hl 0 rfl) ?_
        refine y_get hx hb hts i_X8 hown hK hH qOb_8 rfl 6 (by decide) f25 rfl dX8_image_129 ?_
        refine lv_iload_n hx hb dX8_image_132 rfl (lv_at hl 3 rfl) ?_
        refine y_iald hx hb hK hH qMr_6 h dX8_image_133 (fun v22 h => ?_)
        refine y_iast hx hb hK hI hH qMr_15 h dX8_image_134 (fun M23 H locs hH h => ?_)
        refine lv_aload_n hx hb dX8_image_135 rfl (lv_at hl 0 rfl) ?_
        refine y_get hx hb hts i_X8 hown hK hH qOb_8 rfl 22 (by decide) f53 rfl dX8_image_136 ?_
        refine lv_iload_n hx hb dX8_image_139 rfl (lv_at hl 2 rfl) ?_
        refine lv_bipush (v := 70) hx hb dX8_image_140 (by decide) ?_
        refine lv_iadd hx hb dX8_image_142 ?_
        refine lv_iload_n hx hb dX8_image_143 rfl (lv_at hl 3 rfl) ?_
        refine lv_iadd hx hb dX8_image_144 ?_
        refine lv_aload_n hx hb dX8_image_145 rfl (lv_at hl 0 rfl) ?_
        refine y_get hx hb hts i_X8 hown hK hH qOb_8 rfl 7 (by decide) f28 rfl dX8_image_146 ?_
        refine lv_iload_n hx hb dX8_image_149 rfl (lv_at hl 3 rfl) ?_
        refine y_iald hx hb hK hH qMr_7 h dX8_image_150 (fun v24 h => ?_)
        refine y_iast hx hb hK hI hH qMr_15 h dX8_image_151 (fun M25 H locs hH h => ?_)
        obtain ⟨v26, ev26⟩ : ∃ y : Int32, y = v19 + 1 := ⟨_, rfl⟩
        have h := qOk.v h ev26
        refine lv_iinc (v := v26) (lv' := [(3, .int v26), (0, .ref (ad 0)), (1, .int x1), (2, .int v2)]) hx hb dX8_image_152 hl (k := 3) rfl (by rw [ev26]; rfl) (by decide) rfl (fun ls hl => ?_)
        refine lv_goto (tgt := 112) hx hb dX8_image_155 (by decide) ?_
        exact qOk.li h _ _ hH _ (lv_sub hl [1, 2, 3, 0] rfl)
    intro M21 h H locs hH ls hl
    refine lv_iconst (v := 0) hx hb dX8_image_158 (by decide) ?_
    refine lv_istore_n (lv' := [(3, .int 0), (0, .ref (ad 0)), (1, .int x1), (2, .int v2)]) hx hb dX8_image_159 rfl hl (by decide) rfl (fun ls hl => ?_)
    refine qj1 (G := fun (M29 : qM) => ∀ (H : Heap) (locs : List Loc), qHS W2N e2 G ad M29 s.heap H locs → ∀ ls : Array Slot, lv_has ls 4 [(0, .ref (ad 0)), (1, .int x1), (2, .int v2)] → W p l e (headSpec wsX8_image rm_X8_image).room s m [.ref (ad 0), .int x1].toArray below meth c H locs 0 0 (MQ below (va_Qi P (fun u t => qHp W2N e2 G ad u t.heap) (qA W2N ad s.heap.size)) [.ref (ad 0), .int x1].toArray s 0 0 (qA W2N ad s.heap.size)) (F0 m 189 ls [])) h ?_ ?_
    rotate_left
    · intro h
      refine qloop2 (I := fun (v27 : Int32) (M28 : qM) => ∀ (H : Heap) (locs : List Loc), qHS W2N e2 G ad M28 s.heap H locs → ∀ ls : Array Slot, lv_has ls 4 [(0, .ref (ad 0)), (1, .int x1), (2, .int v2), (3, .int v27)] → W p l e (headSpec wsX8_image rm_X8_image).room s m [.ref (ad 0), .int x1].toArray below meth c H locs 0 0 (MQ below (va_Qi P (fun u t => qHp W2N e2 G ad u t.heap) (qA W2N ad s.heap.size)) [.ref (ad 0), .int x1].toArray s 0 0 (qA W2N ad s.heap.size)) (F0 m 160 ls [])) ?_ h _ _ hH _ (lv_sub hl [1, 2, 3, 0] rfl)
      intro v27 M28 h H locs hH ls hl
      have h : qOk (kX8_image_L160 v2 v27 M28) _ := h
      unfold kX8_image_L160 at h
      refine lv_iload_n hx hb dX8_image_160 rfl (lv_at hl 3 rfl) ?_
      refine lv_bipush (v := 16) hx hb dX8_image_161 (by decide) ?_
      refine lv_icmp_ge (tgt := 189) hx hb dX8_image_163 (by decide) (fun hc => ?_) (fun hc => ?_)
      · have h := qOk.t hc h
        exact qOk.le h _ _ hH _ (lv_sub hl [0, 1, 2] rfl)
      · have h := qOk.f hc h
        refine lv_aload_n hx hb dX8_image_166 rfl (lv_at hl 0 rfl) ?_
        refine y_get hx hb hts i_X8 hown hK hH qOb_8 rfl 22 (by decide) f53 rfl dX8_image_167 ?_
        refine lv_iload_n hx hb dX8_image_170 rfl (lv_at hl 2 rfl) ?_
        refine lv_bipush (v := 80) hx hb dX8_image_171 (by decide) ?_
        refine lv_iadd hx hb dX8_image_173 ?_
        refine lv_iload_n hx hb dX8_image_174 rfl (lv_at hl 3 rfl) ?_
        refine lv_iadd hx hb dX8_image_175 ?_
        refine lv_aload_n hx hb dX8_image_176 rfl (lv_at hl 0 rfl) ?_
        refine y_get hx hb hts i_X8 hown hK hH qOb_8 rfl 10 (by decide) f31 rfl dX8_image_177 ?_
        refine lv_iload_n hx hb dX8_image_180 rfl (lv_at hl 3 rfl) ?_
        refine y_iald hx hb hK hH qMr_8 h dX8_image_181 (fun v30 h => ?_)
        refine y_iast hx hb hK hI hH qMr_15 h dX8_image_182 (fun M31 H locs hH h => ?_)
        obtain ⟨v32, ev32⟩ : ∃ y : Int32, y = v27 + 1 := ⟨_, rfl⟩
        have h := qOk.v h ev32
        refine lv_iinc (v := v32) (lv' := [(3, .int v32), (0, .ref (ad 0)), (1, .int x1), (2, .int v2)]) hx hb dX8_image_183 hl (k := 3) rfl (by rw [ev32]; rfl) (by decide) rfl (fun ls hl => ?_)
        refine lv_goto (tgt := 160) hx hb dX8_image_186 (by decide) ?_
        exact qOk.li h _ _ hH _ (lv_sub hl [1, 2, 3, 0] rfl)
    intro M29 h H locs hH ls hl
    refine lv_aload_n hx hb dX8_image_189 rfl (lv_at hl 0 rfl) ?_
    refine y_get hx hb hts i_X8 hown hK hH qOb_8 rfl 22 (by decide) f53 rfl dX8_image_190 ?_
    refine lv_iload_n hx hb dX8_image_193 rfl (lv_at hl 2 rfl) ?_
    refine lv_bipush (v := 100) hx hb dX8_image_194 (by decide) ?_
    refine lv_iadd hx hb dX8_image_196 ?_
    refine lv_aload_n hx hb dX8_image_197 rfl (lv_at hl 0 rfl) ?_
    refine y_get hx hb hts i_X8 hown hK hH qOb_8 rfl 2 (by decide) f63 rfl dX8_image_198 ?_
    refine y_iast hx hb hK hI hH qMr_15 h dX8_image_201 (fun M33 H locs hH h => ?_)
    refine lv_aload_n hx hb dX8_image_202 rfl (lv_at hl 0 rfl) ?_
    refine y_get hx hb hts i_X8 hown hK hH qOb_8 rfl 22 (by decide) f53 rfl dX8_image_203 ?_
    refine lv_iload_n hx hb dX8_image_206 rfl (lv_at hl 2 rfl) ?_
    refine lv_bipush (v := 101) hx hb dX8_image_207 (by decide) ?_
    refine lv_iadd hx hb dX8_image_209 ?_
    refine lv_aload_n hx hb dX8_image_210 rfl (lv_at hl 0 rfl) ?_
    refine y_get hx hb hts i_X8 hown hK hH qOb_8 rfl 8 (by decide) f79 rfl dX8_image_211 ?_
    refine y_iast hx hb hK hI hH qMr_15 h dX8_image_214 (fun M34 H locs hH h => ?_)
    refine lv_aload_n hx hb dX8_image_215 rfl (lv_at hl 0 rfl) ?_
    refine y_get hx hb hts i_X8 hown hK hH qOb_8 rfl 22 (by decide) f53 rfl dX8_image_216 ?_
    refine lv_iload_n hx hb dX8_image_219 rfl (lv_at hl 2 rfl) ?_
    refine lv_bipush (v := 102) hx hb dX8_image_220 (by decide) ?_
    refine lv_iadd hx hb dX8_image_222 ?_
    refine lv_aload_n hx hb dX8_image_223 rfl (lv_at hl 0 rfl) ?_
    refine y_get hx hb hts i_X8 hown hK hH qOb_8 rfl 9 (by decide) f160 rfl dX8_image_224 ?_
    refine y_iast hx hb hK hI hH qMr_15 h dX8_image_227 (fun M35 H locs hH h => ?_)
    refine lv_aload_n hx hb dX8_image_228 rfl (lv_at hl 0 rfl) ?_
    refine y_get hx hb hts i_X8 hown hK hH qOb_8 rfl 23 (by decide) f56 rfl dX8_image_229 ?_
    refine lv_iload_n hx hb dX8_image_232 rfl (lv_at hl 1 rfl) ?_
    refine lv_iconst (v := 1) hx hb dX8_image_233 (by decide) ?_
    refine y_zast hx hb hK hI hH qMr_16 h dX8_image_234 (fun M36 H locs hH h => ?_)
    refine lv_iconst (v := 1) hx hb dX8_image_235 (by decide) ?_
    exact W.iret hx hb hr (fun t ht _ => ⟨⟨_, _, rfl, qOk2.s h, qHpt ht hH.1⟩, hH.2.F ht⟩) hH.2.2.2 dX8_image_236
  · have h := qOk.t hc h
    refine lv_bipush (v := (-2)) hx hb dX8_image_9 (by decide) ?_
    exact W.iret hx hb hr (fun t ht _ => ⟨⟨_, _, rfl, qOk2.s h, qHpt ht hH.1⟩, hH.2.F ht⟩) hH.2.2.2 dX8_image_11
abbrev rm_X8_restore : Room := { frames := 1, cells := 0, slots := 0, locals := 22 }
set_option maxHeartbeats 4000000 in
set_option maxRecDepth 100000 in
theorem c_X8_restore (l : Launch) (G : qG) (ad : Nat → Nat) (hI : qI W2N ad) (M : qM) (sz : Nat) (x1 : Int32) {P : Int32 → qM → Prop} (h : qOk2 (kX8_restore M x1) P) : Met l yX8_restore wsX8_restore rm_X8_restore (va_Pc [.ref (ad 0), .int x1] (qPre W2N e2 G ad M sz)) (va_Qi P (fun u t => qHp W2N e2 G ad u t.heap) (qA W2N ad sz)) 0 0 (qA W2N ad sz) := by
  refine Met.ofW (cc := cX8_restore) (maxL := 4) (ret := (some .int)) (by decide) rfl ?_
  intro p e s m args below meth c s₁ B hml hv
  obtain ⟨rfl, hsz, hK, hP⟩ := hv
  subst hsz
  have hx := B.exec
  have hb := B.bytes
  have hr := B.returns
  have hts := atoms_spec (ws := wsX8_restore) B.pre
  have hown : s.vm.findClass RX8 = some m.cls := findClass_of_methodNamed B.named
  have hlocks := B.notSynchronized
  have hH : qHS W2N e2 G ad M s.heap s.heap [] := ⟨hP, va_S.rf⟩
  have f56 : (Cond.fieldLink RX8 56 "SongLampsModel" "isKept" "[Z").before [.ref (ad 0), .int x1].toArray s = true := hts _ (by decide +kernel)
  have i_X8 : ∀ w ∈ wsX80, w ∈ wsX8_restore := fun w hw => List.mem_cons_of_mem _ ((List.mem_append_right _ hw))
  have f7 : (Cond.fieldLink RX8 7 "SongLampsModel" "book" "[I").before [.ref (ad 0), .int x1].toArray s = true := hts _ (by decide +kernel)
  have f53 : (Cond.fieldLink RX8 53 "SongLampsModel" "image" "[I").before [.ref (ad 0), .int x1].toArray s = true := hts _ (by decide +kernel)
  have f16 : (Cond.fieldLink RX8 16 "SongLampsModel" "low" "[I").before [.ref (ad 0), .int x1].toArray s = true := hts _ (by decide +kernel)
  have f19 : (Cond.fieldLink RX8 19 "SongLampsModel" "high" "[I").before [.ref (ad 0), .int x1].toArray s = true := hts _ (by decide +kernel)
  have f22 : (Cond.fieldLink RX8 22 "SongLampsModel" "lungs" "[I").before [.ref (ad 0), .int x1].toArray s = true := hts _ (by decide +kernel)
  have f25 : (Cond.fieldLink RX8 25 "SongLampsModel" "passages" "[I").before [.ref (ad 0), .int x1].toArray s = true := hts _ (by decide +kernel)
  have f28 : (Cond.fieldLink RX8 28 "SongLampsModel" "echo" "[I").before [.ref (ad 0), .int x1].toArray s = true := hts _ (by decide +kernel)
  have f31 : (Cond.fieldLink RX8 31 "SongLampsModel" "sight" "[I").before [.ref (ad 0), .int x1].toArray s = true := hts _ (by decide +kernel)
  have f63 : (Cond.fieldLink RX8 63 "SongLampsModel" "there" "I").before [.ref (ad 0), .int x1].toArray s = true := hts _ (by decide +kernel)
  have f79 : (Cond.fieldLink RX8 79 "SongLampsModel" "gas" "I").before [.ref (ad 0), .int x1].toArray s = true := hts _ (by decide +kernel)
  have f160 : (Cond.fieldLink RX8 160 "SongLampsModel" "sights" "I").before [.ref (ad 0), .int x1].toArray s = true := hts _ (by decide +kernel)
  have hl := lv_entry ([.ref (ad 0), .int x1]) (n := 4) (Nat.le_of_ble_eq_true rfl)
  rw [lg_entry_eq]
  generalize (lg_sl ([.ref (ad 0), .int x1]) ++ List.replicate (4 - (lg_sl ([.ref (ad 0), .int x1])).length) Slot.unset).toArray = ls at hl ⊢
  have hl : lv_has ls 4 [(0, .ref (ad 0)), (1, .int x1)] := hl
  have h : qOk (kX8_restore M x1) _ := h
  unfold kX8_restore at h
  refine lv_iload_n hx hb dX8_restore_0 rfl (lv_at hl 1 rfl) ?_
  refine lv_iconst (v := 0) hx hb dX8_restore_1 (by decide) ?_
  refine lv_iconst (v := 1) hx hb dX8_restore_2 (by decide) ?_
  refine y_cs (va_runS (As := [.int x1, .int 0, .int 1]) (rest := []) ⟨hx, hb, hml, hown, hts⟩ (c_X8_in l x1 0 1 (qOk.b1 h)) (va_cwS 3 hts gX8_restore_X8_in rfl rfl rfl (by decide +kernel) ⟨Nat.le_of_ble_eq_true rfl, Nat.le_of_ble_eq_true rfl⟩) ⟨qPrT.blind, qPrT.at⟩ rfl rfl hl.1 rfl (lv_room (Nat.le_of_ble_eq_true rfl)) dX8_restore_3 ⟨Nat.zero_le _, Nat.zero_le _⟩) (fun v1 h => ?_)
  refine lv_if_ne (tgt := 12) hx hb dX8_restore_6 (by decide) (fun hc => ?_) (fun hc => ?_)
  · have h := qOk.f hc h
    refine lv_aload_n hx hb dX8_restore_12 rfl (lv_at hl 0 rfl) ?_
    refine y_get hx hb hts i_X8 hown hK hH qOb_8 rfl 23 (by decide) f56 rfl dX8_restore_13 ?_
    refine lv_iload_n hx hb dX8_restore_16 rfl (lv_at hl 1 rfl) ?_
    refine y_zald hx hb hK hH qMr_16 h dX8_restore_17 (fun v2 h => ?_)
    refine lv_if_ne (tgt := 24) hx hb dX8_restore_18 (by decide) (fun hc => ?_) (fun hc => ?_)
    · have h := qOk.f hc h
      refine lv_bipush (v := 110) hx hb dX8_restore_24 (by decide) ?_
      refine lv_iload_n hx hb dX8_restore_26 rfl (lv_at hl 1 rfl) ?_
      refine lv_imul hx hb dX8_restore_27 ?_
      refine lv_topi (fun v3 ev3 => ?_)
      have h := qOk.v h ev3
      refine lv_istore_n (lv' := [(2, .int v3), (0, .ref (ad 0)), (1, .int x1)]) hx hb dX8_restore_28 rfl hl (by decide) rfl (fun ls hl => ?_)
      refine lv_iconst (v := 0) hx hb dX8_restore_29 (by decide) ?_
      refine lv_istore_n (lv' := [(3, .int 0), (2, .int v3), (0, .ref (ad 0)), (1, .int x1)]) hx hb dX8_restore_30 rfl hl (by decide) rfl (fun ls hl => ?_)
      refine qj1 (G := fun (M6 : qM) => ∀ (H : Heap) (locs : List Loc), qHS W2N e2 G ad M6 s.heap H locs → ∀ ls : Array Slot, lv_has ls 4 [(0, .ref (ad 0)), (2, .int v3)] → W p l e (headSpec wsX8_restore rm_X8_restore).room s m [.ref (ad 0), .int x1].toArray below meth c H locs 0 0 (MQ below (va_Qi P (fun u t => qHp W2N e2 G ad u t.heap) (qA W2N ad s.heap.size)) [.ref (ad 0), .int x1].toArray s 0 0 (qA W2N ad s.heap.size)) (F0 m 57 ls [])) h ?_ ?_
      rotate_left
      · intro h
        refine qloop2 (I := fun (v4 : Int32) (M5 : qM) => ∀ (H : Heap) (locs : List Loc), qHS W2N e2 G ad M5 s.heap H locs → ∀ ls : Array Slot, lv_has ls 4 [(0, .ref (ad 0)), (2, .int v3), (3, .int v4)] → W p l e (headSpec wsX8_restore rm_X8_restore).room s m [.ref (ad 0), .int x1].toArray below meth c H locs 0 0 (MQ below (va_Qi P (fun u t => qHp W2N e2 G ad u t.heap) (qA W2N ad s.heap.size)) [.ref (ad 0), .int x1].toArray s 0 0 (qA W2N ad s.heap.size)) (F0 m 31 ls [])) ?_ h _ _ hH _ (lv_sub hl [2, 1, 0] rfl)
        intro v4 M5 h H locs hH ls hl
        have h : qOk (kX8_restore_L31 v3 v4 M5) _ := h
        unfold kX8_restore_L31 at h
        refine lv_iload_n hx hb dX8_restore_31 rfl (lv_at hl 2 rfl) ?_
        refine lv_bipush (v := 36) hx hb dX8_restore_32 (by decide) ?_
        refine lv_icmp_ge (tgt := 57) hx hb dX8_restore_34 (by decide) (fun hc => ?_) (fun hc => ?_)
        · have h := qOk.t hc h
          exact qOk.le h _ _ hH _ (lv_sub hl [0, 1] rfl)
        · have h := qOk.f hc h
          refine lv_aload_n hx hb dX8_restore_37 rfl (lv_at hl 0 rfl) ?_
          refine y_get hx hb hts i_X8 hown hK hH qOb_8 rfl 0 (by decide) f7 rfl dX8_restore_38 ?_
          refine lv_iload_n hx hb dX8_restore_41 rfl (lv_at hl 2 rfl) ?_
          refine lv_aload_n hx hb dX8_restore_42 rfl (lv_at hl 0 rfl) ?_
          refine y_get hx hb hts i_X8 hown hK hH qOb_8 rfl 22 (by decide) f53 rfl dX8_restore_43 ?_
          refine lv_iload_n hx hb dX8_restore_46 rfl (lv_at hl 1 rfl) ?_
          refine lv_iload_n hx hb dX8_restore_47 rfl (lv_at hl 2 rfl) ?_
          refine lv_iadd hx hb dX8_restore_48 ?_
          refine y_iald hx hb hK hH qMr_15 h dX8_restore_49 (fun v7 h => ?_)
          refine y_iast hx hb hK hI hH qMr_1 h dX8_restore_50 (fun M8 H locs hH h => ?_)
          obtain ⟨v9, ev9⟩ : ∃ y : Int32, y = v4 + 1 := ⟨_, rfl⟩
          have h := qOk.v h ev9
          refine lv_iinc (v := v9) (lv' := [(3, .int v9), (0, .ref (ad 0)), (2, .int v3)]) hx hb dX8_restore_51 hl (k := 2) rfl (by rw [ev9]; rfl) (by decide) rfl (fun ls hl => ?_)
          refine lv_goto (tgt := 31) hx hb dX8_restore_54 (by decide) ?_
          exact qOk.li h _ _ hH _ (lv_sub hl [1, 2, 0] rfl)
      intro M6 h H locs hH ls hl
      refine lv_iconst (v := 0) hx hb dX8_restore_57 (by decide) ?_
      refine lv_istore_n (lv' := [(3, .int 0), (0, .ref (ad 0)), (2, .int v3)]) hx hb dX8_restore_58 rfl hl (by decide) rfl (fun ls hl => ?_)
      refine qj1 (G := fun (M12 : qM) => ∀ (H : Heap) (locs : List Loc), qHS W2N e2 G ad M12 s.heap H locs → ∀ ls : Array Slot, lv_has ls 4 [(0, .ref (ad 0)), (2, .int v3)] → W p l e (headSpec wsX8_restore rm_X8_restore).room s m [.ref (ad 0), .int x1].toArray below meth c H locs 0 0 (MQ below (va_Qi P (fun u t => qHp W2N e2 G ad u t.heap) (qA W2N ad s.heap.size)) [.ref (ad 0), .int x1].toArray s 0 0 (qA W2N ad s.heap.size)) (F0 m 122 ls [])) h ?_ ?_
      rotate_left
      · intro h
        refine qloop2 (I := fun (v10 : Int32) (M11 : qM) => ∀ (H : Heap) (locs : List Loc), qHS W2N e2 G ad M11 s.heap H locs → ∀ ls : Array Slot, lv_has ls 4 [(0, .ref (ad 0)), (2, .int v3), (3, .int v10)] → W p l e (headSpec wsX8_restore rm_X8_restore).room s m [.ref (ad 0), .int x1].toArray below meth c H locs 0 0 (MQ below (va_Qi P (fun u t => qHp W2N e2 G ad u t.heap) (qA W2N ad s.heap.size)) [.ref (ad 0), .int x1].toArray s 0 0 (qA W2N ad s.heap.size)) (F0 m 59 ls [])) ?_ h _ _ hH _ (lv_sub hl [1, 2, 0] rfl)
        intro v10 M11 h H locs hH ls hl
        have h : qOk (kX8_restore_L59 v3 v10 M11) _ := h
        unfold kX8_restore_L59 at h
        refine lv_iload_n hx hb dX8_restore_59 rfl (lv_at hl 2 rfl) ?_
        refine lv_bipush (v := 8) hx hb dX8_restore_60 (by decide) ?_
        refine lv_icmp_ge (tgt := 122) hx hb dX8_restore_62 (by decide) (fun hc => ?_) (fun hc => ?_)
        · have h := qOk.t hc h
          exact qOk.le h _ _ hH _ (lv_sub hl [0, 1] rfl)
        · have h := qOk.f hc h
          refine lv_aload_n hx hb dX8_restore_65 rfl (lv_at hl 0 rfl) ?_
          refine y_get hx hb hts i_X8 hown hK hH qOb_8 rfl 3 (by decide) f16 rfl dX8_restore_66 ?_
          refine lv_iload_n hx hb dX8_restore_69 rfl (lv_at hl 2 rfl) ?_
          refine lv_aload_n hx hb dX8_restore_70 rfl (lv_at hl 0 rfl) ?_
          refine y_get hx hb hts i_X8 hown hK hH qOb_8 rfl 22 (by decide) f53 rfl dX8_restore_71 ?_
          refine lv_iload_n hx hb dX8_restore_74 rfl (lv_at hl 1 rfl) ?_
          refine lv_bipush (v := 36) hx hb dX8_restore_75 (by decide) ?_
          refine lv_iadd hx hb dX8_restore_77 ?_
          refine lv_iload_n hx hb dX8_restore_78 rfl (lv_at hl 2 rfl) ?_
          refine lv_iadd hx hb dX8_restore_79 ?_
          refine y_iald hx hb hK hH qMr_15 h dX8_restore_80 (fun v13 h => ?_)
          refine y_iast hx hb hK hI hH qMr_3 h dX8_restore_81 (fun M14 H locs hH h => ?_)
          refine lv_aload_n hx hb dX8_restore_82 rfl (lv_at hl 0 rfl) ?_
          refine y_get hx hb hts i_X8 hown hK hH qOb_8 rfl 4 (by decide) f19 rfl dX8_restore_83 ?_
          refine lv_iload_n hx hb dX8_restore_86 rfl (lv_at hl 2 rfl) ?_
          refine lv_aload_n hx hb dX8_restore_87 rfl (lv_at hl 0 rfl) ?_
          refine y_get hx hb hts i_X8 hown hK hH qOb_8 rfl 22 (by decide) f53 rfl dX8_restore_88 ?_
          refine lv_iload_n hx hb dX8_restore_91 rfl (lv_at hl 1 rfl) ?_
          refine lv_bipush (v := 44) hx hb dX8_restore_92 (by decide) ?_
          refine lv_iadd hx hb dX8_restore_94 ?_
          refine lv_iload_n hx hb dX8_restore_95 rfl (lv_at hl 2 rfl) ?_
          refine lv_iadd hx hb dX8_restore_96 ?_
          refine y_iald hx hb hK hH qMr_15 h dX8_restore_97 (fun v15 h => ?_)
          refine y_iast hx hb hK hI hH qMr_4 h dX8_restore_98 (fun M16 H locs hH h => ?_)
          refine lv_aload_n hx hb dX8_restore_99 rfl (lv_at hl 0 rfl) ?_
          refine y_get hx hb hts i_X8 hown hK hH qOb_8 rfl 5 (by decide) f22 rfl dX8_restore_100 ?_
          refine lv_iload_n hx hb dX8_restore_103 rfl (lv_at hl 2 rfl) ?_
          refine lv_aload_n hx hb dX8_restore_104 rfl (lv_at hl 0 rfl) ?_
          refine y_get hx hb hts i_X8 hown hK hH qOb_8 rfl 22 (by decide) f53 rfl dX8_restore_105 ?_
          refine lv_iload_n hx hb dX8_restore_108 rfl (lv_at hl 1 rfl) ?_
          refine lv_bipush (v := 52) hx hb dX8_restore_109 (by decide) ?_
          refine lv_iadd hx hb dX8_restore_111 ?_
          refine lv_iload_n hx hb dX8_restore_112 rfl (lv_at hl 2 rfl) ?_
          refine lv_iadd hx hb dX8_restore_113 ?_
          refine y_iald hx hb hK hH qMr_15 h dX8_restore_114 (fun v17 h => ?_)
          refine y_iast hx hb hK hI hH qMr_5 h dX8_restore_115 (fun M18 H locs hH h => ?_)
          obtain ⟨v19, ev19⟩ : ∃ y : Int32, y = v10 + 1 := ⟨_, rfl⟩
          have h := qOk.v h ev19
          refine lv_iinc (v := v19) (lv' := [(3, .int v19), (0, .ref (ad 0)), (2, .int v3)]) hx hb dX8_restore_116 hl (k := 2) rfl (by rw [ev19]; rfl) (by decide) rfl (fun ls hl => ?_)
          refine lv_goto (tgt := 59) hx hb dX8_restore_119 (by decide) ?_
          exact qOk.li h _ _ hH _ (lv_sub hl [1, 2, 0] rfl)
      intro M12 h H locs hH ls hl
      refine lv_iconst (v := 0) hx hb dX8_restore_122 (by decide) ?_
      refine lv_istore_n (lv' := [(3, .int 0), (0, .ref (ad 0)), (2, .int v3)]) hx hb dX8_restore_123 rfl hl (by decide) rfl (fun ls hl => ?_)
      refine qj1 (G := fun (M22 : qM) => ∀ (H : Heap) (locs : List Loc), qHS W2N e2 G ad M22 s.heap H locs → ∀ ls : Array Slot, lv_has ls 4 [(0, .ref (ad 0)), (2, .int v3)] → W p l e (headSpec wsX8_restore rm_X8_restore).room s m [.ref (ad 0), .int x1].toArray below meth c H locs 0 0 (MQ below (va_Qi P (fun u t => qHp W2N e2 G ad u t.heap) (qA W2N ad s.heap.size)) [.ref (ad 0), .int x1].toArray s 0 0 (qA W2N ad s.heap.size)) (F0 m 170 ls [])) h ?_ ?_
      rotate_left
      · intro h
        refine qloop2 (I := fun (v20 : Int32) (M21 : qM) => ∀ (H : Heap) (locs : List Loc), qHS W2N e2 G ad M21 s.heap H locs → ∀ ls : Array Slot, lv_has ls 4 [(0, .ref (ad 0)), (2, .int v3), (3, .int v20)] → W p l e (headSpec wsX8_restore rm_X8_restore).room s m [.ref (ad 0), .int x1].toArray below meth c H locs 0 0 (MQ below (va_Qi P (fun u t => qHp W2N e2 G ad u t.heap) (qA W2N ad s.heap.size)) [.ref (ad 0), .int x1].toArray s 0 0 (qA W2N ad s.heap.size)) (F0 m 124 ls [])) ?_ h _ _ hH _ (lv_sub hl [1, 2, 0] rfl)
        intro v20 M21 h H locs hH ls hl
        have h : qOk (kX8_restore_L124 v3 v20 M21) _ := h
        unfold kX8_restore_L124 at h
        refine lv_iload_n hx hb dX8_restore_124 rfl (lv_at hl 2 rfl) ?_
        refine lv_bipush (v := 10) hx hb dX8_restore_125 (by decide) ?_
        refine lv_icmp_ge (tgt := 170) hx hb dX8_restore_127 (by decide) (fun hc => ?_) (fun hc => ?_)
        · have h := qOk.t hc h
          exact qOk.le h _ _ hH _ (lv_sub hl [0, 1] rfl)
        · have h := qOk.f hc h
          refine lv_aload_n hx hb dX8_restore_130 rfl (lv_at hl 0 rfl) ?_
          refine y_get hx hb hts i_X8 hown hK hH qOb_8 rfl 6 (by decide) f25 rfl dX8_restore_131 ?_
          refine lv_iload_n hx hb dX8_restore_134 rfl (lv_at hl 2 rfl) ?_
          refine lv_aload_n hx hb dX8_restore_135 rfl (lv_at hl 0 rfl) ?_
          refine y_get hx hb hts i_X8 hown hK hH qOb_8 rfl 22 (by decide) f53 rfl dX8_restore_136 ?_
          refine lv_iload_n hx hb dX8_restore_139 rfl (lv_at hl 1 rfl) ?_
          refine lv_bipush (v := 60) hx hb dX8_restore_140 (by decide) ?_
          refine lv_iadd hx hb dX8_restore_142 ?_
          refine lv_iload_n hx hb dX8_restore_143 rfl (lv_at hl 2 rfl) ?_
          refine lv_iadd hx hb dX8_restore_144 ?_
          refine y_iald hx hb hK hH qMr_15 h dX8_restore_145 (fun v23 h => ?_)
          refine y_iast hx hb hK hI hH qMr_6 h dX8_restore_146 (fun M24 H locs hH h => ?_)
          refine lv_aload_n hx hb dX8_restore_147 rfl (lv_at hl 0 rfl) ?_
          refine y_get hx hb hts i_X8 hown hK hH qOb_8 rfl 7 (by decide) f28 rfl dX8_restore_148 ?_
          refine lv_iload_n hx hb dX8_restore_151 rfl (lv_at hl 2 rfl) ?_
          refine lv_aload_n hx hb dX8_restore_152 rfl (lv_at hl 0 rfl) ?_
          refine y_get hx hb hts i_X8 hown hK hH qOb_8 rfl 22 (by decide) f53 rfl dX8_restore_153 ?_
          refine lv_iload_n hx hb dX8_restore_156 rfl (lv_at hl 1 rfl) ?_
          refine lv_bipush (v := 70) hx hb dX8_restore_157 (by decide) ?_
          refine lv_iadd hx hb dX8_restore_159 ?_
          refine lv_iload_n hx hb dX8_restore_160 rfl (lv_at hl 2 rfl) ?_
          refine lv_iadd hx hb dX8_restore_161 ?_
          refine y_iald hx hb hK hH qMr_15 h dX8_restore_162 (fun v25 h => ?_)
          refine y_iast hx hb hK hI hH qMr_7 h dX8_restore_163 (fun M26 H locs hH h => ?_)
          obtain ⟨v27, ev27⟩ : ∃ y : Int32, y = v20 + 1 := ⟨_, rfl⟩
          have h := qOk.v h ev27
          refine lv_iinc (v := v27) (lv' := [(3, .int v27), (0, .ref (ad 0)), (2, .int v3)]) hx hb dX8_restore_164 hl (k := 2) rfl (by rw [ev27]; rfl) (by decide) rfl (fun ls hl => ?_)
          refine lv_goto (tgt := 124) hx hb dX8_restore_167 (by decide) ?_
          exact qOk.li h _ _ hH _ (lv_sub hl [1, 2, 0] rfl)
      intro M22 h H locs hH ls hl
      refine lv_iconst (v := 0) hx hb dX8_restore_170 (by decide) ?_
      refine lv_istore_n (lv' := [(3, .int 0), (0, .ref (ad 0)), (2, .int v3)]) hx hb dX8_restore_171 rfl hl (by decide) rfl (fun ls hl => ?_)
      refine qj1 (G := fun (M30 : qM) => ∀ (H : Heap) (locs : List Loc), qHS W2N e2 G ad M30 s.heap H locs → ∀ ls : Array Slot, lv_has ls 4 [(0, .ref (ad 0)), (2, .int v3)] → W p l e (headSpec wsX8_restore rm_X8_restore).room s m [.ref (ad 0), .int x1].toArray below meth c H locs 0 0 (MQ below (va_Qi P (fun u t => qHp W2N e2 G ad u t.heap) (qA W2N ad s.heap.size)) [.ref (ad 0), .int x1].toArray s 0 0 (qA W2N ad s.heap.size)) (F0 m 201 ls [])) h ?_ ?_
      rotate_left
      · intro h
        refine qloop2 (I := fun (v28 : Int32) (M29 : qM) => ∀ (H : Heap) (locs : List Loc), qHS W2N e2 G ad M29 s.heap H locs → ∀ ls : Array Slot, lv_has ls 4 [(0, .ref (ad 0)), (2, .int v3), (3, .int v28)] → W p l e (headSpec wsX8_restore rm_X8_restore).room s m [.ref (ad 0), .int x1].toArray below meth c H locs 0 0 (MQ below (va_Qi P (fun u t => qHp W2N e2 G ad u t.heap) (qA W2N ad s.heap.size)) [.ref (ad 0), .int x1].toArray s 0 0 (qA W2N ad s.heap.size)) (F0 m 172 ls [])) ?_ h _ _ hH _ (lv_sub hl [1, 2, 0] rfl)
        intro v28 M29 h H locs hH ls hl
        have h : qOk (kX8_restore_L172 v3 v28 M29) _ := h
        unfold kX8_restore_L172 at h
        refine lv_iload_n hx hb dX8_restore_172 rfl (lv_at hl 2 rfl) ?_
        refine lv_bipush (v := 16) hx hb dX8_restore_173 (by decide) ?_
        refine lv_icmp_ge (tgt := 201) hx hb dX8_restore_175 (by decide) (fun hc => ?_) (fun hc => ?_)
        · have h := qOk.t hc h
          exact qOk.le h _ _ hH _ (lv_sub hl [0, 1] rfl)
        · have h := qOk.f hc h
          refine lv_aload_n hx hb dX8_restore_178 rfl (lv_at hl 0 rfl) ?_
          refine y_get hx hb hts i_X8 hown hK hH qOb_8 rfl 10 (by decide) f31 rfl dX8_restore_179 ?_
          refine lv_iload_n hx hb dX8_restore_182 rfl (lv_at hl 2 rfl) ?_
          refine lv_aload_n hx hb dX8_restore_183 rfl (lv_at hl 0 rfl) ?_
          refine y_get hx hb hts i_X8 hown hK hH qOb_8 rfl 22 (by decide) f53 rfl dX8_restore_184 ?_
          refine lv_iload_n hx hb dX8_restore_187 rfl (lv_at hl 1 rfl) ?_
          refine lv_bipush (v := 80) hx hb dX8_restore_188 (by decide) ?_
          refine lv_iadd hx hb dX8_restore_190 ?_
          refine lv_iload_n hx hb dX8_restore_191 rfl (lv_at hl 2 rfl) ?_
          refine lv_iadd hx hb dX8_restore_192 ?_
          refine y_iald hx hb hK hH qMr_15 h dX8_restore_193 (fun v31 h => ?_)
          refine y_iast hx hb hK hI hH qMr_8 h dX8_restore_194 (fun M32 H locs hH h => ?_)
          obtain ⟨v33, ev33⟩ : ∃ y : Int32, y = v28 + 1 := ⟨_, rfl⟩
          have h := qOk.v h ev33
          refine lv_iinc (v := v33) (lv' := [(3, .int v33), (0, .ref (ad 0)), (2, .int v3)]) hx hb dX8_restore_195 hl (k := 2) rfl (by rw [ev33]; rfl) (by decide) rfl (fun ls hl => ?_)
          refine lv_goto (tgt := 172) hx hb dX8_restore_198 (by decide) ?_
          exact qOk.li h _ _ hH _ (lv_sub hl [1, 2, 0] rfl)
      intro M30 h H locs hH ls hl
      refine lv_aload_n hx hb dX8_restore_201 rfl (lv_at hl 0 rfl) ?_
      refine lv_aload_n hx hb dX8_restore_202 rfl (lv_at hl 0 rfl) ?_
      refine y_get hx hb hts i_X8 hown hK hH qOb_8 rfl 22 (by decide) f53 rfl dX8_restore_203 ?_
      refine lv_iload_n hx hb dX8_restore_206 rfl (lv_at hl 1 rfl) ?_
      refine lv_bipush (v := 100) hx hb dX8_restore_207 (by decide) ?_
      refine lv_iadd hx hb dX8_restore_209 ?_
      refine y_iald hx hb hK hH qMr_15 h dX8_restore_210 (fun v34 h => ?_)
      refine y_put hx hb hts i_X8 tyX8 tyX8_ok nmX8 hown hK hI hH qOb_8 rfl 2 (by decide) f63 rfl (by decide +kernel) (Nat.le_of_ble_eq_true rfl) (fun _ => rfl) h dX8_restore_211 (fun M35 H locs hH h => ?_)
      refine lv_aload_n hx hb dX8_restore_214 rfl (lv_at hl 0 rfl) ?_
      refine lv_aload_n hx hb dX8_restore_215 rfl (lv_at hl 0 rfl) ?_
      refine y_get hx hb hts i_X8 hown hK hH qOb_8 rfl 22 (by decide) f53 rfl dX8_restore_216 ?_
      refine lv_iload_n hx hb dX8_restore_219 rfl (lv_at hl 1 rfl) ?_
      refine lv_bipush (v := 101) hx hb dX8_restore_220 (by decide) ?_
      refine lv_iadd hx hb dX8_restore_222 ?_
      refine y_iald hx hb hK hH qMr_15 h dX8_restore_223 (fun v36 h => ?_)
      refine y_put hx hb hts i_X8 tyX8 tyX8_ok nmX8 hown hK hI hH qOb_8 rfl 8 (by decide) f79 rfl (by decide +kernel) (Nat.le_of_ble_eq_true rfl) (fun _ => rfl) h dX8_restore_224 (fun M37 H locs hH h => ?_)
      refine lv_aload_n hx hb dX8_restore_227 rfl (lv_at hl 0 rfl) ?_
      refine lv_aload_n hx hb dX8_restore_228 rfl (lv_at hl 0 rfl) ?_
      refine y_get hx hb hts i_X8 hown hK hH qOb_8 rfl 22 (by decide) f53 rfl dX8_restore_229 ?_
      refine lv_iload_n hx hb dX8_restore_232 rfl (lv_at hl 1 rfl) ?_
      refine lv_bipush (v := 102) hx hb dX8_restore_233 (by decide) ?_
      refine lv_iadd hx hb dX8_restore_235 ?_
      refine y_iald hx hb hK hH qMr_15 h dX8_restore_236 (fun v38 h => ?_)
      refine y_put hx hb hts i_X8 tyX8 tyX8_ok nmX8 hown hK hI hH qOb_8 rfl 9 (by decide) f160 rfl (by decide +kernel) (Nat.le_of_ble_eq_true rfl) (fun _ => rfl) h dX8_restore_237 (fun M39 H locs hH h => ?_)
      refine lv_iconst (v := 1) hx hb dX8_restore_240 (by decide) ?_
      exact W.iret hx hb hr (fun t ht _ => ⟨⟨_, _, rfl, qOk2.s h, qHpt ht hH.1⟩, hH.2.F ht⟩) hH.2.2.2 dX8_restore_241
    · have h := qOk.t hc h
      refine lv_bipush (v := (-3)) hx hb dX8_restore_21 (by decide) ?_
      exact W.iret hx hb hr (fun t ht _ => ⟨⟨_, _, rfl, qOk2.s h, qHpt ht hH.1⟩, hH.2.F ht⟩) hH.2.2.2 dX8_restore_23
  · have h := qOk.t hc h
    refine lv_bipush (v := (-2)) hx hb dX8_restore_9 (by decide) ?_
    exact W.iret hx hb hr (fun t ht _ => ⟨⟨_, _, rfl, qOk2.s h, qHpt ht hH.1⟩, hH.2.F ht⟩) hH.2.2.2 dX8_restore_11
abbrev rm_X8_toldVoice : Room := { frames := 2, cells := 0, slots := 0, locals := 43 }
set_option maxHeartbeats 4000000 in
set_option maxRecDepth 100000 in
theorem c_X8_toldVoice (l : Launch) (G : qG) (ad : Nat → Nat) (hI : qI W2N ad) (M : qM) (sz : Nat) (x1 : Int32) (x2 : Int32) {P : Int32 → Prop} (h : qOk (kX8_toldVoice M x1 x2) P) : Met l yX8_toldVoice wsX8_toldVoice rm_X8_toldVoice (va_Pc [.ref (ad 0), .int x1, .int x2] (qPre W2N e2 G ad M sz)) (vp_Si P) 0 0 (fun _ => False) := by
  refine Met.ofW (cc := cX8_toldVoice) (maxL := 3) (ret := (some .int)) (by decide) rfl ?_
  intro p e s m args below meth c s₁ B hml hv
  obtain ⟨rfl, hsz, hK, hP⟩ := hv
  subst hsz
  have hx := B.exec
  have hb := B.bytes
  have hr := B.returns
  have hts := atoms_spec (ws := wsX8_toldVoice) B.pre
  have hown : s.vm.findClass RX8 = some m.cls := findClass_of_methodNamed B.named
  have hlocks := B.notSynchronized
  have hH : qHS W2N e2 G ad M s.heap s.heap [] := ⟨hP, va_S.rf⟩
  have f16 : (Cond.fieldLink RX8 16 "SongLampsModel" "low" "[I").before [.ref (ad 0), .int x1, .int x2].toArray s = true := hts _ (by decide +kernel)
  have i_X8 : ∀ w ∈ wsX80, w ∈ wsX8_toldVoice := fun w hw => List.mem_cons_of_mem _ ((List.mem_append_right _ hw))
  have f19 : (Cond.fieldLink RX8 19 "SongLampsModel" "high" "[I").before [.ref (ad 0), .int x1, .int x2].toArray s = true := hts _ (by decide +kernel)
  have f7 : (Cond.fieldLink RX8 7 "SongLampsModel" "book" "[I").before [.ref (ad 0), .int x1, .int x2].toArray s = true := hts _ (by decide +kernel)
  have f22 : (Cond.fieldLink RX8 22 "SongLampsModel" "lungs" "[I").before [.ref (ad 0), .int x1, .int x2].toArray s = true := hts _ (by decide +kernel)
  have hl := lv_entry ([.ref (ad 0), .int x1, .int x2]) (n := 3) (Nat.le_of_ble_eq_true rfl)
  rw [lg_entry_eq]
  generalize (lg_sl ([.ref (ad 0), .int x1, .int x2]) ++ List.replicate (3 - (lg_sl ([.ref (ad 0), .int x1, .int x2])).length) Slot.unset).toArray = ls at hl ⊢
  have hl : lv_has ls 3 [(0, .ref (ad 0)), (1, .int x1), (2, .int x2)] := hl
  have h : qOk (kX8_toldVoice M x1 x2) _ := h
  unfold kX8_toldVoice at h
  refine lv_aload_n hx hb dX8_toldVoice_0 rfl (lv_at hl 0 rfl) ?_
  refine lv_iload_n hx hb dX8_toldVoice_1 rfl (lv_at hl 1 rfl) ?_
  refine y_cs (va_runV (As := [.int x1]) (rest := []) ⟨hx, hb, hml, hown, hts⟩ (c_X8_isThere l G ad hI M _ x1 (qOk.b1 h)) (cwV 1 hts gX8_toldVoice_X8_isThere rfl rfl rfl (by decide +kernel) ⟨Nat.le_of_ble_eq_true rfl, Nat.le_of_ble_eq_true rfl⟩) ⟨qPre.blind, qrecv hK hH qOb_8 rfl, qPre.at hK hH⟩ rfl rfl hl.1 rfl (lv_room (Nat.le_of_ble_eq_true rfl)) dX8_toldVoice_2 ⟨Nat.zero_le _, Nat.zero_le _⟩) (fun v1 h => ?_)
  refine lv_if_ne (tgt := 11) hx hb dX8_toldVoice_5 (by decide) (fun hc => ?_) (fun hc => ?_)
  · have h := qOk.f hc h
    refine lv_iload_n hx hb dX8_toldVoice_11 rfl (lv_at hl 2 rfl) ?_
    by_cases c0 : x2 = 0
    · have h := qOk.t c0 h
      refine lv_tableIn (tgt := 48) hx hb dX8_toldVoice_12 (by rw [c0]; decide) (by rw [c0]; decide) (by rw [c0]; rfl) (by decide) ?_
      refine lv_aload_n hx hb dX8_toldVoice_48 rfl (lv_at hl 0 rfl) ?_
      refine y_get hx hb hts i_X8 hown hK hH qOb_8 rfl 3 (by decide) f16 rfl dX8_toldVoice_49 ?_
      refine lv_iload_n hx hb dX8_toldVoice_52 rfl (lv_at hl 1 rfl) ?_
      refine y_iald hx hb hK hH qMr_3 h dX8_toldVoice_53 (fun v2 h => ?_)
      exact W.iret hx hb hr (fun t ht _ => ⟨_, rfl, qOk.s h, ht⟩) (fun _ hq => by cases hq) dX8_toldVoice_54
    have h := qOk.f c0 h
    by_cases c1 : x2 = 1
    · have h := qOk.t c1 h
      refine lv_tableIn (tgt := 55) hx hb dX8_toldVoice_12 (by rw [c1]; decide) (by rw [c1]; decide) (by rw [c1]; rfl) (by decide) ?_
      refine lv_aload_n hx hb dX8_toldVoice_55 rfl (lv_at hl 0 rfl) ?_
      refine y_get hx hb hts i_X8 hown hK hH qOb_8 rfl 4 (by decide) f19 rfl dX8_toldVoice_56 ?_
      refine lv_iload_n hx hb dX8_toldVoice_59 rfl (lv_at hl 1 rfl) ?_
      refine y_iald hx hb hK hH qMr_4 h dX8_toldVoice_60 (fun v3 h => ?_)
      exact W.iret hx hb hr (fun t ht _ => ⟨_, rfl, qOk.s h, ht⟩) (fun _ hq => by cases hq) dX8_toldVoice_61
    have h := qOk.f c1 h
    by_cases c2 : x2 = 2
    · have h := qOk.t c2 h
      refine lv_tableIn (tgt := 62) hx hb dX8_toldVoice_12 (by rw [c2]; decide) (by rw [c2]; decide) (by rw [c2]; rfl) (by decide) ?_
      refine lv_aload_n hx hb dX8_toldVoice_62 rfl (lv_at hl 0 rfl) ?_
      refine y_get hx hb hts i_X8 hown hK hH qOb_8 rfl 0 (by decide) f7 rfl dX8_toldVoice_63 ?_
      refine lv_bipush (v := 8) hx hb dX8_toldVoice_66 (by decide) ?_
      refine lv_iload_n hx hb dX8_toldVoice_68 rfl (lv_at hl 1 rfl) ?_
      refine lv_iadd hx hb dX8_toldVoice_69 ?_
      refine y_iald hx hb hK hH qMr_1 h dX8_toldVoice_70 (fun v4 h => ?_)
      exact W.iret hx hb hr (fun t ht _ => ⟨_, rfl, qOk.s h, ht⟩) (fun _ hq => by cases hq) dX8_toldVoice_71
    have h := qOk.f c2 h
    by_cases c3 : x2 = 3
    · have h := qOk.t c3 h
      refine lv_tableIn (tgt := 72) hx hb dX8_toldVoice_12 (by rw [c3]; decide) (by rw [c3]; decide) (by rw [c3]; rfl) (by decide) ?_
      refine lv_aload_n hx hb dX8_toldVoice_72 rfl (lv_at hl 0 rfl) ?_
      refine y_get hx hb hts i_X8 hown hK hH qOb_8 rfl 5 (by decide) f22 rfl dX8_toldVoice_73 ?_
      refine lv_iload_n hx hb dX8_toldVoice_76 rfl (lv_at hl 1 rfl) ?_
      refine y_iald hx hb hK hH qMr_5 h dX8_toldVoice_77 (fun v5 h => ?_)
      exact W.iret hx hb hr (fun t ht _ => ⟨_, rfl, qOk.s h, ht⟩) (fun _ hq => by cases hq) dX8_toldVoice_78
    have h := qOk.f c3 h
    by_cases c4 : x2 = 4
    · have h := qOk.t c4 h
      refine lv_tableIn (tgt := 79) hx hb dX8_toldVoice_12 (by rw [c4]; decide) (by rw [c4]; decide) (by rw [c4]; rfl) (by decide) ?_
      refine lv_aload_n hx hb dX8_toldVoice_79 rfl (lv_at hl 0 rfl) ?_
      refine y_get hx hb hts i_X8 hown hK hH qOb_8 rfl 0 (by decide) f7 rfl dX8_toldVoice_80 ?_
      refine lv_bipush (v := 16) hx hb dX8_toldVoice_83 (by decide) ?_
      refine lv_iload_n hx hb dX8_toldVoice_85 rfl (lv_at hl 1 rfl) ?_
      refine lv_iadd hx hb dX8_toldVoice_86 ?_
      refine y_iald hx hb hK hH qMr_1 h dX8_toldVoice_87 (fun v6 h => ?_)
      exact W.iret hx hb hr (fun t ht _ => ⟨_, rfl, qOk.s h, ht⟩) (fun _ hq => by cases hq) dX8_toldVoice_88
    have h := qOk.f c4 h
    have n0 := lv_neT c0 (a := 0) rfl
    have n1 := lv_neT c1 (a := 1) rfl
    have n2 := lv_neT c2 (a := 2) rfl
    have n3 := lv_neT c3 (a := 3) rfl
    have n4 := lv_neT c4 (a := 4) rfl
    refine lv_tableOut (tgt := 89) hx hb dX8_toldVoice_12 (by omega) (by decide) ?_
    refine lv_iload_n hx hb dX8_toldVoice_89 rfl (lv_at hl 2 rfl) ?_
    refine lv_iconst (v := 5) hx hb dX8_toldVoice_90 (by decide) ?_
    refine qj1 (G := fun (v7 : Int32) => W p l e (headSpec wsX8_toldVoice rm_X8_toldVoice).room s m [.ref (ad 0), .int x1, .int x2].toArray below meth c s.heap [] 0 0 (MQ below (vp_Si P) [.ref (ad 0), .int x1, .int x2].toArray s 0 0 (fun _ => False)) (F0 m 105 ls [.int v7])) h ?_ ?_
    rotate_left
    · intro h
      refine lv_icmp_ne (tgt := 103) hx hb dX8_toldVoice_91 (by decide) (fun hc => ?_) (fun hc => ?_)
      · have h := qOk.f hc h
        refine lv_bipush (v := (-2)) hx hb dX8_toldVoice_103 (by decide) ?_
        have h := qOk.s h
        exact h
      · have h := qOk.t hc h
        refine lv_aload_n hx hb dX8_toldVoice_94 rfl (lv_at hl 0 rfl) ?_
        refine y_get hx hb hts i_X8 hown hK hH qOb_8 rfl 0 (by decide) f7 rfl dX8_toldVoice_95 ?_
        refine lv_iload_n hx hb dX8_toldVoice_98 rfl (lv_at hl 1 rfl) ?_
        refine y_iald hx hb hK hH qMr_1 h dX8_toldVoice_99 (fun v8 h => ?_)
        refine lv_goto (tgt := 105) hx hb dX8_toldVoice_100 (by decide) ?_
        have h := qOk.s h
        exact h
    intro v7 h
    exact W.iret hx hb hr (fun t ht _ => ⟨_, rfl, qOk.s h, ht⟩) (fun _ hq => by cases hq) dX8_toldVoice_105
  · have h := qOk.t hc h
    refine lv_bipush (v := (-2)) hx hb dX8_toldVoice_8 (by decide) ?_
    exact W.iret hx hb hr (fun t ht _ => ⟨_, rfl, qOk.s h, ht⟩) (fun _ hq => by cases hq) dX8_toldVoice_10
