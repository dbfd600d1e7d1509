abbrev rm_X6_measure : Room := { frames := 1, cells := 0, slots := 0, locals := 23 }
set_option maxHeartbeats 4000000 in
set_option maxRecDepth 100000 in
theorem c_X6_measure (l : Launch) (G : qG) (ad : Nat → Nat) (hI : qI W1N ad) (M : qM) (sz : Nat) {b0 : Nat} (w0 : qWy b0) (x1 : Int32) {k2 : Nat} {n2 : Nat} (w2 : qAr W1N e1 k2 n2) (x3 : Int32) {P : qM → Prop} (h : qOk (kX6_measure b0 M x1 k2 n2 x3) P) : Met l yX6_measure wsX6_measure rm_X6_measure (va_Pc [.ref (ad b0), .int x1, .ref (ad k2), .int x3] (qPre W1N e1 G ad M sz)) (va_Qv P (fun u t => qHp W1N e1 G ad u t.heap) (qA W1N ad sz)) 0 0 (qA W1N ad sz) := by
  refine Met.ofW (cc := cX6_measure) (maxL := 9) (ret := none) (by decide) rfl ?_
  intro p e s m args below meth c s₁ B hml hv
  obtain ⟨rfl, hsz, hK, hP⟩ := hv
  subst hsz
  have hx := B.exec
  have hb := B.bytes
  have hr := B.returns
  have hts := atoms_spec (ws := wsX6_measure) B.pre
  have hown : s.vm.findClass RX6 = some m.cls := findClass_of_methodNamed B.named
  have hlocks := B.notSynchronized
  have hH : qHS W1N e1 G ad M s.heap s.heap [] := ⟨hP, va_S.rf⟩
  have f9 : (Cond.fieldLink RX6 9 "SongLamps$Ways" "far" "[I").before [.ref (ad b0), .int x1, .ref (ad k2), .int x3].toArray s = true := hts _ (by decide +kernel)
  have i_X6 : ∀ w ∈ wsX60, w ∈ wsX6_measure := fun w hw => List.mem_cons_of_mem _ ((List.mem_append_right _ hw))
  have nS_X7_has : (Cond.static yX7_has).before [.ref (ad b0), .int x1, .ref (ad k2), .int x3].toArray s = true := hts _ (by decide +kernel)
  have nI_X7 : (Cond.initialized RX7).before [.ref (ad b0), .int x1, .ref (ad k2), .int x3].toArray s = true := hts _ (by decide +kernel)
  have hl := lv_entry ([.ref (ad b0), .int x1, .ref (ad k2), .int x3]) (n := 9) (Nat.le_of_ble_eq_true rfl)
  rw [lg_entry_eq]
  generalize (lg_sl ([.ref (ad b0), .int x1, .ref (ad k2), .int x3]) ++ List.replicate (9 - (lg_sl ([.ref (ad b0), .int x1, .ref (ad k2), .int x3])).length) Slot.unset).toArray = ls at hl ⊢
  have hl : lv_has ls 9 [(0, .ref (ad b0)), (1, .int x1), (2, .ref (ad k2)), (3, .int x3)] := hl
  have h : qOk (kX6_measure b0 M x1 k2 n2 x3) _ := h
  unfold kX6_measure at h
  refine lv_aload_n hx hb dX6_measure_0 rfl (lv_at hl 0 rfl) ?_
  refine y_get hx hb hts i_X6 hown hK hH (qWy_ob w0) rfl 0 (by decide) f9 rfl dX6_measure_1 ?_
  refine lv_bipush (v := (-6)) hx hb dX6_measure_4 (by decide) ?_
  refine y_cv hH (va_runS (As := [.ref (ad (b0 + 1)), .int (-6)]) (rest := []) ⟨hx, hb, hml, hown, hts⟩ (c_J7_fill_53178 l G ad hI M _ (qWy_a1 w0) (-6) (qOk.b1 h)) (va_cwS 2 hts gX6_measure_J7_fill_53178 rfl rfl rfl (by decide +kernel) ⟨Nat.le_of_ble_eq_true rfl, Nat.le_of_ble_eq_true rfl⟩) ⟨qPre.blind, qPre.at hK hH⟩ rfl rfl hl.1 rfl (lv_room (Nat.le_of_ble_eq_true rfl)) dX6_measure_6 ⟨Nat.zero_le _, Nat.zero_le _⟩) (fun M1 H locs hH h => ?_)
  refine lv_iload_n hx hb dX6_measure_9 rfl (lv_at hl 3 rfl) ?_
  refine lv_iconst (v := 1) hx hb dX6_measure_10 (by decide) ?_
  refine lv_iload_n hx hb dX6_measure_11 rfl (lv_at hl 1 rfl) ?_
  refine lv_ishl hx hb dX6_measure_12 ?_
  refine lv_iand hx hb dX6_measure_13 ?_
  refine lv_topi (fun v2 ev2 => ?_)
  have h := qOk.v h ev2
  refine lv_istore (lv' := [(4, .int v2), (0, .ref (ad b0)), (1, .int x1), (2, .ref (ad k2)), (3, .int x3)]) hx hb dX6_measure_14 hl (by decide) rfl (fun ls hl => ?_)
  refine lv_iload hx hb dX6_measure_16 (lv_at hl 0 rfl) ?_
  refine lv_istore (lv' := [(5, .int v2), (4, .int v2), (0, .ref (ad b0)), (1, .int x1), (2, .ref (ad k2)), (3, .int x3)]) hx hb dX6_measure_18 hl (by decide) rfl (fun ls hl => ?_)
  refine lv_iconst (v := 0) hx hb dX6_measure_20 (by decide) ?_
  refine lv_istore (lv' := [(6, .int 0), (5, .int v2), (4, .int v2), (0, .ref (ad b0)), (1, .int x1), (2, .ref (ad k2)), (3, .int x3)]) hx hb dX6_measure_21 hl (by decide) rfl (fun ls hl => ?_)
  refine qj1 (G := fun (M7 : qM) => ∀ (H : Heap) (locs : List Loc), qHS W1N e1 G ad M7 s.heap H locs → ∀ ls : Array Slot, lv_has ls 9 [] → W p l e (headSpec wsX6_measure rm_X6_measure).room s m [.ref (ad b0), .int x1, .ref (ad k2), .int x3].toArray below meth c H locs 0 0 (MQ below (va_Qv P (fun u t => qHp W1N e1 G ad u t.heap) (qA W1N ad s.heap.size)) [.ref (ad b0), .int x1, .ref (ad k2), .int x3].toArray s 0 0 (qA W1N ad s.heap.size)) (F0 m 106 ls [])) h ?_ ?_
  rotate_left
  · intro h
    refine qloop4 (I := fun (v3 : Int32) (v4 : Int32) (v5 : Int32) (M6 : qM) => ∀ (H : Heap) (locs : List Loc), qHS W1N e1 G ad M6 s.heap H locs → ∀ ls : Array Slot, lv_has ls 9 [(0, .ref (ad b0)), (2, .ref (ad k2)), (3, .int x3), (4, .int v3), (5, .int v4), (6, .int v5)] → W p l e (headSpec wsX6_measure rm_X6_measure).room s m [.ref (ad b0), .int x1, .ref (ad k2), .int x3].toArray below meth c H locs 0 0 (MQ below (va_Qv P (fun u t => qHp W1N e1 G ad u t.heap) (qA W1N ad s.heap.size)) [.ref (ad b0), .int x1, .ref (ad k2), .int x3].toArray s 0 0 (qA W1N ad s.heap.size)) (F0 m 23 ls [])) ?_ h _ _ hH _ (lv_sub hl [3, 5, 6, 2, 1, 0] rfl)
    intro v3 v4 v5 M6 h H locs hH ls hl
    have h : qOk (kX6_measure_L23 b0 k2 n2 x3 v3 v4 v5 M6) _ := h
    unfold kX6_measure_L23 at h
    refine lv_iload hx hb dX6_measure_23 (lv_at hl 5 rfl) ?_
    refine lv_bipush (v := 10) hx hb dX6_measure_25 (by decide) ?_
    refine lv_icmp_ge (tgt := 106) hx hb dX6_measure_27 (by decide) (fun hc => ?_) (fun hc => ?_)
    · have h := qOk.t hc h
      exact qOk.le h _ _ hH _ (lv_sub hl [] rfl)
    · have h := qOk.f hc h
      refine lv_iload hx hb dX6_measure_30 (lv_at hl 3 rfl) ?_
      refine lv_if_eq (tgt := 106) hx hb dX6_measure_32 (by decide) (fun hc => ?_) (fun hc => ?_)
      · have h := qOk.t hc h
        exact qOk.le h _ _ hH _ (lv_sub hl [] rfl)
      · have h := qOk.f hc h
        refine lv_iconst (v := 0) hx hb dX6_measure_35 (by decide) ?_
        refine lv_istore (lv' := [(7, .int 0), (0, .ref (ad b0)), (2, .ref (ad k2)), (3, .int x3), (4, .int v3), (5, .int v4), (6, .int v5)]) hx hb dX6_measure_36 hl (by decide) rfl (fun ls hl => ?_)
        refine lv_iconst (v := 0) hx hb dX6_measure_38 (by decide) ?_
        refine lv_istore (lv' := [(8, .int 0), (7, .int 0), (0, .ref (ad b0)), (2, .ref (ad k2)), (3, .int x3), (4, .int v3), (5, .int v4), (6, .int v5)]) hx hb dX6_measure_39 hl (by decide) rfl (fun ls hl => ?_)
        refine qj2 (G := fun (v11 : Int32) (M12 : qM) => ∀ (H : Heap) (locs : List Loc), qHS W1N e1 G ad M12 s.heap H locs → ∀ ls : Array Slot, lv_has ls 9 [(0, .ref (ad b0)), (2, .ref (ad k2)), (3, .int x3), (5, .int v4), (6, .int v5), (7, .int v11)] → W p l e (headSpec wsX6_measure rm_X6_measure).room s m [.ref (ad b0), .int x1, .ref (ad k2), .int x3].toArray below meth c H locs 0 0 (MQ below (va_Qv P (fun u t => qHp W1N e1 G ad u t.heap) (qA W1N ad s.heap.size)) [.ref (ad b0), .int x1, .ref (ad k2), .int x3].toArray s 0 0 (qA W1N ad s.heap.size)) (F0 m 82 ls [])) h ?_ ?_
        rotate_left
        · intro h
          refine qloop3 (I := fun (v8 : Int32) (v9 : Int32) (M10 : qM) => ∀ (H : Heap) (locs : List Loc), qHS W1N e1 G ad M10 s.heap H locs → ∀ ls : Array Slot, lv_has ls 9 [(0, .ref (ad b0)), (2, .ref (ad k2)), (3, .int x3), (4, .int v3), (5, .int v4), (6, .int v5), (7, .int v8), (8, .int v9)] → W p l e (headSpec wsX6_measure rm_X6_measure).room s m [.ref (ad b0), .int x1, .ref (ad k2), .int x3].toArray below meth c H locs 0 0 (MQ below (va_Qv P (fun u t => qHp W1N e1 G ad u t.heap) (qA W1N ad s.heap.size)) [.ref (ad b0), .int x1, .ref (ad k2), .int x3].toArray s 0 0 (qA W1N ad s.heap.size)) (F0 m 41 ls [])) ?_ h _ _ hH _ (lv_sub hl [2, 3, 4, 5, 6, 7, 1, 0] rfl)
          intro v8 v9 M10 h H locs hH ls hl
          have h : qOk (kX6_measure_L41 v3 b0 v5 k2 n2 v8 v9 M10) _ := h
          unfold kX6_measure_L41 at h
          refine lv_iload hx hb dX6_measure_41 (lv_at hl 7 rfl) ?_
          refine lv_bipush (v := 10) hx hb dX6_measure_43 (by decide) ?_
          refine lv_icmp_ge (tgt := 82) hx hb dX6_measure_45 (by decide) (fun hc => ?_) (fun hc => ?_)
          · have h := qOk.t hc h
            exact qOk.le h _ _ hH _ (lv_sub hl [0, 1, 2, 4, 5, 6] rfl)
          · have h := qOk.f hc h
            refine lv_iload hx hb dX6_measure_48 (lv_at hl 3 rfl) ?_
            refine lv_iload hx hb dX6_measure_50 (lv_at hl 7 rfl) ?_
            refine y_cs (va_runSN (host := "SongLamps") (As := [.int v3, .int v9]) (rest := []) ⟨hx, hb, hml, hown, hts⟩ (c_X7_has l v3 v9 (qOk.b1 h)) ⟨va_cnB 2 hts gX6_measure_X7_has_n21 rfl rfl rfl (hK.2 (RX6, 21, yX7_has, "SongLamps") (List.mem_of_getElem? (i := 8) rfl)) nI_X7 (by decide +kernel) ⟨Nat.le_of_ble_eq_true rfl, Nat.le_of_ble_eq_true rfl⟩, nS_X7_has, trivial⟩ ⟨qPrT.blind, qPrT.at⟩ rfl rfl hl.1 rfl (lv_room (Nat.le_of_ble_eq_true rfl)) dX6_measure_52 ⟨Nat.zero_le _, Nat.zero_le _⟩) (fun v13 h => ?_)
            refine qj2 (G := fun (v14 : Int32) (M15 : qM) => ∀ (H : Heap) (locs : List Loc), qHS W1N e1 G ad M15 s.heap H locs → ∀ ls : Array Slot, lv_has ls 9 [(0, .ref (ad b0)), (2, .ref (ad k2)), (3, .int x3), (4, .int v3), (5, .int v4), (6, .int v5), (7, .int v14), (8, .int v9)] → W p l e (headSpec wsX6_measure rm_X6_measure).room s m [.ref (ad b0), .int x1, .ref (ad k2), .int x3].toArray below meth c H locs 0 0 (MQ below (va_Qv P (fun u t => qHp W1N e1 G ad u t.heap) (qA W1N ad s.heap.size)) [.ref (ad b0), .int x1, .ref (ad k2), .int x3].toArray s 0 0 (qA W1N ad s.heap.size)) (F0 m 76 ls [])) h ?_ ?_
            rotate_left
            · intro h
              refine lv_if_eq (tgt := 76) hx hb dX6_measure_55 (by decide) (fun hc => ?_) (fun hc => ?_)
              · have h := qOk.t hc h
                have h := qOk.s h
                exact h _ _ hH _ (lv_sub hl [0, 1, 2, 3, 4, 5, 6, 7] rfl)
              · have h := qOk.f hc h
                refine lv_aload_n hx hb dX6_measure_58 rfl (lv_at hl 0 rfl) ?_
                refine y_get hx hb hts i_X6 hown hK hH (qWy_ob w0) rfl 0 (by decide) f9 rfl dX6_measure_59 ?_
                refine lv_iload hx hb dX6_measure_62 (lv_at hl 7 rfl) ?_
                refine lv_iload hx hb dX6_measure_64 (lv_at hl 5 rfl) ?_
                refine y_iast hx hb hK hI hH (qWy_a1 w0) h dX6_measure_66 (fun M16 H locs hH h => ?_)
                refine lv_iload hx hb dX6_measure_67 (lv_at hl 6 rfl) ?_
                refine lv_aload_n hx hb dX6_measure_69 rfl (lv_at hl 1 rfl) ?_
                refine lv_iload hx hb dX6_measure_70 (lv_at hl 7 rfl) ?_
                refine y_iald hx hb hK hH w2 h dX6_measure_72 (fun v17 h => ?_)
                refine lv_ior hx hb dX6_measure_73 ?_
                refine lv_topi (fun v18 ev18 => ?_)
                have h := qOk.v h ev18
                refine lv_istore (lv' := [(7, .int v18), (0, .ref (ad b0)), (2, .ref (ad k2)), (3, .int x3), (4, .int v3), (5, .int v4), (6, .int v5), (8, .int v9)]) hx hb dX6_measure_74 hl (by decide) rfl (fun ls hl => ?_)
                have h := qOk.s h
                exact h _ _ hH _ (lv_sub hl [1, 2, 3, 4, 5, 6, 0, 7] rfl)
            intro v14 M15 h H locs hH ls hl
            obtain ⟨v19, ev19⟩ : ∃ y : Int32, y = v9 + 1 := ⟨_, rfl⟩
            have h := qOk.v h ev19
            refine lv_iinc (v := v19) (lv' := [(8, .int v19), (0, .ref (ad b0)), (2, .ref (ad k2)), (3, .int x3), (4, .int v3), (5, .int v4), (6, .int v5), (7, .int v14)]) hx hb dX6_measure_76 hl (k := 7) rfl (by rw [ev19]; rfl) (by decide) rfl (fun ls hl => ?_)
            refine lv_goto (tgt := 41) hx hb dX6_measure_79 (by decide) ?_
            exact qOk.li h _ _ hH _ (lv_sub hl [1, 2, 3, 4, 5, 6, 7, 0] rfl)
        intro v11 M12 h H locs hH ls hl
        refine lv_iload hx hb dX6_measure_82 (lv_at hl 5 rfl) ?_
        refine lv_iload_n hx hb dX6_measure_84 rfl (lv_at hl 2 rfl) ?_
        refine lv_iand hx hb dX6_measure_85 ?_
        refine lv_iload hx hb dX6_measure_86 (lv_at hl 3 rfl) ?_
        refine lv_iconst (v := (-1)) hx hb dX6_measure_88 (by decide) ?_
        refine lv_ixor hx hb dX6_measure_89 ?_
        refine lv_iand hx hb dX6_measure_90 ?_
        refine lv_topi (fun v20 ev20 => ?_)
        have h := qOk.v h ev20
        refine lv_istore (lv' := [(4, .int v20), (0, .ref (ad b0)), (2, .ref (ad k2)), (3, .int x3), (5, .int v4), (6, .int v5), (7, .int v11)]) hx hb dX6_measure_91 hl (by decide) rfl (fun ls hl => ?_)
        refine lv_iload hx hb dX6_measure_93 (lv_at hl 4 rfl) ?_
        refine lv_iload hx hb dX6_measure_95 (lv_at hl 0 rfl) ?_
        refine lv_ior hx hb dX6_measure_97 ?_
        refine lv_topi (fun v21 ev21 => ?_)
        have h := qOk.v h ev21
        refine lv_istore (lv' := [(5, .int v21), (4, .int v20), (0, .ref (ad b0)), (2, .ref (ad k2)), (3, .int x3), (6, .int v5), (7, .int v11)]) hx hb dX6_measure_98 hl (by decide) rfl (fun ls hl => ?_)
        obtain ⟨v22, ev22⟩ : ∃ y : Int32, y = v5 + 1 := ⟨_, rfl⟩
        have h := qOk.v h ev22
        refine lv_iinc (v := v22) (lv' := [(6, .int v22), (5, .int v21), (4, .int v20), (0, .ref (ad b0)), (2, .ref (ad k2)), (3, .int x3), (7, .int v11)]) hx hb dX6_measure_100 hl (k := 5) rfl (by rw [ev22]; rfl) (by decide) rfl (fun ls hl => ?_)
        refine lv_goto (tgt := 23) hx hb dX6_measure_103 (by decide) ?_
        exact qOk.li h _ _ hH _ (lv_sub hl [3, 4, 5, 2, 1, 0] rfl)
  intro M7 h H locs hH ls hl
  exact W.vret hx hb hr (fun t ht _ => ⟨⟨_, rfl, qOk.s h, qHpt ht hH.1⟩, hH.2.F ht⟩) hH.2.2.2 dX6_measure_106
abbrev rm_X3_notesHeardAs : Room := { frames := 0, cells := 0, slots := 0, locals := 0 }
set_option maxHeartbeats 4000000 in
set_option maxRecDepth 100000 in
theorem c_X3_notesHeardAs (l : Launch) (x0 : Int32) (x1 : Int32) {P : Int32 → Prop} (h : qOk (kX3_notesHeardAs x0 x1) P) : Met l yX3_notesHeardAs wsX3_notesHeardAs rm_X3_notesHeardAs (va_Pc [.int x0, .int x1] (fun _ => True)) (vp_Si P) 0 0 (fun _ => False) := by
  refine Met.ofW (cc := cX3_notesHeardAs) (maxL := 3) (ret := (some .int)) (by decide) rfl ?_
  intro p e s m args below meth c s₁ B hml hv
  obtain ⟨rfl, -⟩ := hv
  have hx := B.exec
  have hb := B.bytes
  have hr := B.returns
  have hts := atoms_spec (ws := wsX3_notesHeardAs) B.pre
  have hown : s.vm.findClass RX3 = some m.cls := findClass_of_methodNamed B.named
  have hlocks := B.notSynchronized
  have q32 : (Cond.constant RX3 32 (16777215)).before [.int x0, .int x1].toArray s = true := hts _ (by decide +kernel)
  have hl := lv_entry ([.int x0, .int x1]) (n := 3) (Nat.le_of_ble_eq_true rfl)
  rw [lg_entry_eq]
  generalize (lg_sl ([.int x0, .int x1]) ++ List.replicate (3 - (lg_sl ([.int x0, .int x1])).length) Slot.unset).toArray = ls at hl ⊢
  have hl : lv_has ls 3 [(0, .int x0), (1, .int x1)] := hl
  have h : qOk (kX3_notesHeardAs x0 x1) _ := h
  unfold kX3_notesHeardAs at h
  refine lv_iload_n hx hb dX3_notesHeardAs_0 rfl (lv_at hl 1 rfl) ?_
  refine lv_if_ge (tgt := 16) hx hb dX3_notesHeardAs_1 (by decide) (fun hc => ?_) (fun hc => ?_)
  · have h := qOk.t hc h
    refine lv_iload_n hx hb dX3_notesHeardAs_16 rfl (lv_at hl 0 rfl) ?_
    refine lv_iconst (v := (-1)) hx hb dX3_notesHeardAs_17 (by decide) ?_
    refine lv_icmp_ne (tgt := 27) hx hb dX3_notesHeardAs_18 (by decide) (fun hc => ?_) (fun hc => ?_)
    · have h := qOk.f hc h
      refine lv_iload_n hx hb dX3_notesHeardAs_27 rfl (lv_at hl 0 rfl) ?_
      refine lv_iload_n hx hb dX3_notesHeardAs_28 rfl (lv_at hl 1 rfl) ?_
      refine lv_iadd hx hb dX3_notesHeardAs_29 ?_
      refine lv_topi (fun v1 ev1 => ?_)
      have h := qOk.v h ev1
      refine lv_istore_n (lv' := [(2, .int v1), (0, .int x0), (1, .int x1)]) hx hb dX3_notesHeardAs_30 rfl hl (by decide) rfl (fun ls hl => ?_)
      refine lv_iload_n hx hb dX3_notesHeardAs_31 rfl (lv_at hl 0 rfl) ?_
      refine lv_bipush (v := 24) hx hb dX3_notesHeardAs_32 (by decide) ?_
      refine qj1 (G := fun (v2 : Int32) => W p l e (headSpec wsX3_notesHeardAs rm_X3_notesHeardAs).room s m [.int x0, .int x1].toArray below meth c s.heap [] 0 0 (MQ below (vp_Si P) [.int x0, .int x1].toArray s 0 0 (fun _ => False)) (F0 m 44 ls [.int v2])) h ?_ ?_
      rotate_left
      · intro h
        refine lv_icmp_ge (tgt := 43) hx hb dX3_notesHeardAs_34 (by decide) (fun hc => ?_) (fun hc => ?_)
        · have h := qOk.t hc h
          refine lv_iconst (v := 0) hx hb dX3_notesHeardAs_43 (by decide) ?_
          have h := qOk.s h
          exact h
        · have h := qOk.f hc h
          refine lv_iconst (v := 1) hx hb dX3_notesHeardAs_37 (by decide) ?_
          refine lv_iload_n hx hb dX3_notesHeardAs_38 rfl (lv_at hl 0 rfl) ?_
          refine lv_ishl hx hb dX3_notesHeardAs_39 ?_
          refine lv_goto (tgt := 44) hx hb dX3_notesHeardAs_40 (by decide) ?_
          have h := qOk.s h
          exact h
      intro v2 h
      exact W.iret hx hb hr (fun t ht _ => ⟨_, rfl, qOk.s h, ht⟩) (fun _ hq => by cases hq) dX3_notesHeardAs_44
    · have h := qOk.t hc h
      refine lv_iconst (v := 1) hx hb dX3_notesHeardAs_21 (by decide) ?_
      refine lv_iload_n hx hb dX3_notesHeardAs_22 rfl (lv_at hl 1 rfl) ?_
      refine lv_ishl hx hb dX3_notesHeardAs_23 ?_
      refine lv_iconst (v := 1) hx hb dX3_notesHeardAs_24 (by decide) ?_
      refine lv_isub hx hb dX3_notesHeardAs_25 ?_
      exact W.iret hx hb hr (fun t ht _ => ⟨_, rfl, qOk.s h, ht⟩) (fun _ hq => by cases hq) dX3_notesHeardAs_26
  · have h := qOk.f hc h
    refine lv_iload_n hx hb dX3_notesHeardAs_4 rfl (lv_at hl 0 rfl) ?_
    refine lv_iconst (v := (-1)) hx hb dX3_notesHeardAs_5 (by decide) ?_
    refine qj1 (G := fun (v3 : Int32) => W p l e (headSpec wsX3_notesHeardAs rm_X3_notesHeardAs).room s m [.int x0, .int x1].toArray below meth c s.heap [] 0 0 (MQ below (vp_Si P) [.int x0, .int x1].toArray s 0 0 (fun _ => False)) (F0 m 15 ls [.int v3])) h ?_ ?_
    rotate_left
    · intro h
      refine lv_icmp_ne (tgt := 14) hx hb dX3_notesHeardAs_6 (by decide) (fun hc => ?_) (fun hc => ?_)
      · have h := qOk.f hc h
        refine lv_iconst (v := 0) hx hb dX3_notesHeardAs_14 (by decide) ?_
        have h := qOk.s h
        exact h
      · have h := qOk.t hc h
        refine lv_ldc (v := 16777215) hx hb hown q32 dX3_notesHeardAs_9 ?_
        refine lv_goto (tgt := 15) hx hb dX3_notesHeardAs_11 (by decide) ?_
        have h := qOk.s h
        exact h
    intro v3 h
    exact W.iret hx hb hr (fun t ht _ => ⟨_, rfl, qOk.s h, ht⟩) (fun _ hq => by cases hq) dX3_notesHeardAs_15
abbrev rm_X3_findFits : Room := { frames := 2, cells := 0, slots := 0, locals := 51 }
set_option maxHeartbeats 4000000 in
set_option maxRecDepth 100000 in
theorem c_X3_findFits (l : Launch) (G : qG) (ad : Nat → Nat) (hI : qI W1N ad) (M : qM) (sz : Nat) {b1 : Nat} (w1 : qMi b1) {P : qM → Prop} (h : qOk (kX3_findFits M b1) P) : Met l yX3_findFits wsX3_findFits rm_X3_findFits (va_Pc [.ref (ad 65), .ref (ad b1)] (qPre W1N e1 G ad M sz)) (va_Qv P (fun u t => qHp W1N e1 G ad u t.heap) (qA W1N ad sz)) 0 0 (qA W1N ad sz) := by
  refine Met.ofW (cc := cX3_findFits) (maxL := 4) (ret := none) (by decide) rfl ?_
  intro p e s m args below meth c s₁ B hml hv
  obtain ⟨rfl, hsz, hK, hP⟩ := hv
  subst hsz
  have hx := B.exec
  have hb := B.bytes
  have hr := B.returns
  have hts := atoms_spec (ws := wsX3_findFits) B.pre
  have hown : s.vm.findClass RX3 = some m.cls := findClass_of_methodNamed B.named
  have hlocks := B.notSynchronized
  have hH : qHS W1N e1 G ad M s.heap s.heap [] := ⟨hP, va_S.rf⟩
  have f18 : (Cond.fieldLink RX3 18 "SongLamps$Search" "fits" "[I").before [.ref (ad 65), .ref (ad b1)].toArray s = true := hts _ (by decide +kernel)
  have i_X3 : ∀ w ∈ wsX30, w ∈ wsX3_findFits := fun w hw => List.mem_cons_of_mem _ ((List.mem_append_left _ (List.mem_append_left _ (List.mem_append_right _ hw))))
  have q32 : (Cond.constant RX3 32 (16777215)).before [.ref (ad 65), .ref (ad b1)].toArray s = true := hts _ (by decide +kernel)
  have f39 : (Cond.fieldLink RX3 39 "SongLamps$Mine" "sights" "I").before [.ref (ad 65), .ref (ad b1)].toArray s = true := hts _ (by decide +kernel)
  have i_X1 : ∀ w ∈ wsX10, w ∈ wsX3_findFits := fun w hw => List.mem_cons_of_mem _ ((List.mem_append_left _ (List.mem_append_right _ hw)))
  have f12 : (Cond.fieldLink RX3 12 "SongLamps$Search" "ways" "LSongLamps$Ways;").before [.ref (ad 65), .ref (ad b1)].toArray s = true := hts _ (by decide +kernel)
  have f44 : (Cond.fieldLink RX3 44 "SongLamps$Mine" "sightPlace" "[I").before [.ref (ad 65), .ref (ad b1)].toArray s = true := hts _ (by decide +kernel)
  have f47 : (Cond.fieldLink RX3 47 "SongLamps$Mine" "passages" "[I").before [.ref (ad 65), .ref (ad b1)].toArray s = true := hts _ (by decide +kernel)
  have f50 : (Cond.fieldLink RX3 50 "SongLamps$Mine" "closed" "I").before [.ref (ad 65), .ref (ad b1)].toArray s = true := hts _ (by decide +kernel)
  have f57 : (Cond.fieldLink RX3 57 "SongLamps$Mine" "sightNote" "[I").before [.ref (ad 65), .ref (ad b1)].toArray s = true := hts _ (by decide +kernel)
  have f60 : (Cond.fieldLink RX3 60 "SongLamps$Ways" "far" "[I").before [.ref (ad 65), .ref (ad b1)].toArray s = true := hts _ (by decide +kernel)
  have i_X6 : ∀ w ∈ wsX60, w ∈ wsX3_findFits := fun w hw => List.mem_cons_of_mem _ ((List.mem_append_right _ hw))
  have hl := lv_entry ([.ref (ad 65), .ref (ad b1)]) (n := 4) (Nat.le_of_ble_eq_true rfl)
  rw [lg_entry_eq]
  generalize (lg_sl ([.ref (ad 65), .ref (ad b1)]) ++ List.replicate (4 - (lg_sl ([.ref (ad 65), .ref (ad b1)])).length) Slot.unset).toArray = ls at hl ⊢
  have hl : lv_has ls 4 [(0, .ref (ad 65)), (1, .ref (ad b1))] := hl
  have h : qOk (kX3_findFits M b1) _ := h
  unfold kX3_findFits at h
  refine lv_aload_n hx hb dX3_findFits_0 rfl (lv_at hl 0 rfl) ?_
  refine y_get hx hb hts i_X3 hown hK hH qOb_3 rfl 1 (by decide) f18 rfl dX3_findFits_1 ?_
  refine lv_ldc (v := 16777215) hx hb hown q32 dX3_findFits_4 ?_
  refine y_cv hH (va_runS (As := [.ref (ad 68), .int 16777215]) (rest := []) ⟨hx, hb, hml, hown, hts⟩ (c_J7_fill_53178 l G ad hI M _ qAr_68 16777215 (qOk.b1 h)) (va_cwS 2 hts gX3_findFits_J7_fill_53178 rfl rfl rfl (by decide +kernel) ⟨Nat.le_of_ble_eq_true rfl, Nat.le_of_ble_eq_true rfl⟩) ⟨qPre.blind, qPre.at hK hH⟩ rfl rfl hl.1 rfl (lv_room (Nat.le_of_ble_eq_true rfl)) dX3_findFits_6 ⟨Nat.zero_le _, Nat.zero_le _⟩) (fun M1 H locs hH h => ?_)
  refine lv_iconst (v := 0) hx hb dX3_findFits_9 (by decide) ?_
  refine lv_istore_n (lv' := [(2, .int 0), (0, .ref (ad 65)), (1, .ref (ad b1))]) hx hb dX3_findFits_10 rfl hl (by decide) rfl (fun ls hl => ?_)
  refine qj1 (G := fun (M4 : qM) => ∀ (H : Heap) (locs : List Loc), qHS W1N e1 G ad M4 s.heap H locs → ∀ ls : Array Slot, lv_has ls 4 [] → W p l e (headSpec wsX3_findFits rm_X3_findFits).room s m [.ref (ad 65), .ref (ad b1)].toArray below meth c H locs 0 0 (MQ below (va_Qv P (fun u t => qHp W1N e1 G ad u t.heap) (qA W1N ad s.heap.size)) [.ref (ad 65), .ref (ad b1)].toArray s 0 0 (qA W1N ad s.heap.size)) (F0 m 99 ls [])) h ?_ ?_
  rotate_left
  · intro h
    refine qloop2 (I := fun (v2 : Int32) (M3 : qM) => ∀ (H : Heap) (locs : List Loc), qHS W1N e1 G ad M3 s.heap H locs → ∀ ls : Array Slot, lv_has ls 4 [(0, .ref (ad 65)), (1, .ref (ad b1)), (2, .int v2)] → W p l e (headSpec wsX3_findFits rm_X3_findFits).room s m [.ref (ad 65), .ref (ad b1)].toArray below meth c H locs 0 0 (MQ below (va_Qv P (fun u t => qHp W1N e1 G ad u t.heap) (qA W1N ad s.heap.size)) [.ref (ad 65), .ref (ad b1)].toArray s 0 0 (qA W1N ad s.heap.size)) (F0 m 11 ls [])) ?_ h _ _ hH _ (lv_sub hl [1, 2, 0] rfl)
    intro v2 M3 h H locs hH ls hl
    have h : qOk (kX3_findFits_L11 b1 v2 M3) _ := h
    unfold kX3_findFits_L11 at h
    refine lv_iload_n hx hb dX3_findFits_11 rfl (lv_at hl 2 rfl) ?_
    refine lv_aload_n hx hb dX3_findFits_12 rfl (lv_at hl 1 rfl) ?_
    refine y_get hx hb hts i_X1 hown hK hH (qMi_ob w1) rfl 7 (by decide) f39 rfl dX3_findFits_13 ?_
    refine lv_icmp_ge (tgt := 99) hx hb dX3_findFits_16 (by decide) (fun hc => ?_) (fun hc => ?_)
    · have h := qOk.t hc h
      exact qOk.le h _ _ hH _ (lv_sub hl [] rfl)
    · have h := qOk.f hc h
      refine lv_iload_n hx hb dX3_findFits_19 rfl (lv_at hl 2 rfl) ?_
      refine lv_bipush (v := 8) hx hb dX3_findFits_20 (by decide) ?_
      refine lv_icmp_ge (tgt := 99) hx hb dX3_findFits_22 (by decide) (fun hc => ?_) (fun hc => ?_)
      · have h := qOk.t hc h
        exact qOk.le h _ _ hH _ (lv_sub hl [] rfl)
      · have h := qOk.f hc h
        refine lv_aload_n hx hb dX3_findFits_25 rfl (lv_at hl 0 rfl) ?_
        refine y_get hx hb hts i_X3 hown hK hH qOb_3 rfl 0 (by decide) f12 rfl dX3_findFits_26 ?_
        refine lv_aload_n hx hb dX3_findFits_29 rfl (lv_at hl 1 rfl) ?_
        refine y_get hx hb hts i_X1 hown hK hH (qMi_ob w1) rfl 14 (by decide) f44 rfl dX3_findFits_30 ?_
        refine lv_iload_n hx hb dX3_findFits_33 rfl (lv_at hl 2 rfl) ?_
        refine y_iald hx hb hK hH (qMi_a10 w1) h dX3_findFits_34 (fun v5 h => ?_)
        refine lv_aload_n hx hb dX3_findFits_35 rfl (lv_at hl 1 rfl) ?_
        refine y_get hx hb hts i_X1 hown hK hH (qMi_ob w1) rfl 0 (by decide) f47 rfl dX3_findFits_36 ?_
        refine lv_sipush (v := 1023) hx hb dX3_findFits_39 (by decide) ?_
        refine lv_aload_n hx hb dX3_findFits_42 rfl (lv_at hl 1 rfl) ?_
        refine y_get hx hb hts i_X1 hown hK hH (qMi_ob w1) rfl 4 (by decide) f50 rfl dX3_findFits_43 ?_
        refine lv_iconst (v := (-1)) hx hb dX3_findFits_46 (by decide) ?_
        refine lv_ixor hx hb dX3_findFits_47 ?_
        refine lv_iand hx hb dX3_findFits_48 ?_
        refine y_cv hH (va_runV (As := [.int v5, .ref (ad (b1 + 1)), .int (1023 &&& ((M3 b1 4) ^^^ (-1)))]) (rest := []) ⟨hx, hb, hml, hown, hts⟩ (c_X6_measure l G ad hI M3 _ qWy_66 v5 (qMi_a1 w1) (1023 &&& ((M3 b1 4) ^^^ (-1))) (qOk.b1 h)) (cwV 3 hts gX3_findFits_X6_measure rfl rfl rfl (by decide +kernel) ⟨Nat.le_of_ble_eq_true rfl, Nat.le_of_ble_eq_true rfl⟩) ⟨qPre.blind, qrecv hK hH (qWy_ob qWy_66) rfl, qPre.at hK hH⟩ rfl rfl hl.1 rfl (lv_room (Nat.le_of_ble_eq_true rfl)) dX3_findFits_49 ⟨Nat.zero_le _, Nat.zero_le _⟩) (fun M6 H locs hH h => ?_)
        refine lv_iconst (v := 0) hx hb dX3_findFits_52 (by decide) ?_
        refine lv_istore_n (lv' := [(3, .int 0), (0, .ref (ad 65)), (1, .ref (ad b1)), (2, .int v2)]) hx hb dX3_findFits_53 rfl hl (by decide) rfl (fun ls hl => ?_)
        refine qj1 (G := fun (M9 : qM) => ∀ (H : Heap) (locs : List Loc), qHS W1N e1 G ad M9 s.heap H locs → ∀ ls : Array Slot, lv_has ls 4 [(0, .ref (ad 65)), (1, .ref (ad b1)), (2, .int v2)] → W p l e (headSpec wsX3_findFits rm_X3_findFits).room s m [.ref (ad 65), .ref (ad b1)].toArray below meth c H locs 0 0 (MQ below (va_Qv P (fun u t => qHp W1N e1 G ad u t.heap) (qA W1N ad s.heap.size)) [.ref (ad 65), .ref (ad b1)].toArray s 0 0 (qA W1N ad s.heap.size)) (F0 m 93 ls [])) h ?_ ?_
        rotate_left
        · intro h
          refine qloop2 (I := fun (v7 : Int32) (M8 : qM) => ∀ (H : Heap) (locs : List Loc), qHS W1N e1 G ad M8 s.heap H locs → ∀ ls : Array Slot, lv_has ls 4 [(0, .ref (ad 65)), (1, .ref (ad b1)), (2, .int v2), (3, .int v7)] → W p l e (headSpec wsX3_findFits rm_X3_findFits).room s m [.ref (ad 65), .ref (ad b1)].toArray below meth c H locs 0 0 (MQ below (va_Qv P (fun u t => qHp W1N e1 G ad u t.heap) (qA W1N ad s.heap.size)) [.ref (ad 65), .ref (ad b1)].toArray s 0 0 (qA W1N ad s.heap.size)) (F0 m 54 ls [])) ?_ h _ _ hH _ (lv_sub hl [1, 2, 3, 0] rfl)
          intro v7 M8 h H locs hH ls hl
          have h : qOk (kX3_findFits_L54 b1 v2 v7 M8) _ := h
          unfold kX3_findFits_L54 at h
          refine lv_iload_n hx hb dX3_findFits_54 rfl (lv_at hl 3 rfl) ?_
          refine lv_bipush (v := 10) hx hb dX3_findFits_55 (by decide) ?_
          refine lv_icmp_ge (tgt := 93) hx hb dX3_findFits_57 (by decide) (fun hc => ?_) (fun hc => ?_)
          · have h := qOk.t hc h
            exact qOk.le h _ _ hH _ (lv_sub hl [0, 1, 2] rfl)
          · have h := qOk.f hc h
            refine lv_aload_n hx hb dX3_findFits_60 rfl (lv_at hl 0 rfl) ?_
            refine y_get hx hb hts i_X3 hown hK hH qOb_3 rfl 1 (by decide) f18 rfl dX3_findFits_61 ?_
            refine lv_iload_n hx hb dX3_findFits_64 rfl (lv_at hl 3 rfl) ?_
            refine lv_dup2_11 hx hb dX3_findFits_65 rfl rfl ?_
            refine y_iald hx hb hK hH qAr_68 h dX3_findFits_66 (fun v10 h => ?_)
            refine lv_aload_n hx hb dX3_findFits_67 rfl (lv_at hl 1 rfl) ?_
            refine y_get hx hb hts i_X1 hown hK hH (qMi_ob w1) rfl 15 (by decide) f57 rfl dX3_findFits_68 ?_
            refine lv_iload_n hx hb dX3_findFits_71 rfl (lv_at hl 2 rfl) ?_
            refine y_iald hx hb hK hH (qMi_a11 w1) h dX3_findFits_72 (fun v11 h => ?_)
            refine lv_aload_n hx hb dX3_findFits_73 rfl (lv_at hl 0 rfl) ?_
            refine y_get hx hb hts i_X3 hown hK hH qOb_3 rfl 0 (by decide) f12 rfl dX3_findFits_74 ?_
            refine y_get hx hb hts i_X6 hown hK hH (qWy_ob qWy_66) rfl 0 (by decide) f60 rfl dX3_findFits_77 ?_
            refine lv_iload_n hx hb dX3_findFits_80 rfl (lv_at hl 3 rfl) ?_
            refine y_iald hx hb hK hH (qWy_a1 qWy_66) h dX3_findFits_81 (fun v12 h => ?_)
            refine y_cs (va_runS (As := [.int v11, .int v12]) (rest := [.int v10, .int v7, .ref (ad 68)]) ⟨hx, hb, hml, hown, hts⟩ (c_X3_notesHeardAs l v11 v12 (qOk.b1 h)) (va_cwS 2 hts gX3_findFits_X3_notesHeardAs rfl rfl rfl (by decide +kernel) ⟨Nat.le_of_ble_eq_true rfl, Nat.le_of_ble_eq_true rfl⟩) ⟨qPrT.blind, qPrT.at⟩ rfl rfl hl.1 rfl (lv_room (Nat.le_of_ble_eq_true rfl)) dX3_findFits_82 ⟨Nat.zero_le _, Nat.zero_le _⟩) (fun v13 h => ?_)
            refine lv_iand hx hb dX3_findFits_85 ?_
            refine y_iast hx hb hK hI hH qAr_68 h dX3_findFits_86 (fun M14 H locs hH h => ?_)
            obtain ⟨v15, ev15⟩ : ∃ y : Int32, y = v7 + 1 := ⟨_, rfl⟩
            have h := qOk.v h ev15
            refine lv_iinc (v := v15) (lv' := [(3, .int v15), (0, .ref (ad 65)), (1, .ref (ad b1)), (2, .int v2)]) hx hb dX3_findFits_87 hl (k := 3) rfl (by rw [ev15]; rfl) (by decide) rfl (fun ls hl => ?_)
            refine lv_goto (tgt := 54) hx hb dX3_findFits_90 (by decide) ?_
            exact qOk.li h _ _ hH _ (lv_sub hl [1, 2, 3, 0] rfl)
        intro M9 h H locs hH ls hl
        obtain ⟨v16, ev16⟩ : ∃ y : Int32, y = v2 + 1 := ⟨_, rfl⟩
        have h := qOk.v h ev16
        refine lv_iinc (v := v16) (lv' := [(2, .int v16), (0, .ref (ad 65)), (1, .ref (ad b1))]) hx hb dX3_findFits_93 hl (k := 2) rfl (by rw [ev16]; rfl) (by decide) rfl (fun ls hl => ?_)
        refine lv_goto (tgt := 11) hx hb dX3_findFits_96 (by decide) ?_
        exact qOk.li h _ _ hH _ (lv_sub hl [1, 2, 0] rfl)
  intro M4 h H locs hH ls hl
  exact W.vret hx hb hr (fun t ht _ => ⟨⟨_, rfl, qOk.s h, qHpt ht hH.1⟩, hH.2.F ht⟩) hH.2.2.2 dX3_findFits_99
abbrev rm_X3_fitCount : Room := { frames := 1, cells := 0, slots := 0, locals := 20 }
set_option maxHeartbeats 4000000 in
set_option maxRecDepth 100000 in
theorem c_X3_fitCount (l : Launch) (G : qG) (ad : Nat → Nat) (hI : qI W1N ad) (M : qM) (sz : Nat) {P : Int32 → Prop} (h : qOk (kX3_fitCount M) P) : Met l yX3_fitCount wsX3_fitCount rm_X3_fitCount (va_Pc [.ref (ad 65)] (qPre W1N e1 G ad M sz)) (vp_Si P) 0 0 (fun _ => False) := by
  refine Met.ofW (cc := cX3_fitCount) (maxL := 3) (ret := (some .int)) (by decide) rfl ?_
  intro p e s m args below meth c s₁ B hml hv
  obtain ⟨rfl, hsz, hK, hP⟩ := hv
  subst hsz
  have hx := B.exec
  have hb := B.bytes
  have hr := B.returns
  have hts := atoms_spec (ws := wsX3_fitCount) B.pre
  have hown : s.vm.findClass RX3 = some m.cls := findClass_of_methodNamed B.named
  have hlocks := B.notSynchronized
  have hH : qHS W1N e1 G ad M s.heap s.heap [] := ⟨hP, va_S.rf⟩
  have f18 : (Cond.fieldLink RX3 18 "SongLamps$Search" "fits" "[I").before [.ref (ad 65)].toArray s = true := hts _ (by decide +kernel)
  have i_X3 : ∀ w ∈ wsX30, w ∈ wsX3_fitCount := fun w hw => List.mem_cons_of_mem _ ((List.mem_append_right _ hw))
  have hl := lv_entry ([.ref (ad 65)]) (n := 3) (Nat.le_of_ble_eq_true rfl)
  rw [lg_entry_eq]
  generalize (lg_sl ([.ref (ad 65)]) ++ List.replicate (3 - (lg_sl ([.ref (ad 65)])).length) Slot.unset).toArray = ls at hl ⊢
  have hl : lv_has ls 3 [(0, .ref (ad 65))] := hl
  have h : qOk (kX3_fitCount M) _ := h
  unfold kX3_fitCount at h
  refine lv_iconst (v := 0) hx hb dX3_fitCount_0 (by decide) ?_
  refine lv_istore_n (lv' := [(1, .int 0), (0, .ref (ad 65))]) hx hb dX3_fitCount_1 rfl hl (by decide) rfl (fun ls hl => ?_)
  refine lv_iconst (v := 0) hx hb dX3_fitCount_2 (by decide) ?_
  refine lv_istore_n (lv' := [(2, .int 0), (1, .int 0), (0, .ref (ad 65))]) hx hb dX3_fitCount_3 rfl hl (by decide) rfl (fun ls hl => ?_)
  refine qj1 (G := fun (v3 : Int32) => ∀ ls : Array Slot, lv_has ls 3 [(1, .int v3)] → W p l e (headSpec wsX3_fitCount rm_X3_fitCount).room s m [.ref (ad 65)].toArray below meth c s.heap [] 0 0 (MQ below (vp_Si P) [.ref (ad 65)].toArray s 0 0 (fun _ => False)) (F0 m 28 ls [])) h ?_ ?_
  rotate_left
  · intro h
    refine qloop2 (I := fun (v1 : Int32) (v2 : Int32) => ∀ ls : Array Slot, lv_has ls 3 [(0, .ref (ad 65)), (1, .int v1), (2, .int v2)] → W p l e (headSpec wsX3_fitCount rm_X3_fitCount).room s m [.ref (ad 65)].toArray below meth c s.heap [] 0 0 (MQ below (vp_Si P) [.ref (ad 65)].toArray s 0 0 (fun _ => False)) (F0 m 4 ls [])) ?_ h _ (lv_sub hl [2, 1, 0] rfl)
    intro v1 v2 h ls hl
    have h : qOk (kX3_fitCount_L4 M v1 v2) _ := h
    unfold kX3_fitCount_L4 at h
    refine lv_iload_n hx hb dX3_fitCount_4 rfl (lv_at hl 2 rfl) ?_
    refine lv_bipush (v := 10) hx hb dX3_fitCount_5 (by decide) ?_
    refine lv_icmp_ge (tgt := 28) hx hb dX3_fitCount_7 (by decide) (fun hc => ?_) (fun hc => ?_)
    · have h := qOk.t hc h
      exact qOk.le h _ (lv_sub hl [1] rfl)
    · have h := qOk.f hc h
      refine lv_iload_n hx hb dX3_fitCount_10 rfl (lv_at hl 1 rfl) ?_
      refine lv_aload_n hx hb dX3_fitCount_11 rfl (lv_at hl 0 rfl) ?_
      refine y_get hx hb hts i_X3 hown hK hH qOb_3 rfl 1 (by decide) f18 rfl dX3_fitCount_12 ?_
      refine lv_iload_n hx hb dX3_fitCount_15 rfl (lv_at hl 2 rfl) ?_
      refine y_iald hx hb hK hH qAr_68 h dX3_fitCount_16 (fun v4 h => ?_)
      refine y_cs (va_runS (As := [.int v4]) (rest := [.int v1]) ⟨hx, hb, hml, hown, hts⟩ (c_J6_bitCount_0f7a4 l v4 (qOk.b1 h)) (va_cwS 1 hts gX3_fitCount_J6_bitCount_0f7a4 rfl rfl rfl (by decide +kernel) ⟨Nat.le_of_ble_eq_true rfl, Nat.le_of_ble_eq_true rfl⟩) ⟨qPrT.blind, qPrT.at⟩ rfl rfl hl.1 rfl (lv_room (Nat.le_of_ble_eq_true rfl)) dX3_fitCount_17 ⟨Nat.zero_le _, Nat.zero_le _⟩) (fun v5 h => ?_)
      refine lv_iadd hx hb dX3_fitCount_20 ?_
      refine lv_topi (fun v6 ev6 => ?_)
      have h := qOk.v h ev6
      refine lv_istore_n (lv' := [(1, .int v6), (0, .ref (ad 65)), (2, .int v2)]) hx hb dX3_fitCount_21 rfl hl (by decide) rfl (fun ls hl => ?_)
      obtain ⟨v7, ev7⟩ : ∃ y : Int32, y = v2 + 1 := ⟨_, rfl⟩
      have h := qOk.v h ev7
      refine lv_iinc (v := v7) (lv' := [(2, .int v7), (1, .int v6), (0, .ref (ad 65))]) hx hb dX3_fitCount_22 hl (k := 2) rfl (by rw [ev7]; rfl) (by decide) rfl (fun ls hl => ?_)
      refine lv_goto (tgt := 4) hx hb dX3_fitCount_25 (by decide) ?_
      exact qOk.li h _ (lv_sub hl [2, 1, 0] rfl)
  intro v3 h ls hl
  refine lv_iload_n hx hb dX3_fitCount_28 rfl (lv_at hl 0 rfl) ?_
  exact W.iret hx hb hr (fun t ht _ => ⟨_, rfl, qOk.s h, ht⟩) (fun _ hq => by cases hq) dX3_fitCount_29
abbrev rm_J6_numberOfTrailingZeros_0f7a4 : Room := { frames := 0, cells := 0, slots := 0, locals := 0 }
set_option maxHeartbeats 4000000 in
set_option maxRecDepth 100000 in
theorem c_J6_numberOfTrailingZeros_0f7a4 (l : Launch) (x0 : Int32) {P : Int32 → Prop} (h : qOk (kJ6_numberOfTrailingZeros_0f7a4 x0) P) : Met l yJ6_numberOfTrailingZeros_0f7a4 wsJ6_numberOfTrailingZeros_0f7a4 rm_J6_numberOfTrailingZeros_0f7a4 (va_Pc [.int x0] (fun _ => True)) (vp_Si P) 0 0 (fun _ => False) := by
  refine Met.ofW (cc := cJ6_numberOfTrailingZeros_0f7a4) (maxL := 2) (ret := (some .int)) (by decide) rfl ?_
  intro p e s m args below meth c s₁ B hml hv
  obtain ⟨rfl, -⟩ := hv
  have hx := B.exec
  have hb := B.bytes
  have hr := B.returns
  have hts := atoms_spec (ws := wsJ6_numberOfTrailingZeros_0f7a4) B.pre
  have hown : s.vm.findClass RJ6 = some m.cls := findClass_of_methodNamed B.named
  have hlocks := B.notSynchronized
  have q264 : (Cond.constant RJ6 264 (65536)).before [.int x0].toArray s = true := hts _ (by decide +kernel)
  have hl := lv_entry ([.int x0]) (n := 2) (Nat.le_of_ble_eq_true rfl)
  rw [lg_entry_eq]
  generalize (lg_sl ([.int x0]) ++ List.replicate (2 - (lg_sl ([.int x0])).length) Slot.unset).toArray = ls at hl ⊢
  have hl : lv_has ls 2 [(0, .int x0)] := hl
  have h : qOk (kJ6_numberOfTrailingZeros_0f7a4 x0) _ := h
  unfold kJ6_numberOfTrailingZeros_0f7a4 at h
  refine lv_iload_n hx hb dJ6_numberOfTrailingZeros_0f7a4_0 rfl (lv_at hl 0 rfl) ?_
  refine lv_iconst (v := (-1)) hx hb dJ6_numberOfTrailingZeros_0f7a4_1 (by decide) ?_
  refine lv_ixor hx hb dJ6_numberOfTrailingZeros_0f7a4_2 ?_
  refine lv_iload_n hx hb dJ6_numberOfTrailingZeros_0f7a4_3 rfl (lv_at hl 0 rfl) ?_
  refine lv_iconst (v := 1) hx hb dJ6_numberOfTrailingZeros_0f7a4_4 (by decide) ?_
  refine lv_isub hx hb dJ6_numberOfTrailingZeros_0f7a4_5 ?_
  refine lv_iand hx hb dJ6_numberOfTrailingZeros_0f7a4_6 ?_
  refine lv_topi (fun v1 ev1 => ?_)
  have h := qOk.v h ev1
  refine lv_istore_n (lv' := [(0, .int v1)]) hx hb dJ6_numberOfTrailingZeros_0f7a4_7 rfl hl (by decide) rfl (fun ls hl => ?_)
  refine lv_iload_n hx hb dJ6_numberOfTrailingZeros_0f7a4_8 rfl (lv_at hl 0 rfl) ?_
  refine lv_if_gt (tgt := 17) hx hb dJ6_numberOfTrailingZeros_0f7a4_9 (by decide) (fun hc => ?_) (fun hc => ?_)
  · have h := qOk.t hc h
    refine lv_iconst (v := 1) hx hb dJ6_numberOfTrailingZeros_0f7a4_17 (by decide) ?_
    refine lv_istore_n (lv' := [(1, .int 1), (0, .int v1)]) hx hb dJ6_numberOfTrailingZeros_0f7a4_18 rfl hl (by decide) rfl (fun ls hl => ?_)
    refine lv_iload_n hx hb dJ6_numberOfTrailingZeros_0f7a4_19 rfl (lv_at hl 1 rfl) ?_
    refine lv_ldcw (v := 65536) hx hb hown q264 dJ6_numberOfTrailingZeros_0f7a4_20 ?_
    refine qj2 (G := fun (v2 : Int32) (v3 : Int32) => ∀ ls : Array Slot, lv_has ls 2 [(0, .int v2), (1, .int v3)] → W p l e (headSpec wsJ6_numberOfTrailingZeros_0f7a4 rm_J6_numberOfTrailingZeros_0f7a4).room s m [.int x0].toArray below meth c s.heap [] 0 0 (MQ below (vp_Si P) [.int x0].toArray s 0 0 (fun _ => False)) (F0 m 34 ls [])) h ?_ ?_
    rotate_left
    · intro h
      refine lv_icmp_le (tgt := 34) hx hb dJ6_numberOfTrailingZeros_0f7a4_23 (by decide) (fun hc => ?_) (fun hc => ?_)
      · have h := qOk.t hc h
        have h := qOk.s h
        exact h _ (lv_sub hl [1, 0] rfl)
      · have h := qOk.f hc h
        obtain ⟨v4, ev4⟩ : ∃ y : Int32, y = 1 + 16 := ⟨_, rfl⟩
        have h := qOk.v h ev4
        refine lv_iinc (v := v4) (lv' := [(1, .int v4), (0, .int v1)]) hx hb dJ6_numberOfTrailingZeros_0f7a4_26 hl (k := 0) rfl (by rw [ev4]; rfl) (by decide) rfl (fun ls hl => ?_)
        refine lv_iload_n hx hb dJ6_numberOfTrailingZeros_0f7a4_29 rfl (lv_at hl 1 rfl) ?_
        refine lv_bipush (v := 16) hx hb dJ6_numberOfTrailingZeros_0f7a4_30 (by decide) ?_
        refine lv_iushr (v := ((v1 : Int32).toUInt32 >>> ((16 : Int32).toUInt32 &&& Int32.toUInt32 31)).toInt32) hx hb dJ6_numberOfTrailingZeros_0f7a4_32 rfl ?_
        refine lv_topi (fun v5 ev5 => ?_)
        have h := qOk.v h ev5
        refine lv_istore_n (lv' := [(0, .int v5), (1, .int v4)]) hx hb dJ6_numberOfTrailingZeros_0f7a4_33 rfl hl (by decide) rfl (fun ls hl => ?_)
        have h := qOk.s h
        exact h _ (lv_sub hl [0, 1] rfl)
    intro v2 v3 h ls hl
    refine lv_iload_n hx hb dJ6_numberOfTrailingZeros_0f7a4_34 rfl (lv_at hl 0 rfl) ?_
    refine lv_sipush (v := 256) hx hb dJ6_numberOfTrailingZeros_0f7a4_35 (by decide) ?_
    refine qj2 (G := fun (v6 : Int32) (v7 : Int32) => ∀ ls : Array Slot, lv_has ls 2 [(0, .int v6), (1, .int v7)] → W p l e (headSpec wsJ6_numberOfTrailingZeros_0f7a4 rm_J6_numberOfTrailingZeros_0f7a4).room s m [.int x0].toArray below meth c s.heap [] 0 0 (MQ below (vp_Si P) [.int x0].toArray s 0 0 (fun _ => False)) (F0 m 49 ls [])) h ?_ ?_
    rotate_left
    · intro h
      refine lv_icmp_le (tgt := 49) hx hb dJ6_numberOfTrailingZeros_0f7a4_38 (by decide) (fun hc => ?_) (fun hc => ?_)
      · have h := qOk.t hc h
        have h := qOk.s h
        exact h _ (lv_sub hl [0, 1] rfl)
      · have h := qOk.f hc h
        obtain ⟨v8, ev8⟩ : ∃ y : Int32, y = v3 + 8 := ⟨_, rfl⟩
        have h := qOk.v h ev8
        refine lv_iinc (v := v8) (lv' := [(1, .int v8), (0, .int v2)]) hx hb dJ6_numberOfTrailingZeros_0f7a4_41 hl (k := 1) rfl (by rw [ev8]; rfl) (by decide) rfl (fun ls hl => ?_)
        refine lv_iload_n hx hb dJ6_numberOfTrailingZeros_0f7a4_44 rfl (lv_at hl 1 rfl) ?_
        refine lv_bipush (v := 8) hx hb dJ6_numberOfTrailingZeros_0f7a4_45 (by decide) ?_
        refine lv_iushr (v := ((v2 : Int32).toUInt32 >>> ((8 : Int32).toUInt32 &&& Int32.toUInt32 31)).toInt32) hx hb dJ6_numberOfTrailingZeros_0f7a4_47 rfl ?_
        refine lv_topi (fun v9 ev9 => ?_)
        have h := qOk.v h ev9
        refine lv_istore_n (lv' := [(0, .int v9), (1, .int v8)]) hx hb dJ6_numberOfTrailingZeros_0f7a4_48 rfl hl (by decide) rfl (fun ls hl => ?_)
        have h := qOk.s h
        exact h _ (lv_sub hl [0, 1] rfl)
    intro v6 v7 h ls hl
    refine lv_iload_n hx hb dJ6_numberOfTrailingZeros_0f7a4_49 rfl (lv_at hl 0 rfl) ?_
    refine lv_bipush (v := 16) hx hb dJ6_numberOfTrailingZeros_0f7a4_50 (by decide) ?_
    refine qj2 (G := fun (v10 : Int32) (v11 : Int32) => ∀ ls : Array Slot, lv_has ls 2 [(0, .int v10), (1, .int v11)] → W p l e (headSpec wsJ6_numberOfTrailingZeros_0f7a4 rm_J6_numberOfTrailingZeros_0f7a4).room s m [.int x0].toArray below meth c s.heap [] 0 0 (MQ below (vp_Si P) [.int x0].toArray s 0 0 (fun _ => False)) (F0 m 62 ls [])) h ?_ ?_
    rotate_left
    · intro h
      refine lv_icmp_le (tgt := 62) hx hb dJ6_numberOfTrailingZeros_0f7a4_52 (by decide) (fun hc => ?_) (fun hc => ?_)
      · have h := qOk.t hc h
        have h := qOk.s h
        exact h _ (lv_sub hl [0, 1] rfl)
      · have h := qOk.f hc h
        obtain ⟨v12, ev12⟩ : ∃ y : Int32, y = v7 + 4 := ⟨_, rfl⟩
        have h := qOk.v h ev12
        refine lv_iinc (v := v12) (lv' := [(1, .int v12), (0, .int v6)]) hx hb dJ6_numberOfTrailingZeros_0f7a4_55 hl (k := 1) rfl (by rw [ev12]; rfl) (by decide) rfl (fun ls hl => ?_)
        refine lv_iload_n hx hb dJ6_numberOfTrailingZeros_0f7a4_58 rfl (lv_at hl 1 rfl) ?_
        refine lv_iconst (v := 4) hx hb dJ6_numberOfTrailingZeros_0f7a4_59 (by decide) ?_
        refine lv_iushr (v := ((v6 : Int32).toUInt32 >>> ((4 : Int32).toUInt32 &&& Int32.toUInt32 31)).toInt32) hx hb dJ6_numberOfTrailingZeros_0f7a4_60 rfl ?_
        refine lv_topi (fun v13 ev13 => ?_)
        have h := qOk.v h ev13
        refine lv_istore_n (lv' := [(0, .int v13), (1, .int v12)]) hx hb dJ6_numberOfTrailingZeros_0f7a4_61 rfl hl (by decide) rfl (fun ls hl => ?_)
        have h := qOk.s h
        exact h _ (lv_sub hl [0, 1] rfl)
    intro v10 v11 h ls hl
    refine lv_iload_n hx hb dJ6_numberOfTrailingZeros_0f7a4_62 rfl (lv_at hl 0 rfl) ?_
    refine lv_iconst (v := 4) hx hb dJ6_numberOfTrailingZeros_0f7a4_63 (by decide) ?_
    refine qj2 (G := fun (v14 : Int32) (v15 : Int32) => ∀ ls : Array Slot, lv_has ls 2 [(0, .int v14), (1, .int v15)] → W p l e (headSpec wsJ6_numberOfTrailingZeros_0f7a4 rm_J6_numberOfTrailingZeros_0f7a4).room s m [.int x0].toArray below meth c s.heap [] 0 0 (MQ below (vp_Si P) [.int x0].toArray s 0 0 (fun _ => False)) (F0 m 74 ls [])) h ?_ ?_
    rotate_left
    · intro h
      refine lv_icmp_le (tgt := 74) hx hb dJ6_numberOfTrailingZeros_0f7a4_64 (by decide) (fun hc => ?_) (fun hc => ?_)
      · have h := qOk.t hc h
        have h := qOk.s h
        exact h _ (lv_sub hl [0, 1] rfl)
      · have h := qOk.f hc h
        obtain ⟨v16, ev16⟩ : ∃ y : Int32, y = v11 + 2 := ⟨_, rfl⟩
        have h := qOk.v h ev16
        refine lv_iinc (v := v16) (lv' := [(1, .int v16), (0, .int v10)]) hx hb dJ6_numberOfTrailingZeros_0f7a4_67 hl (k := 1) rfl (by rw [ev16]; rfl) (by decide) rfl (fun ls hl => ?_)
        refine lv_iload_n hx hb dJ6_numberOfTrailingZeros_0f7a4_70 rfl (lv_at hl 1 rfl) ?_
        refine lv_iconst (v := 2) hx hb dJ6_numberOfTrailingZeros_0f7a4_71 (by decide) ?_
        refine lv_iushr (v := ((v10 : Int32).toUInt32 >>> ((2 : Int32).toUInt32 &&& Int32.toUInt32 31)).toInt32) hx hb dJ6_numberOfTrailingZeros_0f7a4_72 rfl ?_
        refine lv_topi (fun v17 ev17 => ?_)
        have h := qOk.v h ev17
        refine lv_istore_n (lv' := [(0, .int v17), (1, .int v16)]) hx hb dJ6_numberOfTrailingZeros_0f7a4_73 rfl hl (by decide) rfl (fun ls hl => ?_)
        have h := qOk.s h
        exact h _ (lv_sub hl [0, 1] rfl)
    intro v14 v15 h ls hl
    refine lv_iload_n hx hb dJ6_numberOfTrailingZeros_0f7a4_74 rfl (lv_at hl 1 rfl) ?_
    refine lv_iload_n hx hb dJ6_numberOfTrailingZeros_0f7a4_75 rfl (lv_at hl 0 rfl) ?_
    refine lv_iconst (v := 1) hx hb dJ6_numberOfTrailingZeros_0f7a4_76 (by decide) ?_
    refine lv_iushr (v := ((v14 : Int32).toUInt32 >>> ((1 : Int32).toUInt32 &&& Int32.toUInt32 31)).toInt32) hx hb dJ6_numberOfTrailingZeros_0f7a4_77 rfl ?_
    refine lv_iadd hx hb dJ6_numberOfTrailingZeros_0f7a4_78 ?_
    exact W.iret hx hb hr (fun t ht _ => ⟨_, rfl, qOk.s h, ht⟩) (fun _ hq => by cases hq) dJ6_numberOfTrailingZeros_0f7a4_79
  · have h := qOk.f hc h
    refine lv_iload_n hx hb dJ6_numberOfTrailingZeros_0f7a4_12 rfl (lv_at hl 0 rfl) ?_
    refine lv_bipush (v := 32) hx hb dJ6_numberOfTrailingZeros_0f7a4_13 (by decide) ?_
    refine lv_iand hx hb dJ6_numberOfTrailingZeros_0f7a4_15 ?_
    exact W.iret hx hb hr (fun t ht _ => ⟨_, rfl, qOk.s h, ht⟩) (fun _ hq => by cases hq) dJ6_numberOfTrailingZeros_0f7a4_16
abbrev rm_X7_leastOf : Room := { frames := 1, cells := 0, slots := 0, locals := 21 }
set_option maxHeartbeats 4000000 in
set_option maxRecDepth 100000 in
theorem c_X7_leastOf (l : Launch) (x0 : Int32) {P : Int32 → Prop} (h : qOk (kX7_leastOf x0) P) : Met l yX7_leastOf wsX7_leastOf rm_X7_leastOf (va_Pc [.int x0] (fun _ => True)) (vp_Si P) 0 0 (fun _ => False) := by
  refine Met.ofW (cc := cX7_leastOf) (maxL := 1) (ret := (some .int)) (by decide) rfl ?_
  intro p e s m args below meth c s₁ B hml hv
  obtain ⟨rfl, -⟩ := hv
  have hx := B.exec
  have hb := B.bytes
  have hr := B.returns
  have hts := atoms_spec (ws := wsX7_leastOf) B.pre
  have hown : s.vm.findClass RX7 = some m.cls := findClass_of_methodNamed B.named
  have hlocks := B.notSynchronized
  have hl := lv_entry ([.int x0]) (n := 1) (Nat.le_of_ble_eq_true rfl)
  rw [lg_entry_eq]
  generalize (lg_sl ([.int x0]) ++ List.replicate (1 - (lg_sl ([.int x0])).length) Slot.unset).toArray = ls at hl ⊢
  have hl : lv_has ls 1 [(0, .int x0)] := hl
  have h : qOk (kX7_leastOf x0) _ := h
  unfold kX7_leastOf at h
  refine lv_iload_n hx hb dX7_leastOf_0 rfl (lv_at hl 0 rfl) ?_
  refine qj1 (G := fun (v1 : Int32) => W p l e (headSpec wsX7_leastOf rm_X7_leastOf).room s m [.int x0].toArray below meth c s.heap [] 0 0 (MQ below (vp_Si P) [.int x0].toArray s 0 0 (fun _ => False)) (F0 m 13 ls [.int v1])) h ?_ ?_
  rotate_left
  · intro h
    refine lv_if_ne (tgt := 9) hx hb dX7_leastOf_1 (by decide) (fun hc => ?_) (fun hc => ?_)
    · have h := qOk.f hc h
      refine lv_iload_n hx hb dX7_leastOf_9 rfl (lv_at hl 0 rfl) ?_
      refine y_cs (va_runS (As := [.int x0]) (rest := []) ⟨hx, hb, hml, hown, hts⟩ (c_J6_numberOfTrailingZeros_0f7a4 l x0 (qOk.b1 h)) (va_cwS 1 hts gX7_leastOf_J6_numberOfTrailingZeros_0f7a4 rfl rfl rfl (by decide +kernel) ⟨Nat.le_of_ble_eq_true rfl, Nat.le_of_ble_eq_true rfl⟩) ⟨qPrT.blind, qPrT.at⟩ rfl rfl hl.1 rfl (lv_room (Nat.le_of_ble_eq_true rfl)) dX7_leastOf_10 ⟨Nat.zero_le _, Nat.zero_le _⟩) (fun v2 h => ?_)
      have h := qOk.s h
      exact h
    · have h := qOk.t hc h
      refine lv_bipush (v := (-6)) hx hb dX7_leastOf_4 (by decide) ?_
      refine lv_goto (tgt := 13) hx hb dX7_leastOf_6 (by decide) ?_
      have h := qOk.s h
      exact h
  intro v1 h
  exact W.iret hx hb hr (fun t ht _ => ⟨_, rfl, qOk.s h, ht⟩) (fun _ hq => by cases hq) dX7_leastOf_13
abbrev rm_X3_bitAt : Room := { frames := 2, cells := 0, slots := 0, locals := 41 }
set_option maxHeartbeats 4000000 in
set_option maxRecDepth 100000 in
theorem c_X3_bitAt (l : Launch) (G : qG) (x0 : Int32) (x1 : Int32) {P : Int32 → Prop} (h : qOk (kX3_bitAt x0 x1) P) : Met l yX3_bitAt wsX3_bitAt rm_X3_bitAt (va_Pc [.int x0, .int x1] (fun U => qK G U)) (vp_Si P) 0 0 (fun _ => False) := by
  refine Met.ofW (cc := cX3_bitAt) (maxL := 4) (ret := (some .int)) (by decide) rfl ?_
  intro p e s m args below meth c s₁ B hml hv
  obtain ⟨rfl, hK⟩ := hv
  have hx := B.exec
  have hb := B.bytes
  have hr := B.returns
  have hts := atoms_spec (ws := wsX3_bitAt) B.pre
  have hown : s.vm.findClass RX3 = some m.cls := findClass_of_methodNamed B.named
  have hlocks := B.notSynchronized
  have nS_X7_leastOf : (Cond.static yX7_leastOf).before [.int x0, .int x1].toArray s = true := hts _ (by decide +kernel)
  have nI_X7 : (Cond.initialized RX7).before [.int x0, .int x1].toArray s = true := hts _ (by decide +kernel)
  have hl := lv_entry ([.int x0, .int x1]) (n := 4) (Nat.le_of_ble_eq_true rfl)
  rw [lg_entry_eq]
  generalize (lg_sl ([.int x0, .int x1]) ++ List.replicate (4 - (lg_sl ([.int x0, .int x1])).length) Slot.unset).toArray = ls at hl ⊢
  have hl : lv_has ls 4 [(0, .int x0), (1, .int x1)] := hl
  have h : qOk (kX3_bitAt x0 x1) _ := h
  unfold kX3_bitAt at h
  refine lv_iload_n hx hb dX3_bitAt_0 rfl (lv_at hl 0 rfl) ?_
  refine lv_istore_n (lv' := [(2, .int x0), (0, .int x0), (1, .int x1)]) hx hb dX3_bitAt_1 rfl hl (by decide) rfl (fun ls hl => ?_)
  refine lv_iconst (v := 0) hx hb dX3_bitAt_2 (by decide) ?_
  refine lv_istore_n (lv' := [(3, .int 0), (2, .int x0), (0, .int x0), (1, .int x1)]) hx hb dX3_bitAt_3 rfl hl (by decide) rfl (fun ls hl => ?_)
  refine qj1 (G := fun (v3 : Int32) => ∀ ls : Array Slot, lv_has ls 4 [(2, .int v3)] → W p l e (headSpec wsX3_bitAt rm_X3_bitAt).room s m [.int x0, .int x1].toArray below meth c s.heap [] 0 0 (MQ below (vp_Si P) [.int x0, .int x1].toArray s 0 0 (fun _ => False)) (F0 m 21 ls [])) h ?_ ?_
  rotate_left
  · intro h
    refine qloop2 (I := fun (v1 : Int32) (v2 : Int32) => ∀ ls : Array Slot, lv_has ls 4 [(1, .int x1), (2, .int v1), (3, .int v2)] → W p l e (headSpec wsX3_bitAt rm_X3_bitAt).room s m [.int x0, .int x1].toArray below meth c s.heap [] 0 0 (MQ below (vp_Si P) [.int x0, .int x1].toArray s 0 0 (fun _ => False)) (F0 m 4 ls [])) ?_ h _ (lv_sub hl [3, 1, 0] rfl)
    intro v1 v2 h ls hl
    have h : qOk (kX3_bitAt_L4 x1 v1 v2) _ := h
    unfold kX3_bitAt_L4 at h
    refine lv_iload_n hx hb dX3_bitAt_4 rfl (lv_at hl 2 rfl) ?_
    refine lv_iload_n hx hb dX3_bitAt_5 rfl (lv_at hl 0 rfl) ?_
    refine lv_icmp_ge (tgt := 21) hx hb dX3_bitAt_6 (by decide) (fun hc => ?_) (fun hc => ?_)
    · have h := qOk.t hc h
      exact qOk.le h _ (lv_sub hl [1] rfl)
    · have h := qOk.f hc h
      refine lv_iload_n hx hb dX3_bitAt_9 rfl (lv_at hl 1 rfl) ?_
      refine lv_iload_n hx hb dX3_bitAt_10 rfl (lv_at hl 1 rfl) ?_
      refine lv_iconst (v := 1) hx hb dX3_bitAt_11 (by decide) ?_
      refine lv_isub hx hb dX3_bitAt_12 ?_
      refine lv_iand hx hb dX3_bitAt_13 ?_
      refine lv_topi (fun v4 ev4 => ?_)
      have h := qOk.v h ev4
      refine lv_istore_n (lv' := [(2, .int v4), (1, .int x1), (3, .int v2)]) hx hb dX3_bitAt_14 rfl hl (by decide) rfl (fun ls hl => ?_)
      obtain ⟨v5, ev5⟩ : ∃ y : Int32, y = v2 + 1 := ⟨_, rfl⟩
      have h := qOk.v h ev5
      refine lv_iinc (v := v5) (lv' := [(3, .int v5), (2, .int v4), (1, .int x1)]) hx hb dX3_bitAt_15 hl (k := 2) rfl (by rw [ev5]; rfl) (by decide) rfl (fun ls hl => ?_)
      refine lv_goto (tgt := 4) hx hb dX3_bitAt_18 (by decide) ?_
      exact qOk.li h _ (lv_sub hl [2, 1, 0] rfl)
  intro v3 h ls hl
  refine lv_iload_n hx hb dX3_bitAt_21 rfl (lv_at hl 0 rfl) ?_
  refine y_cs (va_runSN (host := "SongLamps") (As := [.int v3]) (rest := []) ⟨hx, hb, hml, hown, hts⟩ (c_X7_leastOf l v3 (qOk.b1 h)) ⟨va_cnB 1 hts gX3_bitAt_X7_leastOf_n93 rfl rfl rfl (hK.2 (RX3, 93, yX7_leastOf, "SongLamps") (List.mem_of_getElem? (i := 4) rfl)) nI_X7 (by decide +kernel) ⟨Nat.le_of_ble_eq_true rfl, Nat.le_of_ble_eq_true rfl⟩, nS_X7_leastOf, trivial⟩ ⟨qPrT.blind, qPrT.at⟩ rfl rfl hl.1 rfl (lv_room (Nat.le_of_ble_eq_true rfl)) dX3_bitAt_22 ⟨Nat.zero_le _, Nat.zero_le _⟩) (fun v6 h => ?_)
  exact W.iret hx hb hr (fun t ht _ => ⟨_, rfl, qOk.s h, ht⟩) (fun _ hq => by cases hq) dX3_bitAt_25
abbrev rm_X3_fitAt : Room := { frames := 3, cells := 0, slots := 0, locals := 64 }
set_option maxHeartbeats 4000000 in
set_option maxRecDepth 100000 in
theorem c_X3_fitAt (l : Launch) (G : qG) (ad : Nat → Nat) (hI : qI W1N ad) (M : qM) (sz : Nat) (x1 : Int32) {P : Int32 → Prop} (h : qOk (kX3_fitAt M x1) P) : Met l yX3_fitAt wsX3_fitAt rm_X3_fitAt (va_Pc [.ref (ad 65), .int x1] (qPre W1N e1 G ad M sz)) (vp_Si P) 0 0 (fun _ => False) := by
  refine Met.ofW (cc := cX3_fitAt) (maxL := 5) (ret := (some .int)) (by decide) rfl ?_
  intro p e s m args below meth c s₁ B hml hv
  obtain ⟨rfl, hsz, hK, hP⟩ := hv
  subst hsz
  have hx := B.exec
  have hb := B.bytes
  have hr := B.returns
  have hts := atoms_spec (ws := wsX3_fitAt) B.pre
  have hown : s.vm.findClass RX3 = some m.cls := findClass_of_methodNamed B.named
  have hlocks := B.notSynchronized
  have hH : qHS W1N e1 G ad M s.heap s.heap [] := ⟨hP, va_S.rf⟩
  have f18 : (Cond.fieldLink RX3 18 "SongLamps$Search" "fits" "[I").before [.ref (ad 65), .int x1].toArray s = true := hts _ (by decide +kernel)
  have i_X3 : ∀ w ∈ wsX30, w ∈ wsX3_fitAt := fun w hw => List.mem_cons_of_mem _ ((List.mem_append_right _ hw))
  have hl := lv_entry ([.ref (ad 65), .int x1]) (n := 5) (Nat.le_of_ble_eq_true rfl)
  rw [lg_entry_eq]
  generalize (lg_sl ([.ref (ad 65), .int x1]) ++ List.replicate (5 - (lg_sl ([.ref (ad 65), .int x1])).length) Slot.unset).toArray = ls at hl ⊢
  have hl : lv_has ls 5 [(0, .ref (ad 65)), (1, .int x1)] := hl
  have h : qOk (kX3_fitAt M x1) _ := h
  unfold kX3_fitAt at h
  refine lv_iload_n hx hb dX3_fitAt_0 rfl (lv_at hl 1 rfl) ?_
  refine lv_istore_n (lv' := [(2, .int x1), (0, .ref (ad 65)), (1, .int x1)]) hx hb dX3_fitAt_1 rfl hl (by decide) rfl (fun ls hl => ?_)
  refine lv_iload_n hx hb dX3_fitAt_2 rfl (lv_at hl 0 rfl) ?_
  refine lv_if_ge (tgt := 9) hx hb dX3_fitAt_3 (by decide) (fun hc => ?_) (fun hc => ?_)
  · have h := qOk.t hc h
    refine lv_iconst (v := 0) hx hb dX3_fitAt_9 (by decide) ?_
    refine lv_istore_n (lv' := [(3, .int 0), (2, .int x1), (0, .ref (ad 65)), (1, .int x1)]) hx hb dX3_fitAt_10 rfl hl (by decide) rfl (fun ls hl => ?_)
    refine qjx0 (G := ∀ ls : Array Slot, lv_has ls 5 [] → W p l e (headSpec wsX3_fitAt rm_X3_fitAt).room s m [.ref (ad 65), .int x1].toArray below meth c s.heap [] 0 0 (MQ below (vp_Si P) [.ref (ad 65), .int x1].toArray s 0 0 (fun _ => False)) (F0 m 61 ls [])) h ?_ ?_
    rotate_left
    · intro h
      refine qloop2 (I := fun (v1 : Int32) (v2 : Int32) => ∀ ls : Array Slot, lv_has ls 5 [(0, .ref (ad 65)), (2, .int v1), (3, .int v2)] → W p l e (headSpec wsX3_fitAt rm_X3_fitAt).room s m [.ref (ad 65), .int x1].toArray below meth c s.heap [] 0 0 (MQ below (vp_Si P) [.ref (ad 65), .int x1].toArray s 0 0 (fun _ => False)) (F0 m 11 ls [])) ?_ h _ (lv_sub hl [2, 1, 0] rfl)
      intro v1 v2 h ls hl
      have h : qOk (kX3_fitAt_L11 M v1 v2) _ := h
      unfold kX3_fitAt_L11 at h
      refine lv_iload_n hx hb dX3_fitAt_11 rfl (lv_at hl 2 rfl) ?_
      refine lv_bipush (v := 10) hx hb dX3_fitAt_12 (by decide) ?_
      refine lv_icmp_ge (tgt := 61) hx hb dX3_fitAt_14 (by decide) (fun hc => ?_) (fun hc => ?_)
      · have h := qOk.t hc h
        exact qOk.lx h _ (lv_sub hl [] rfl)
      · have h := qOk.f hc h
        refine lv_aload_n hx hb dX3_fitAt_17 rfl (lv_at hl 0 rfl) ?_
        refine y_get hx hb hts i_X3 hown hK hH qOb_3 rfl 1 (by decide) f18 rfl dX3_fitAt_18 ?_
        refine lv_iload_n hx hb dX3_fitAt_21 rfl (lv_at hl 2 rfl) ?_
        refine y_iald hx hb hK hH qAr_68 h dX3_fitAt_22 (fun v3 h => ?_)
        refine y_cs (va_runS (As := [.int v3]) (rest := []) ⟨hx, hb, hml, hown, hts⟩ (c_J6_bitCount_0f7a4 l v3 (qOk.b1 h)) (va_cwS 1 hts gX3_fitAt_J6_bitCount_0f7a4 rfl rfl rfl (by decide +kernel) ⟨Nat.le_of_ble_eq_true rfl, Nat.le_of_ble_eq_true rfl⟩) ⟨qPrT.blind, qPrT.at⟩ rfl rfl hl.1 rfl (lv_room (Nat.le_of_ble_eq_true rfl)) dX3_fitAt_23 ⟨Nat.zero_le _, Nat.zero_le _⟩) (fun v4 h => ?_)
        refine lv_istore (lv' := [(4, .int v4), (0, .ref (ad 65)), (2, .int v1), (3, .int v2)]) hx hb dX3_fitAt_26 hl (by decide) rfl (fun ls hl => ?_)
        refine lv_iload_n hx hb dX3_fitAt_28 rfl (lv_at hl 2 rfl) ?_
        refine lv_iload hx hb dX3_fitAt_29 (lv_at hl 0 rfl) ?_
        refine lv_icmp_ge (tgt := 50) hx hb dX3_fitAt_31 (by decide) (fun hc => ?_) (fun hc => ?_)
        · have h := qOk.t hc h
          refine lv_iload_n hx hb dX3_fitAt_50 rfl (lv_at hl 2 rfl) ?_
          refine lv_iload hx hb dX3_fitAt_51 (lv_at hl 0 rfl) ?_
          refine lv_isub hx hb dX3_fitAt_53 ?_
          refine lv_topi (fun v5 ev5 => ?_)
          have h := qOk.v h ev5
          refine lv_istore_n (lv' := [(2, .int v5), (4, .int v4), (0, .ref (ad 65)), (3, .int v2)]) hx hb dX3_fitAt_54 rfl hl (by decide) rfl (fun ls hl => ?_)
          obtain ⟨v6, ev6⟩ : ∃ y : Int32, y = v2 + 1 := ⟨_, rfl⟩
          have h := qOk.v h ev6
          refine lv_iinc (v := v6) (lv' := [(3, .int v6), (2, .int v5), (4, .int v4), (0, .ref (ad 65))]) hx hb dX3_fitAt_55 hl (k := 3) rfl (by rw [ev6]; rfl) (by decide) rfl (fun ls hl => ?_)
          refine lv_goto (tgt := 11) hx hb dX3_fitAt_58 (by decide) ?_
          exact qOk.li h _ (lv_sub hl [3, 1, 0] rfl)
        · have h := qOk.f hc h
          refine lv_bipush (v := 100) hx hb dX3_fitAt_34 (by decide) ?_
          refine lv_iload_n hx hb dX3_fitAt_36 rfl (lv_at hl 3 rfl) ?_
          refine lv_imul hx hb dX3_fitAt_37 ?_
          refine lv_aload_n hx hb dX3_fitAt_38 rfl (lv_at hl 1 rfl) ?_
          refine y_get hx hb hts i_X3 hown hK hH qOb_3 rfl 1 (by decide) f18 rfl dX3_fitAt_39 ?_
          refine lv_iload_n hx hb dX3_fitAt_42 rfl (lv_at hl 3 rfl) ?_
          refine y_iald hx hb hK hH qAr_68 h dX3_fitAt_43 (fun v7 h => ?_)
          refine lv_iload_n hx hb dX3_fitAt_44 rfl (lv_at hl 2 rfl) ?_
          refine y_cs (va_runS (As := [.int v7, .int v1]) (rest := [.int (100 * v2)]) ⟨hx, hb, hml, hown, hts⟩ (c_X3_bitAt l G v7 v1 (qOk.b1 h)) (va_cwS 2 hts gX3_fitAt_X3_bitAt rfl rfl rfl (by decide +kernel) ⟨Nat.le_of_ble_eq_true rfl, Nat.le_of_ble_eq_true rfl⟩) ⟨qPrK.blind, qPrK.at hK⟩ rfl rfl hl.1 rfl (lv_room (Nat.le_of_ble_eq_true rfl)) dX3_fitAt_45 ⟨Nat.zero_le _, Nat.zero_le _⟩) (fun v8 h => ?_)
          refine lv_iadd hx hb dX3_fitAt_48 ?_
          have h := qOk.lr h
          exact W.iret hx hb hr (fun t ht _ => ⟨_, rfl, qOk.s h, ht⟩) (fun _ hq => by cases hq) dX3_fitAt_49
    intro  h ls hl
    refine lv_bipush (v := (-6)) hx hb dX3_fitAt_61 (by decide) ?_
    exact W.iret hx hb hr (fun t ht _ => ⟨_, rfl, qOk.s h, ht⟩) (fun _ hq => by cases hq) dX3_fitAt_63
  · have h := qOk.f hc h
    refine lv_bipush (v := (-6)) hx hb dX3_fitAt_6 (by decide) ?_
    exact W.iret hx hb hr (fun t ht _ => ⟨_, rfl, qOk.s h, ht⟩) (fun _ hq => by cases hq) dX3_fitAt_8
abbrev rm_X3_countHeard : Room := { frames := 1, cells := 0, slots := 0, locals := 21 }
set_option maxHeartbeats 4000000 in
set_option maxRecDepth 100000 in
theorem c_X3_countHeard (l : Launch) (G : qG) (ad : Nat → Nat) (hI : qI W1N ad) (M : qM) (sz : Nat) (x1 : Int32) (x2 : Int32) {P : qM → Prop} (h : qOk (kX3_countHeard M x1 x2) P) : Met l yX3_countHeard wsX3_countHeard rm_X3_countHeard (va_Pc [.ref (ad 65), .int x1, .int x2] (qPre W1N e1 G ad M sz)) (va_Qv P (fun u t => qHp W1N e1 G ad u t.heap) (qA W1N ad sz)) 0 0 (qA W1N ad sz) := by
  refine Met.ofW (cc := cX3_countHeard) (maxL := 4) (ret := none) (by decide) rfl ?_
  intro p e s m args below meth c s₁ B hml hv
  obtain ⟨rfl, hsz, hK, hP⟩ := hv
  subst hsz
  have hx := B.exec
  have hb := B.bytes
  have hr := B.returns
  have hts := atoms_spec (ws := wsX3_countHeard) B.pre
  have hown : s.vm.findClass RX3 = some m.cls := findClass_of_methodNamed B.named
  have hlocks := B.notSynchronized
  have hH : qHS W1N e1 G ad M s.heap s.heap [] := ⟨hP, va_S.rf⟩
  have nS_X7_has : (Cond.static yX7_has).before [.ref (ad 65), .int x1, .int x2].toArray s = true := hts _ (by decide +kernel)
  have nI_X7 : (Cond.initialized RX7).before [.ref (ad 65), .int x1, .int x2].toArray s = true := hts _ (by decide +kernel)
  have f22 : (Cond.fieldLink RX3 22 "SongLamps$Search" "left" "[I").before [.ref (ad 65), .int x1, .int x2].toArray s = true := hts _ (by decide +kernel)
  have i_X3 : ∀ w ∈ wsX30, w ∈ wsX3_countHeard := fun w hw => List.mem_cons_of_mem _ ((List.mem_append_right _ hw))
  have hl := lv_entry ([.ref (ad 65), .int x1, .int x2]) (n := 4) (Nat.le_of_ble_eq_true rfl)
  rw [lg_entry_eq]
  generalize (lg_sl ([.ref (ad 65), .int x1, .int x2]) ++ List.replicate (4 - (lg_sl ([.ref (ad 65), .int x1, .int x2])).length) Slot.unset).toArray = ls at hl ⊢
  have hl : lv_has ls 4 [(0, .ref (ad 65)), (1, .int x1), (2, .int x2)] := hl
  have h : qOk (kX3_countHeard M x1 x2) _ := h
  unfold kX3_countHeard at h
  refine lv_iload_n hx hb dX3_countHeard_0 rfl (lv_at hl 2 rfl) ?_
  refine lv_if_ge (tgt := 18) hx hb dX3_countHeard_1 (by decide) (fun hc => ?_) (fun hc => ?_)
  · have h := qOk.t hc h
    refine lv_iconst (v := 0) hx hb dX3_countHeard_18 (by decide) ?_
    refine lv_istore_n (lv' := [(3, .int 0), (0, .ref (ad 65)), (1, .int x1), (2, .int x2)]) hx hb dX3_countHeard_19 rfl hl (by decide) rfl (fun ls hl => ?_)
    refine qj1 (G := fun (M3 : qM) => ∀ (H : Heap) (locs : List Loc), qHS W1N e1 G ad M3 s.heap H locs → ∀ ls : Array Slot, lv_has ls 4 [] → W p l e (headSpec wsX3_countHeard rm_X3_countHeard).room s m [.ref (ad 65), .int x1, .int x2].toArray below meth c H locs 0 0 (MQ below (va_Qv P (fun u t => qHp W1N e1 G ad u t.heap) (qA W1N ad s.heap.size)) [.ref (ad 65), .int x1, .int x2].toArray s 0 0 (qA W1N ad s.heap.size)) (F0 m 63 ls [])) h ?_ ?_
    rotate_left
    · intro h
      refine qloop2 (I := fun (v1 : Int32) (M2 : qM) => ∀ (H : Heap) (locs : List Loc), qHS W1N e1 G ad M2 s.heap H locs → ∀ ls : Array Slot, lv_has ls 4 [(0, .ref (ad 65)), (1, .int x1), (2, .int x2), (3, .int v1)] → W p l e (headSpec wsX3_countHeard rm_X3_countHeard).room s m [.ref (ad 65), .int x1, .int x2].toArray below meth c H locs 0 0 (MQ below (va_Qv P (fun u t => qHp W1N e1 G ad u t.heap) (qA W1N ad s.heap.size)) [.ref (ad 65), .int x1, .int x2].toArray s 0 0 (qA W1N ad s.heap.size)) (F0 m 20 ls [])) ?_ h _ _ hH _ (lv_sub hl [1, 2, 3, 0] rfl)
      intro v1 M2 h H locs hH ls hl
      have h : qOk (kX3_countHeard_L20 x1 x2 v1 M2) _ := h
      unfold kX3_countHeard_L20 at h
      refine lv_iload_n hx hb dX3_countHeard_20 rfl (lv_at hl 3 rfl) ?_
      refine lv_bipush (v := 24) hx hb dX3_countHeard_21 (by decide) ?_
      refine lv_icmp_ge (tgt := 63) hx hb dX3_countHeard_23 (by decide) (fun hc => ?_) (fun hc => ?_)
      · have h := qOk.t hc h
        exact qOk.le h _ _ hH _ (lv_sub hl [] rfl)
      · have h := qOk.f hc h
        refine lv_iload_n hx hb dX3_countHeard_26 rfl (lv_at hl 1 rfl) ?_
        refine lv_iload_n hx hb dX3_countHeard_27 rfl (lv_at hl 3 rfl) ?_
        refine y_cs (va_runSN (host := "SongLamps") (As := [.int x1, .int v1]) (rest := []) ⟨hx, hb, hml, hown, hts⟩ (c_X7_has l x1 v1 (qOk.b1 h)) ⟨va_cnB 2 hts gX3_countHeard_X7_has_n89 rfl rfl rfl (hK.2 (RX3, 89, yX7_has, "SongLamps") (List.mem_of_getElem? (i := 3) rfl)) nI_X7 (by decide +kernel) ⟨Nat.le_of_ble_eq_true rfl, Nat.le_of_ble_eq_true rfl⟩, nS_X7_has, trivial⟩ ⟨qPrT.blind, qPrT.at⟩ rfl rfl hl.1 rfl (lv_room (Nat.le_of_ble_eq_true rfl)) dX3_countHeard_28 ⟨Nat.zero_le _, Nat.zero_le _⟩) (fun v4 h => ?_)
        refine qj1 (G := fun (M5 : qM) => ∀ (H : Heap) (locs : List Loc), qHS W1N e1 G ad M5 s.heap H locs → W p l e (headSpec wsX3_countHeard rm_X3_countHeard).room s m [.ref (ad 65), .int x1, .int x2].toArray below meth c H locs 0 0 (MQ below (va_Qv P (fun u t => qHp W1N e1 G ad u t.heap) (qA W1N ad s.heap.size)) [.ref (ad 65), .int x1, .int x2].toArray s 0 0 (qA W1N ad s.heap.size)) (F0 m 57 ls [])) h ?_ ?_
        rotate_left
        · intro h
          refine lv_if_eq (tgt := 57) hx hb dX3_countHeard_31 (by decide) (fun hc => ?_) (fun hc => ?_)
          · have h := qOk.t hc h
            have h := qOk.s h
            exact h _ _ hH
          · have h := qOk.f hc h
            refine lv_aload_n hx hb dX3_countHeard_34 rfl (lv_at hl 0 rfl) ?_
            refine y_get hx hb hts i_X3 hown hK hH qOb_3 rfl 2 (by decide) f22 rfl dX3_countHeard_35 ?_
            refine lv_iload_n hx hb dX3_countHeard_38 rfl (lv_at hl 3 rfl) ?_
            refine lv_iload_n hx hb dX3_countHeard_39 rfl (lv_at hl 2 rfl) ?_
            refine qj1 (G := fun (v6 : Int32) => W p l e (headSpec wsX3_countHeard rm_X3_countHeard).room s m [.ref (ad 65), .int x1, .int x2].toArray below meth c H locs 0 0 (MQ below (va_Qv P (fun u t => qHp W1N e1 G ad u t.heap) (qA W1N ad s.heap.size)) [.ref (ad 65), .int x1, .int x2].toArray s 0 0 (qA W1N ad s.heap.size)) (F0 m 52 ls [.int v6, .ref (ad 69)])) h ?_ ?_
            rotate_left
            · intro h
              refine lv_icmp_ge (tgt := 47) hx hb dX3_countHeard_40 (by decide) (fun hc => ?_) (fun hc => ?_)
              · have h := qOk.t hc h
                refine lv_iconst (v := 1) hx hb dX3_countHeard_47 (by decide) ?_
                refine lv_iload_n hx hb dX3_countHeard_48 rfl (lv_at hl 3 rfl) ?_
                refine lv_iadd hx hb dX3_countHeard_49 ?_
                refine lv_iload_n hx hb dX3_countHeard_50 rfl (lv_at hl 2 rfl) ?_
                refine lv_isub hx hb dX3_countHeard_51 ?_
                have h := qOk.s h
                exact h
              · have h := qOk.f hc h
                refine lv_iconst (v := 0) hx hb dX3_countHeard_43 (by decide) ?_
                refine lv_goto (tgt := 52) hx hb dX3_countHeard_44 (by decide) ?_
                have h := qOk.s h
                exact h
            intro v6 h
            refine lv_dup2_11 hx hb dX3_countHeard_52 rfl rfl ?_
            refine y_iald hx hb hK hH qAr_69 h dX3_countHeard_53 (fun v7 h => ?_)
            refine lv_iconst (v := 1) hx hb dX3_countHeard_54 (by decide) ?_
            refine lv_iadd hx hb dX3_countHeard_55 ?_
            refine y_iast hx hb hK hI hH qAr_69 h dX3_countHeard_56 (fun M8 H locs hH h => ?_)
            have h := qOk.s h
            exact h _ _ hH
        intro M5 h H locs hH
        obtain ⟨v9, ev9⟩ : ∃ y : Int32, y = v1 + 1 := ⟨_, rfl⟩
        have h := qOk.v h ev9
        refine lv_iinc (v := v9) (lv' := [(3, .int v9), (0, .ref (ad 65)), (1, .int x1), (2, .int x2)]) hx hb dX3_countHeard_57 hl (k := 3) rfl (by rw [ev9]; rfl) (by decide) rfl (fun ls hl => ?_)
        refine lv_goto (tgt := 20) hx hb dX3_countHeard_60 (by decide) ?_
        exact qOk.li h _ _ hH _ (lv_sub hl [1, 2, 3, 0] rfl)
    intro M3 h H locs hH ls hl
    exact W.vret hx hb hr (fun t ht _ => ⟨⟨_, rfl, qOk.s h, qHpt ht hH.1⟩, hH.2.F ht⟩) hH.2.2.2 dX3_countHeard_63
  · have h := qOk.f hc h
    refine lv_aload_n hx hb dX3_countHeard_4 rfl (lv_at hl 0 rfl) ?_
    refine y_get hx hb hts i_X3 hown hK hH qOb_3 rfl 2 (by decide) f22 rfl dX3_countHeard_5 ?_
    refine lv_iconst (v := 0) hx hb dX3_countHeard_8 (by decide) ?_
    refine lv_dup2_11 hx hb dX3_countHeard_9 rfl rfl ?_
    refine y_iald hx hb hK hH qAr_69 h dX3_countHeard_10 (fun v10 h => ?_)
    refine lv_iload_n hx hb dX3_countHeard_11 rfl (lv_at hl 1 rfl) ?_
    refine y_cs (va_runS (As := [.int x1]) (rest := [.int v10, .int 0, .ref (ad 69)]) ⟨hx, hb, hml, hown, hts⟩ (c_J6_bitCount_0f7a4 l x1 (qOk.b1 h)) (va_cwS 1 hts gX3_countHeard_J6_bitCount_0f7a4 rfl rfl rfl (by decide +kernel) ⟨Nat.le_of_ble_eq_true rfl, Nat.le_of_ble_eq_true rfl⟩) ⟨qPrT.blind, qPrT.at⟩ rfl rfl hl.1 rfl (lv_room (Nat.le_of_ble_eq_true rfl)) dX3_countHeard_12 ⟨Nat.zero_le _, Nat.zero_le _⟩) (fun v11 h => ?_)
    refine lv_iadd hx hb dX3_countHeard_15 ?_
    refine y_iast hx hb hK hI hH qAr_69 h dX3_countHeard_16 (fun M12 H locs hH h => ?_)
    exact W.vret hx hb hr (fun t ht _ => ⟨⟨_, rfl, qOk.s h, qHpt ht hH.1⟩, hH.2.F ht⟩) hH.2.2.2 dX3_countHeard_17
abbrev rm_X3_mostLeftHere : Room := { frames := 2, cells := 0, slots := 0, locals := 44 }
set_option maxHeartbeats 4000000 in
set_option maxRecDepth 100000 in
theorem c_X3_mostLeftHere (l : Launch) (G : qG) (ad : Nat → Nat) (hI : qI W1N ad) (M : qM) (sz : Nat) {P : Int32 → qM → Prop} (h : qOk2 (kX3_mostLeftHere M) P) : Met l yX3_mostLeftHere wsX3_mostLeftHere rm_X3_mostLeftHere (va_Pc [.ref (ad 65)] (qPre W1N e1 G ad M sz)) (va_Qi P (fun u t => qHp W1N e1 G ad u t.heap) (qA W1N ad sz)) 0 0 (qA W1N ad sz) := by
  refine Met.ofW (cc := cX3_mostLeftHere) (maxL := 3) (ret := (some .int)) (by decide) rfl ?_
  intro p e s m args below meth c s₁ B hml hv
  obtain ⟨rfl, hsz, hK, hP⟩ := hv
  subst hsz
  have hx := B.exec
  have hb := B.bytes
  have hr := B.returns
  have hts := atoms_spec (ws := wsX3_mostLeftHere) B.pre
  have hown : s.vm.findClass RX3 = some m.cls := findClass_of_methodNamed B.named
  have hlocks := B.notSynchronized
  have hH : qHS W1N e1 G ad M s.heap s.heap [] := ⟨hP, va_S.rf⟩
  have f22 : (Cond.fieldLink RX3 22 "SongLamps$Search" "left" "[I").before [.ref (ad 65)].toArray s = true := hts _ (by decide +kernel)
  have i_X3 : ∀ w ∈ wsX30, w ∈ wsX3_mostLeftHere := fun w hw => List.mem_cons_of_mem _ ((List.mem_append_left _ (List.mem_append_right _ hw)))
  have f18 : (Cond.fieldLink RX3 18 "SongLamps$Search" "fits" "[I").before [.ref (ad 65)].toArray s = true := hts _ (by decide +kernel)
  have f12 : (Cond.fieldLink RX3 12 "SongLamps$Search" "ways" "LSongLamps$Ways;").before [.ref (ad 65)].toArray s = true := hts _ (by decide +kernel)
  have f60 : (Cond.fieldLink RX3 60 "SongLamps$Ways" "far" "[I").before [.ref (ad 65)].toArray s = true := hts _ (by decide +kernel)
  have i_X6 : ∀ w ∈ wsX60, w ∈ wsX3_mostLeftHere := fun w hw => List.mem_cons_of_mem _ ((List.mem_append_right _ hw))
  have ml84 : (Cond.methodLink RX3 84 Lib.Math.max.name).before [.ref (ad 65)].toArray s = true := hts _ (by decide +kernel)
  have ms_max : (Cond.static Lib.Math.max.name).before [.ref (ad 65)].toArray s = true := hts _ (by decide +kernel)
  have mi : (Cond.initialized "java/lang/Math").before [.ref (ad 65)].toArray s = true := hts _ (by decide +kernel)
  have mc_max : (Cond.code Lib.Math.max.name Lib.Math.max.code 2 (some .int)).before [.ref (ad 65)].toArray s = true := hts _ (by decide +kernel)
  have hl := lv_entry ([.ref (ad 65)]) (n := 3) (Nat.le_of_ble_eq_true rfl)
  rw [lg_entry_eq]
  generalize (lg_sl ([.ref (ad 65)]) ++ List.replicate (3 - (lg_sl ([.ref (ad 65)])).length) Slot.unset).toArray = ls at hl ⊢
  have hl : lv_has ls 3 [(0, .ref (ad 65))] := hl
  have h : qOk (kX3_mostLeftHere M) _ := h
  unfold kX3_mostLeftHere at h
  refine lv_aload_n hx hb dX3_mostLeftHere_0 rfl (lv_at hl 0 rfl) ?_
  refine y_get hx hb hts i_X3 hown hK hH qOb_3 rfl 2 (by decide) f22 rfl dX3_mostLeftHere_1 ?_
  refine lv_iconst (v := 0) hx hb dX3_mostLeftHere_4 (by decide) ?_
  refine y_cv hH (va_runS (As := [.ref (ad 69), .int 0]) (rest := []) ⟨hx, hb, hml, hown, hts⟩ (c_J7_fill_53178 l G ad hI M _ qAr_69 0 (qOk.b1 h)) (va_cwS 2 hts gX3_mostLeftHere_J7_fill_53178 rfl rfl rfl (by decide +kernel) ⟨Nat.le_of_ble_eq_true rfl, Nat.le_of_ble_eq_true rfl⟩) ⟨qPre.blind, qPre.at hK hH⟩ rfl rfl hl.1 rfl (lv_room (Nat.le_of_ble_eq_true rfl)) dX3_mostLeftHere_5 ⟨Nat.zero_le _, Nat.zero_le _⟩) (fun M1 H locs hH h => ?_)
  refine lv_iconst (v := 0) hx hb dX3_mostLeftHere_8 (by decide) ?_
  refine lv_istore_n (lv' := [(1, .int 0), (0, .ref (ad 65))]) hx hb dX3_mostLeftHere_9 rfl hl (by decide) rfl (fun ls hl => ?_)
  refine qj1 (G := fun (M4 : qM) => ∀ (H : Heap) (locs : List Loc), qHS W1N e1 G ad M4 s.heap H locs → ∀ ls : Array Slot, lv_has ls 3 [(0, .ref (ad 65))] → W p l e (headSpec wsX3_mostLeftHere rm_X3_mostLeftHere).room s m [.ref (ad 65)].toArray below meth c H locs 0 0 (MQ below (va_Qi P (fun u t => qHp W1N e1 G ad u t.heap) (qA W1N ad s.heap.size)) [.ref (ad 65)].toArray s 0 0 (qA W1N ad s.heap.size)) (F0 m 41 ls [])) h ?_ ?_
  rotate_left
  · intro h
    refine qloop2 (I := fun (v2 : Int32) (M3 : qM) => ∀ (H : Heap) (locs : List Loc), qHS W1N e1 G ad M3 s.heap H locs → ∀ ls : Array Slot, lv_has ls 3 [(0, .ref (ad 65)), (1, .int v2)] → W p l e (headSpec wsX3_mostLeftHere rm_X3_mostLeftHere).room s m [.ref (ad 65)].toArray below meth c H locs 0 0 (MQ below (va_Qi P (fun u t => qHp W1N e1 G ad u t.heap) (qA W1N ad s.heap.size)) [.ref (ad 65)].toArray s 0 0 (qA W1N ad s.heap.size)) (F0 m 10 ls [])) ?_ h _ _ hH _ (lv_sub hl [1, 0] rfl)
    intro v2 M3 h H locs hH ls hl
    have h : qOk (kX3_mostLeftHere_L10 v2 M3) _ := h
    unfold kX3_mostLeftHere_L10 at h
    refine lv_iload_n hx hb dX3_mostLeftHere_10 rfl (lv_at hl 1 rfl) ?_
    refine lv_bipush (v := 10) hx hb dX3_mostLeftHere_11 (by decide) ?_
    refine lv_icmp_ge (tgt := 41) hx hb dX3_mostLeftHere_13 (by decide) (fun hc => ?_) (fun hc => ?_)
    · have h := qOk.t hc h
      exact qOk.le h _ _ hH _ (lv_sub hl [0] rfl)
    · have h := qOk.f hc h
      refine lv_aload_n hx hb dX3_mostLeftHere_16 rfl (lv_at hl 0 rfl) ?_
      refine lv_aload_n hx hb dX3_mostLeftHere_17 rfl (lv_at hl 0 rfl) ?_
      refine y_get hx hb hts i_X3 hown hK hH qOb_3 rfl 1 (by decide) f18 rfl dX3_mostLeftHere_18 ?_
      refine lv_iload_n hx hb dX3_mostLeftHere_21 rfl (lv_at hl 1 rfl) ?_
      refine y_iald hx hb hK hH qAr_68 h dX3_mostLeftHere_22 (fun v5 h => ?_)
      refine lv_aload_n hx hb dX3_mostLeftHere_23 rfl (lv_at hl 0 rfl) ?_
      refine y_get hx hb hts i_X3 hown hK hH qOb_3 rfl 0 (by decide) f12 rfl dX3_mostLeftHere_24 ?_
      refine y_get hx hb hts i_X6 hown hK hH (qWy_ob qWy_66) rfl 0 (by decide) f60 rfl dX3_mostLeftHere_27 ?_
      refine lv_iload_n hx hb dX3_mostLeftHere_30 rfl (lv_at hl 1 rfl) ?_
      refine y_iald hx hb hK hH (qWy_a1 qWy_66) h dX3_mostLeftHere_31 (fun v6 h => ?_)
      refine y_cv hH (va_runV (As := [.int v5, .int v6]) (rest := []) ⟨hx, hb, hml, hown, hts⟩ (c_X3_countHeard l G ad hI M3 _ v5 v6 (qOk.b1 h)) (cwV 2 hts gX3_mostLeftHere_X3_countHeard rfl rfl rfl (by decide +kernel) ⟨Nat.le_of_ble_eq_true rfl, Nat.le_of_ble_eq_true rfl⟩) ⟨qPre.blind, qrecv hK hH qOb_3 rfl, qPre.at hK hH⟩ rfl rfl hl.1 rfl (lv_room (Nat.le_of_ble_eq_true rfl)) dX3_mostLeftHere_32 ⟨Nat.zero_le _, Nat.zero_le _⟩) (fun M7 H locs hH h => ?_)
      obtain ⟨v8, ev8⟩ : ∃ y : Int32, y = v2 + 1 := ⟨_, rfl⟩
      have h := qOk.v h ev8
      refine lv_iinc (v := v8) (lv' := [(1, .int v8), (0, .ref (ad 65))]) hx hb dX3_mostLeftHere_35 hl (k := 1) rfl (by rw [ev8]; rfl) (by decide) rfl (fun ls hl => ?_)
      refine lv_goto (tgt := 10) hx hb dX3_mostLeftHere_38 (by decide) ?_
      exact qOk.li h _ _ hH _ (lv_sub hl [1, 0] rfl)
  intro M4 h H locs hH ls hl
  refine lv_iconst (v := 0) hx hb dX3_mostLeftHere_41 (by decide) ?_
  refine lv_istore_n (lv' := [(1, .int 0), (0, .ref (ad 65))]) hx hb dX3_mostLeftHere_42 rfl hl (by decide) rfl (fun ls hl => ?_)
  refine lv_iconst (v := 0) hx hb dX3_mostLeftHere_43 (by decide) ?_
  refine lv_istore_n (lv' := [(2, .int 0), (1, .int 0), (0, .ref (ad 65))]) hx hb dX3_mostLeftHere_44 rfl hl (by decide) rfl (fun ls hl => ?_)
  refine qj1 (G := fun (v11 : Int32) => ∀ ls : Array Slot, lv_has ls 3 [(1, .int v11)] → W p l e (headSpec wsX3_mostLeftHere rm_X3_mostLeftHere).room s m [.ref (ad 65)].toArray below meth c H locs 0 0 (MQ below (va_Qi P (fun u t => qHp W1N e1 G ad u t.heap) (qA W1N ad s.heap.size)) [.ref (ad 65)].toArray s 0 0 (qA W1N ad s.heap.size)) (F0 m 68 ls [])) h ?_ ?_
  rotate_left
  · intro h
    refine qloop2 (I := fun (v9 : Int32) (v10 : Int32) => ∀ ls : Array Slot, lv_has ls 3 [(0, .ref (ad 65)), (1, .int v9), (2, .int v10)] → W p l e (headSpec wsX3_mostLeftHere rm_X3_mostLeftHere).room s m [.ref (ad 65)].toArray below meth c H locs 0 0 (MQ below (va_Qi P (fun u t => qHp W1N e1 G ad u t.heap) (qA W1N ad s.heap.size)) [.ref (ad 65)].toArray s 0 0 (qA W1N ad s.heap.size)) (F0 m 45 ls [])) ?_ h _ (lv_sub hl [2, 1, 0] rfl)
    intro v9 v10 h ls hl
    have h : qOk (kX3_mostLeftHere_L45 M4 v9 v10) _ := h
    unfold kX3_mostLeftHere_L45 at h
    refine lv_iload_n hx hb dX3_mostLeftHere_45 rfl (lv_at hl 2 rfl) ?_
    refine lv_bipush (v := 24) hx hb dX3_mostLeftHere_46 (by decide) ?_
    refine lv_icmp_gt (tgt := 68) hx hb dX3_mostLeftHere_48 (by decide) (fun hc => ?_) (fun hc => ?_)
    · have h := qOk.t hc h
      exact qOk.le h _ (lv_sub hl [1] rfl)
    · have h := qOk.f hc h
      refine lv_iload_n hx hb dX3_mostLeftHere_51 rfl (lv_at hl 1 rfl) ?_
      refine lv_aload_n hx hb dX3_mostLeftHere_52 rfl (lv_at hl 0 rfl) ?_
      refine y_get hx hb hts i_X3 hown hK hH qOb_3 rfl 2 (by decide) f22 rfl dX3_mostLeftHere_53 ?_
      refine lv_iload_n hx hb dX3_mostLeftHere_56 rfl (lv_at hl 2 rfl) ?_
      refine y_iald hx hb hK hH qAr_69 h dX3_mostLeftHere_57 (fun v12 h => ?_)
      refine va_mmax hx hb (hml.trans hl.1.symm) hown ml84 ms_max mi mc_max (Nat.le_of_ble_eq_true rfl) (Nat.le_of_ble_eq_true rfl) (Nat.zero_le _) (Nat.zero_le _) dX3_mostLeftHere_58 ?_
      refine lv_topi (fun v13 ev13 => ?_)
      have h := qOk.v h ev13
      refine lv_istore_n (lv' := [(1, .int v13), (0, .ref (ad 65)), (2, .int v10)]) hx hb dX3_mostLeftHere_61 rfl hl (by decide) rfl (fun ls hl => ?_)
      obtain ⟨v14, ev14⟩ : ∃ y : Int32, y = v10 + 1 := ⟨_, rfl⟩
      have h := qOk.v h ev14
      refine lv_iinc (v := v14) (lv' := [(2, .int v14), (1, .int v13), (0, .ref (ad 65))]) hx hb dX3_mostLeftHere_62 hl (k := 2) rfl (by rw [ev14]; rfl) (by decide) rfl (fun ls hl => ?_)
      refine lv_goto (tgt := 45) hx hb dX3_mostLeftHere_65 (by decide) ?_
      exact qOk.li h _ (lv_sub hl [2, 1, 0] rfl)
  intro v11 h ls hl
  refine lv_iload_n hx hb dX3_mostLeftHere_68 rfl (lv_at hl 0 rfl) ?_
  exact W.iret hx hb hr (fun t ht _ => ⟨⟨_, _, rfl, qOk2.s h, qHpt ht hH.1⟩, hH.2.F ht⟩) hH.2.2.2 dX3_mostLeftHere_69
abbrev rm_X3_chooseListening : Room := { frames := 3, cells := 0, slots := 0, locals := 66 }
set_option maxHeartbeats 4000000 in
set_option maxRecDepth 100000 in
theorem c_X3_chooseListening (l : Launch) (G : qG) (ad : Nat → Nat) (hI : qI W1N ad) (M : qM) (sz : Nat) {b1 : Nat} (w1 : qMi b1) {P : qM → Prop} (h : qOk (kX3_chooseListening M b1) P) : Met l yX3_chooseListening wsX3_chooseListening rm_X3_chooseListening (va_Pc [.ref (ad 65), .ref (ad b1)] (qPre W1N e1 G ad M sz)) (va_Qv P (fun u t => qHp W1N e1 G ad u t.heap) (qA W1N ad sz)) 0 0 (qA W1N ad sz) := by
  refine Met.ofW (cc := cX3_chooseListening) (maxL := 4) (ret := none) (by decide) rfl ?_
  intro p e s m args below meth c s₁ B hml hv
  obtain ⟨rfl, hsz, hK, hP⟩ := hv
  subst hsz
  have hx := B.exec
  have hb := B.bytes
  have hr := B.returns
  have hts := atoms_spec (ws := wsX3_chooseListening) B.pre
  have hown : s.vm.findClass RX3 = some m.cls := findClass_of_methodNamed B.named
  have hlocks := B.notSynchronized
  have hH : qHS W1N e1 G ad M s.heap s.heap [] := ⟨hP, va_S.rf⟩
  have f25 : (Cond.fieldLink RX3 25 "SongLamps$Search" "listenAt" "I").before [.ref (ad 65), .ref (ad b1)].toArray s = true := hts _ (by decide +kernel)
  have i_X3 : ∀ w ∈ wsX30, w ∈ wsX3_chooseListening := fun w hw => List.mem_cons_of_mem _ ((List.mem_append_left _ (List.mem_append_left _ (List.mem_append_right _ hw))))
  have f29 : (Cond.fieldLink RX3 29 "SongLamps$Search" "mostLeft" "I").before [.ref (ad 65), .ref (ad b1)].toArray s = true := hts _ (by decide +kernel)
  have f12 : (Cond.fieldLink RX3 12 "SongLamps$Search" "ways" "LSongLamps$Ways;").before [.ref (ad 65), .ref (ad b1)].toArray s = true := hts _ (by decide +kernel)
  have f47 : (Cond.fieldLink RX3 47 "SongLamps$Mine" "passages" "[I").before [.ref (ad 65), .ref (ad b1)].toArray s = true := hts _ (by decide +kernel)
  have i_X1 : ∀ w ∈ wsX10, w ∈ wsX3_chooseListening := fun w hw => List.mem_cons_of_mem _ ((List.mem_append_left _ (List.mem_append_right _ hw)))
  have f50 : (Cond.fieldLink RX3 50 "SongLamps$Mine" "closed" "I").before [.ref (ad 65), .ref (ad b1)].toArray s = true := hts _ (by decide +kernel)
  have hl := lv_entry ([.ref (ad 65), .ref (ad b1)]) (n := 4) (Nat.le_of_ble_eq_true rfl)
  rw [lg_entry_eq]
  generalize (lg_sl ([.ref (ad 65), .ref (ad b1)]) ++ List.replicate (4 - (lg_sl ([.ref (ad 65), .ref (ad b1)])).length) Slot.unset).toArray = ls at hl ⊢
  have hl : lv_has ls 4 [(0, .ref (ad 65)), (1, .ref (ad b1))] := hl
  have h : qOk (kX3_chooseListening M b1) _ := h
  unfold kX3_chooseListening at h
  refine lv_aload_n hx hb dX3_chooseListening_0 rfl (lv_at hl 0 rfl) ?_
  refine lv_bipush (v := (-6)) hx hb dX3_chooseListening_1 (by decide) ?_
  refine y_put hx hb hts i_X3 tyX3 tyX3_ok nmX3 hown hK hI hH qOb_3 rfl 3 (by decide) f25 rfl (by decide +kernel) (Nat.le_of_ble_eq_true rfl) (fun _ => rfl) h dX3_chooseListening_3 (fun M1 H locs hH h => ?_)
  refine lv_aload_n hx hb dX3_chooseListening_6 rfl (lv_at hl 0 rfl) ?_
  refine lv_bipush (v := (-6)) hx hb dX3_chooseListening_7 (by decide) ?_
  refine y_put hx hb hts i_X3 tyX3 tyX3_ok nmX3 hown hK hI hH qOb_3 rfl 4 (by decide) f29 rfl (by decide +kernel) (Nat.le_of_ble_eq_true rfl) (fun _ => rfl) h dX3_chooseListening_9 (fun M2 H locs hH h => ?_)
  refine lv_iconst (v := 0) hx hb dX3_chooseListening_12 (by decide) ?_
  refine lv_istore_n (lv' := [(2, .int 0), (0, .ref (ad 65)), (1, .ref (ad b1))]) hx hb dX3_chooseListening_13 rfl hl (by decide) rfl (fun ls hl => ?_)
  refine qj1 (G := fun (M5 : qM) => ∀ (H : Heap) (locs : List Loc), qHS W1N e1 G ad M5 s.heap H locs → ∀ ls : Array Slot, lv_has ls 4 [] → W p l e (headSpec wsX3_chooseListening rm_X3_chooseListening).room s m [.ref (ad 65), .ref (ad b1)].toArray below meth c H locs 0 0 (MQ below (va_Qv P (fun u t => qHp W1N e1 G ad u t.heap) (qA W1N ad s.heap.size)) [.ref (ad 65), .ref (ad b1)].toArray s 0 0 (qA W1N ad s.heap.size)) (F0 m 80 ls [])) h ?_ ?_
  rotate_left
  · intro h
    refine qloop2 (I := fun (v3 : Int32) (M4 : qM) => ∀ (H : Heap) (locs : List Loc), qHS W1N e1 G ad M4 s.heap H locs → ∀ ls : Array Slot, lv_has ls 4 [(0, .ref (ad 65)), (1, .ref (ad b1)), (2, .int v3)] → W p l e (headSpec wsX3_chooseListening rm_X3_chooseListening).room s m [.ref (ad 65), .ref (ad b1)].toArray below meth c H locs 0 0 (MQ below (va_Qv P (fun u t => qHp W1N e1 G ad u t.heap) (qA W1N ad s.heap.size)) [.ref (ad 65), .ref (ad b1)].toArray s 0 0 (qA W1N ad s.heap.size)) (F0 m 14 ls [])) ?_ h _ _ hH _ (lv_sub hl [1, 2, 0] rfl)
    intro v3 M4 h H locs hH ls hl
    have h : qOk (kX3_chooseListening_L14 b1 v3 M4) _ := h
    unfold kX3_chooseListening_L14 at h
    refine lv_iload_n hx hb dX3_chooseListening_14 rfl (lv_at hl 2 rfl) ?_
    refine lv_bipush (v := 10) hx hb dX3_chooseListening_15 (by decide) ?_
    refine lv_icmp_ge (tgt := 80) hx hb dX3_chooseListening_17 (by decide) (fun hc => ?_) (fun hc => ?_)
    · have h := qOk.t hc h
      exact qOk.le h _ _ hH _ (lv_sub hl [] rfl)
    · have h := qOk.f hc h
      refine lv_aload_n hx hb dX3_chooseListening_20 rfl (lv_at hl 0 rfl) ?_
      refine y_get hx hb hts i_X3 hown hK hH qOb_3 rfl 0 (by decide) f12 rfl dX3_chooseListening_21 ?_
      refine lv_iload_n hx hb dX3_chooseListening_24 rfl (lv_at hl 2 rfl) ?_
      refine lv_aload_n hx hb dX3_chooseListening_25 rfl (lv_at hl 1 rfl) ?_
      refine y_get hx hb hts i_X1 hown hK hH (qMi_ob w1) rfl 0 (by decide) f47 rfl dX3_chooseListening_26 ?_
      refine lv_sipush (v := 1023) hx hb dX3_chooseListening_29 (by decide) ?_
      refine lv_aload_n hx hb dX3_chooseListening_32 rfl (lv_at hl 1 rfl) ?_
      refine y_get hx hb hts i_X1 hown hK hH (qMi_ob w1) rfl 4 (by decide) f50 rfl dX3_chooseListening_33 ?_
      refine lv_iconst (v := (-1)) hx hb dX3_chooseListening_36 (by decide) ?_
      refine lv_ixor hx hb dX3_chooseListening_37 ?_
      refine lv_iand hx hb dX3_chooseListening_38 ?_
      refine y_cv hH (va_runV (As := [.int v3, .ref (ad (b1 + 1)), .int (1023 &&& ((M4 b1 4) ^^^ (-1)))]) (rest := []) ⟨hx, hb, hml, hown, hts⟩ (c_X6_measure l G ad hI M4 _ qWy_66 v3 (qMi_a1 w1) (1023 &&& ((M4 b1 4) ^^^ (-1))) (qOk.b1 h)) (cwV 3 hts gX3_chooseListening_X6_measure rfl rfl rfl (by decide +kernel) ⟨Nat.le_of_ble_eq_true rfl, Nat.le_of_ble_eq_true rfl⟩) ⟨qPre.blind, qrecv hK hH (qWy_ob qWy_66) rfl, qPre.at hK hH⟩ rfl rfl hl.1 rfl (lv_room (Nat.le_of_ble_eq_true rfl)) dX3_chooseListening_39 ⟨Nat.zero_le _, Nat.zero_le _⟩) (fun M6 H locs hH h => ?_)
      refine lv_aload_n hx hb dX3_chooseListening_42 rfl (lv_at hl 0 rfl) ?_
      refine y_ci hH (va_runV (As := []) (rest := []) ⟨hx, hb, hml, hown, hts⟩ (c_X3_mostLeftHere l G ad hI M6 _  (qOk.b2 h)) (cwV 0 hts gX3_chooseListening_X3_mostLeftHere rfl rfl rfl (by decide +kernel) ⟨Nat.le_of_ble_eq_true rfl, Nat.le_of_ble_eq_true rfl⟩) ⟨qPre.blind, qrecv hK hH qOb_3 rfl, qPre.at hK hH⟩ rfl rfl hl.1 rfl (lv_room (Nat.le_of_ble_eq_true rfl)) dX3_chooseListening_43 ⟨Nat.zero_le _, Nat.zero_le _⟩) (fun v8 M7 H locs hH h => ?_)
      refine lv_istore_n (lv' := [(3, .int v8), (0, .ref (ad 65)), (1, .ref (ad b1)), (2, .int v3)]) hx hb dX3_chooseListening_46 rfl hl (by decide) rfl (fun ls hl => ?_)
      refine lv_aload_n hx hb dX3_chooseListening_47 rfl (lv_at hl 1 rfl) ?_
      refine y_get hx hb hts i_X3 hown hK hH qOb_3 rfl 3 (by decide) f25 rfl dX3_chooseListening_48 ?_
      refine lv_bipush (v := (-6)) hx hb dX3_chooseListening_51 (by decide) ?_
      refine qj1 (G := fun (M9 : qM) => ∀ (H : Heap) (locs : List Loc), qHS W1N e1 G ad M9 s.heap H locs → W p l e (headSpec wsX3_chooseListening rm_X3_chooseListening).room s m [.ref (ad 65), .ref (ad b1)].toArray below meth c H locs 0 0 (MQ below (va_Qv P (fun u t => qHp W1N e1 G ad u t.heap) (qA W1N ad s.heap.size)) [.ref (ad 65), .ref (ad b1)].toArray s 0 0 (qA W1N ad s.heap.size)) (F0 m 74 ls [])) h ?_ ?_
      rotate_left
      · intro h
        refine lv_icmp_eq (tgt := 64) hx hb dX3_chooseListening_53 (by decide) (fun hc => ?_) (fun hc => ?_)
        · have h := qOk.t hc h
          refine lv_aload_n hx hb dX3_chooseListening_64 rfl (lv_at hl 1 rfl) ?_
          refine lv_iload_n hx hb dX3_chooseListening_65 rfl (lv_at hl 3 rfl) ?_
          refine y_put hx hb hts i_X3 tyX3 tyX3_ok nmX3 hown hK hI hH qOb_3 rfl 3 (by decide) f25 rfl (by decide +kernel) (Nat.le_of_ble_eq_true rfl) (fun _ => rfl) h dX3_chooseListening_66 (fun M10 H locs hH h => ?_)
          refine lv_aload_n hx hb dX3_chooseListening_69 rfl (lv_at hl 1 rfl) ?_
          refine lv_iload_n hx hb dX3_chooseListening_70 rfl (lv_at hl 0 rfl) ?_
          refine y_put hx hb hts i_X3 tyX3 tyX3_ok nmX3 hown hK hI hH qOb_3 rfl 4 (by decide) f29 rfl (by decide +kernel) (Nat.le_of_ble_eq_true rfl) (fun _ => rfl) h dX3_chooseListening_71 (fun M11 H locs hH h => ?_)
          have h := qOk.s h
          exact h _ _ hH
        · have h := qOk.f hc h
          refine lv_iload_n hx hb dX3_chooseListening_56 rfl (lv_at hl 0 rfl) ?_
          refine lv_aload_n hx hb dX3_chooseListening_57 rfl (lv_at hl 1 rfl) ?_
          refine y_get hx hb hts i_X3 hown hK hH qOb_3 rfl 4 (by decide) f29 rfl dX3_chooseListening_58 ?_
          refine lv_icmp_ge (tgt := 74) hx hb dX3_chooseListening_61 (by decide) (fun hc => ?_) (fun hc => ?_)
          · have h := qOk.t hc h
            have h := qOk.s h
            exact h _ _ hH
          · have h := qOk.f hc h
            refine lv_aload_n hx hb dX3_chooseListening_64 rfl (lv_at hl 1 rfl) ?_
            refine lv_iload_n hx hb dX3_chooseListening_65 rfl (lv_at hl 3 rfl) ?_
            refine y_put hx hb hts i_X3 tyX3 tyX3_ok nmX3 hown hK hI hH qOb_3 rfl 3 (by decide) f25 rfl (by decide +kernel) (Nat.le_of_ble_eq_true rfl) (fun _ => rfl) h dX3_chooseListening_66 (fun M12 H locs hH h => ?_)
            refine lv_aload_n hx hb dX3_chooseListening_69 rfl (lv_at hl 1 rfl) ?_
            refine lv_iload_n hx hb dX3_chooseListening_70 rfl (lv_at hl 0 rfl) ?_
            refine y_put hx hb hts i_X3 tyX3 tyX3_ok nmX3 hown hK hI hH qOb_3 rfl 4 (by decide) f29 rfl (by decide +kernel) (Nat.le_of_ble_eq_true rfl) (fun _ => rfl) h dX3_chooseListening_71 (fun M13 H locs hH h => ?_)
            have h := qOk.s h
            exact h _ _ hH
      intro M9 h H locs hH
      obtain ⟨v14, ev14⟩ : ∃ y : Int32, y = v3 + 1 := ⟨_, rfl⟩
      have h := qOk.v h ev14
      refine lv_iinc (v := v14) (lv' := [(2, .int v14), (3, .int v8), (0, .ref (ad 65)), (1, .ref (ad b1))]) hx hb dX3_chooseListening_74 hl (k := 3) rfl (by rw [ev14]; rfl) (by decide) rfl (fun ls hl => ?_)
      refine lv_goto (tgt := 14) hx hb dX3_chooseListening_77 (by decide) ?_
      exact qOk.li h _ _ hH _ (lv_sub hl [2, 3, 0] rfl)
  intro M5 h H locs hH ls hl
  exact W.vret hx hb hr (fun t ht _ => ⟨⟨_, rfl, qOk.s h, qHpt ht hH.1⟩, hH.2.F ht⟩) hH.2.2.2 dX3_chooseListening_80
