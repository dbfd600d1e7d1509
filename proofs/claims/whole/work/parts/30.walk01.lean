abbrev rm_J7_fill_53178 : Room := { frames := 0, cells := 0, slots := 0, locals := 0 }
set_option maxHeartbeats 4000000 in
set_option maxRecDepth 100000 in
theorem c_J7_fill_53178 {N1 : Nat} {E1 : qE} (l : Launch) (G : qG) (ad : Nat → Nat) (hI : qI N1 ad) (M : qM) (sz : Nat) {k0 : Nat} {n0 : Nat} (w0 : qAr N1 E1 k0 n0) (x1 : Int32) {P : qM → Prop} (h : qOk (kJ7_fill_53178 M k0 n0 x1) P) : Met l yJ7_fill_53178 wsJ7_fill_53178 rm_J7_fill_53178 (va_Pc [.ref (ad k0), .int x1] (qPre N1 E1 G ad M sz)) (va_Qv P (fun u t => qHp N1 E1 G ad u t.heap) (qA N1 ad sz)) 0 0 (qA N1 ad sz) := by
  refine Met.ofW (cc := cJ7_fill_53178) (maxL := 4) (ret := none) (by decide) rfl ?_
  intro p e s m args below meth c s₁ B hml hv
  obtain ⟨rfl, hsz, hK, hP⟩ := hv
  subst hsz
  have hx := B.exec
  have hb := B.bytes
  have hr := B.returns
  have hts := atoms_spec (ws := wsJ7_fill_53178) B.pre
  have hown : s.vm.findClass RJ7 = some m.cls := findClass_of_methodNamed B.named
  have hlocks := B.notSynchronized
  have hH : qHS N1 E1 G ad M s.heap s.heap [] := ⟨hP, va_S.rf⟩
  have hl := lv_entry ([.ref (ad k0), .int x1]) (n := 4) (Nat.le_of_ble_eq_true rfl)
  rw [lg_entry_eq]
  generalize (lg_sl ([.ref (ad k0), .int x1]) ++ List.replicate (4 - (lg_sl ([.ref (ad k0), .int x1])).length) Slot.unset).toArray = ls at hl ⊢
  have hl : lv_has ls 4 [(0, .ref (ad k0)), (1, .int x1)] := hl
  have h : qOk (kJ7_fill_53178 M k0 n0 x1) _ := h
  unfold kJ7_fill_53178 at h
  refine lv_iconst (v := 0) hx hb dJ7_fill_53178_0 (by decide) ?_
  refine lv_istore_n (lv' := [(2, .int 0), (0, .ref (ad k0)), (1, .int x1)]) hx hb dJ7_fill_53178_1 rfl hl (by decide) rfl (fun ls hl => ?_)
  refine lv_aload_n hx hb dJ7_fill_53178_2 rfl (lv_at hl 1 rfl) ?_
  refine y_alen hx hb hK hH w0 dJ7_fill_53178_3 ?_
  refine lv_topi (fun v1 ev1 => ?_)
  have h := qOk.v h ev1
  refine lv_istore_n (lv' := [(3, .int v1), (2, .int 0), (0, .ref (ad k0)), (1, .int x1)]) hx hb dJ7_fill_53178_4 rfl hl (by decide) rfl (fun ls hl => ?_)
  refine qj1 (G := fun (M4 : qM) => ∀ (H : Heap) (locs : List Loc), qHS N1 E1 G ad M4 s.heap H locs → ∀ ls : Array Slot, lv_has ls 4 [] → W p l e (headSpec wsJ7_fill_53178 rm_J7_fill_53178).room s m [.ref (ad k0), .int x1].toArray below meth c H locs 0 0 (MQ below (va_Qv P (fun u t => qHp N1 E1 G ad u t.heap) (qA N1 ad s.heap.size)) [.ref (ad k0), .int x1].toArray s 0 0 (qA N1 ad s.heap.size)) (F0 m 20 ls [])) h ?_ ?_
  rotate_left
  · intro h
    refine qloop2 (I := fun (v2 : Int32) (M3 : qM) => ∀ (H : Heap) (locs : List Loc), qHS N1 E1 G ad M3 s.heap H locs → ∀ ls : Array Slot, lv_has ls 4 [(0, .ref (ad k0)), (1, .int x1), (2, .int v2), (3, .int v1)] → W p l e (headSpec wsJ7_fill_53178 rm_J7_fill_53178).room s m [.ref (ad k0), .int x1].toArray below meth c H locs 0 0 (MQ below (va_Qv P (fun u t => qHp N1 E1 G ad u t.heap) (qA N1 ad s.heap.size)) [.ref (ad k0), .int x1].toArray s 0 0 (qA N1 ad s.heap.size)) (F0 m 5 ls [])) ?_ h _ _ hH _ (lv_sub hl [2, 3, 1, 0] rfl)
    intro v2 M3 h H locs hH ls hl
    have h : qOk (kJ7_fill_53178_L5 v1 k0 n0 x1 v2 M3) _ := h
    unfold kJ7_fill_53178_L5 at h
    refine lv_iload_n hx hb dJ7_fill_53178_5 rfl (lv_at hl 2 rfl) ?_
    refine lv_iload_n hx hb dJ7_fill_53178_6 rfl (lv_at hl 3 rfl) ?_
    refine lv_icmp_ge (tgt := 20) hx hb dJ7_fill_53178_7 (by decide) (fun hc => ?_) (fun hc => ?_)
    · have h := qOk.t hc h
      exact qOk.le h _ _ hH _ (lv_sub hl [] rfl)
    · have h := qOk.f hc h
      refine lv_aload_n hx hb dJ7_fill_53178_10 rfl (lv_at hl 0 rfl) ?_
      refine lv_iload_n hx hb dJ7_fill_53178_11 rfl (lv_at hl 2 rfl) ?_
      refine lv_iload_n hx hb dJ7_fill_53178_12 rfl (lv_at hl 1 rfl) ?_
      refine y_iast hx hb hK hI hH w0 h dJ7_fill_53178_13 (fun M5 H locs hH h => ?_)
      obtain ⟨v6, ev6⟩ : ∃ y : Int32, y = v2 + 1 := ⟨_, rfl⟩
      have h := qOk.v h ev6
      refine lv_iinc (v := v6) (lv' := [(2, .int v6), (0, .ref (ad k0)), (1, .int x1), (3, .int v1)]) hx hb dJ7_fill_53178_14 hl (k := 2) rfl (by rw [ev6]; rfl) (by decide) rfl (fun ls hl => ?_)
      refine lv_goto (tgt := 5) hx hb dJ7_fill_53178_17 (by decide) ?_
      exact qOk.li h _ _ hH _ (lv_sub hl [1, 2, 0, 3] rfl)
  intro M4 h H locs hH ls hl
  exact W.vret hx hb hr (fun t ht _ => ⟨⟨_, rfl, qOk.s h, qHpt ht hH.1⟩, hH.2.F ht⟩) hH.2.2.2 dJ7_fill_53178_20
abbrev rm_X1_isSinging : Room := { frames := 0, cells := 0, slots := 0, locals := 0 }
set_option maxHeartbeats 4000000 in
set_option maxRecDepth 100000 in
theorem c_X1_isSinging (l : Launch) (G : qG) (ad : Nat → Nat) (hI : qI W1N ad) (M : qM) (sz : Nat) {b0 : Nat} (w0 : qMi b0) (x1 : Int32) {P : Int32 → Prop} (h : qOk (kX1_isSinging b0 M x1) P) : Met l yX1_isSinging wsX1_isSinging rm_X1_isSinging (va_Pc [.ref (ad b0), .int x1] (qPre W1N e1 G ad M sz)) (vp_Si P) 0 0 (fun _ => False) := by
  refine Met.ofW (cc := cX1_isSinging) (maxL := 2) (ret := (some .boolean)) (by decide) rfl ?_
  intro p e s m args below meth c s₁ B hml hv
  obtain ⟨rfl, hsz, hK, hP⟩ := hv
  subst hsz
  have hx := B.exec
  have hb := B.bytes
  have hr := B.returns
  have hts := atoms_spec (ws := wsX1_isSinging) B.pre
  have hown : s.vm.findClass RX1 = some m.cls := findClass_of_methodNamed B.named
  have hlocks := B.notSynchronized
  have hH : qHS W1N e1 G ad M s.heap s.heap [] := ⟨hP, va_S.rf⟩
  have f36 : (Cond.fieldLink RX1 36 "SongLamps$Mine" "note" "[I").before [.ref (ad b0), .int x1].toArray s = true := hts _ (by decide +kernel)
  have i_X1 : ∀ w ∈ wsX10, w ∈ wsX1_isSinging := fun w hw => List.mem_cons_of_mem _ ((List.mem_append_right _ hw))
  have hl := lv_entry ([.ref (ad b0), .int x1]) (n := 2) (Nat.le_of_ble_eq_true rfl)
  rw [lg_entry_eq]
  generalize (lg_sl ([.ref (ad b0), .int x1]) ++ List.replicate (2 - (lg_sl ([.ref (ad b0), .int x1])).length) Slot.unset).toArray = ls at hl ⊢
  have hl : lv_has ls 2 [(0, .ref (ad b0)), (1, .int x1)] := hl
  have h : qOk (kX1_isSinging b0 M x1) _ := h
  unfold kX1_isSinging at h
  refine lv_aload_n hx hb dX1_isSinging_0 rfl (lv_at hl 0 rfl) ?_
  refine y_get hx hb hts i_X1 hown hK hH (qMi_ob w0) rfl 13 (by decide) f36 rfl dX1_isSinging_1 ?_
  refine lv_iload_n hx hb dX1_isSinging_4 rfl (lv_at hl 1 rfl) ?_
  refine y_iald hx hb hK hH (qMi_a9 w0) h dX1_isSinging_5 (fun v1 h => ?_)
  refine lv_iconst (v := (-1)) hx hb dX1_isSinging_6 (by decide) ?_
  refine qj1 (G := fun (v2 : Int32) => W p l e (headSpec wsX1_isSinging rm_X1_isSinging).room s m [.ref (ad b0), .int x1].toArray below meth c s.heap [] 0 0 (MQ below (vp_Si P) [.ref (ad b0), .int x1].toArray s 0 0 (fun _ => False)) (F0 m 15 ls [.int v2])) h ?_ ?_
  rotate_left
  · intro h
    refine lv_icmp_eq (tgt := 14) hx hb dX1_isSinging_7 (by decide) (fun hc => ?_) (fun hc => ?_)
    · have h := qOk.t hc h
      refine lv_iconst (v := 0) hx hb dX1_isSinging_14 (by decide) ?_
      have h := qOk.s h
      exact h
    · have h := qOk.f hc h
      refine lv_iconst (v := 1) hx hb dX1_isSinging_10 (by decide) ?_
      refine lv_goto (tgt := 15) hx hb dX1_isSinging_11 (by decide) ?_
      have h := qOk.s h
      exact h
  intro v2 h
  obtain ⟨hbn, h⟩ := qOk.bl h
  exact W.zret hx hb hr (qnarb hbn) (fun t ht _ => ⟨_, rfl, qOk.s h, ht⟩) (fun _ hq => by cases hq) dX1_isSinging_15
abbrev rm_X7_has : Room := { frames := 0, cells := 0, slots := 0, locals := 0 }
set_option maxHeartbeats 4000000 in
set_option maxRecDepth 100000 in
theorem c_X7_has (l : Launch) (x0 : Int32) (x1 : Int32) {P : Int32 → Prop} (h : qOk (kX7_has x0 x1) P) : Met l yX7_has wsX7_has rm_X7_has (va_Pc [.int x0, .int x1] (fun _ => True)) (vp_Si P) 0 0 (fun _ => False) := by
  refine Met.ofW (cc := cX7_has) (maxL := 2) (ret := (some .boolean)) (by decide) rfl ?_
  intro p e s m args below meth c s₁ B hml hv
  obtain ⟨rfl, -⟩ := hv
  have hx := B.exec
  have hb := B.bytes
  have hr := B.returns
  have hts := atoms_spec (ws := wsX7_has) B.pre
  have hown : s.vm.findClass RX7 = some m.cls := findClass_of_methodNamed B.named
  have hlocks := B.notSynchronized
  have hl := lv_entry ([.int x0, .int x1]) (n := 2) (Nat.le_of_ble_eq_true rfl)
  rw [lg_entry_eq]
  generalize (lg_sl ([.int x0, .int x1]) ++ List.replicate (2 - (lg_sl ([.int x0, .int x1])).length) Slot.unset).toArray = ls at hl ⊢
  have hl : lv_has ls 2 [(0, .int x0), (1, .int x1)] := hl
  have h : qOk (kX7_has x0 x1) _ := h
  unfold kX7_has at h
  refine lv_iload_n hx hb dX7_has_0 rfl (lv_at hl 0 rfl) ?_
  refine lv_iload_n hx hb dX7_has_1 rfl (lv_at hl 1 rfl) ?_
  refine lv_ishr hx hb dX7_has_2 ?_
  refine lv_iconst (v := 1) hx hb dX7_has_3 (by decide) ?_
  refine lv_iand hx hb dX7_has_4 ?_
  refine lv_iconst (v := 1) hx hb dX7_has_5 (by decide) ?_
  refine qj1 (G := fun (v1 : Int32) => W p l e (headSpec wsX7_has rm_X7_has).room s m [.int x0, .int x1].toArray below meth c s.heap [] 0 0 (MQ below (vp_Si P) [.int x0, .int x1].toArray s 0 0 (fun _ => False)) (F0 m 14 ls [.int v1])) h ?_ ?_
  rotate_left
  · intro h
    refine lv_icmp_ne (tgt := 13) hx hb dX7_has_6 (by decide) (fun hc => ?_) (fun hc => ?_)
    · have h := qOk.f hc h
      refine lv_iconst (v := 0) hx hb dX7_has_13 (by decide) ?_
      have h := qOk.s h
      exact h
    · have h := qOk.t hc h
      refine lv_iconst (v := 1) hx hb dX7_has_9 (by decide) ?_
      refine lv_goto (tgt := 14) hx hb dX7_has_10 (by decide) ?_
      have h := qOk.s h
      exact h
  intro v1 h
  obtain ⟨hbn, h⟩ := qOk.bl h
  exact W.zret hx hb hr (qnarb hbn) (fun t ht _ => ⟨_, rfl, qOk.s h, ht⟩) (fun _ hq => by cases hq) dX7_has_14
abbrev rm_X1_singTogether : Room := { frames := 0, cells := 0, slots := 0, locals := 0 }
set_option maxHeartbeats 4000000 in
set_option maxRecDepth 100000 in
theorem c_X1_singTogether (l : Launch) (G : qG) (ad : Nat → Nat) (hI : qI W1N ad) (M : qM) (sz : Nat) {b0 : Nat} (w0 : qMi b0) (x1 : Int32) (x2 : Int32) {P : Int32 → Prop} (h : qOk (kX1_singTogether b0 M x1 x2) P) : Met l yX1_singTogether wsX1_singTogether rm_X1_singTogether (va_Pc [.ref (ad b0), .int x1, .int x2] (qPre W1N e1 G ad M sz)) (vp_Si P) 0 0 (fun _ => False) := by
  refine Met.ofW (cc := cX1_singTogether) (maxL := 3) (ret := (some .boolean)) (by decide) rfl ?_
  intro p e s m args below meth c s₁ B hml hv
  obtain ⟨rfl, hsz, hK, hP⟩ := hv
  subst hsz
  have hx := B.exec
  have hb := B.bytes
  have hr := B.returns
  have hts := atoms_spec (ws := wsX1_singTogether) B.pre
  have hown : s.vm.findClass RX1 = some m.cls := findClass_of_methodNamed B.named
  have hlocks := B.notSynchronized
  have hH : qHS W1N e1 G ad M s.heap s.heap [] := ⟨hP, va_S.rf⟩
  have f36 : (Cond.fieldLink RX1 36 "SongLamps$Mine" "note" "[I").before [.ref (ad b0), .int x1, .int x2].toArray s = true := hts _ (by decide +kernel)
  have i_X1 : ∀ w ∈ wsX10, w ∈ wsX1_singTogether := fun w hw => List.mem_cons_of_mem _ ((List.mem_append_right _ hw))
  have f33 : (Cond.fieldLink RX1 33 "SongLamps$Mine" "place" "[I").before [.ref (ad b0), .int x1, .int x2].toArray s = true := hts _ (by decide +kernel)
  have hl := lv_entry ([.ref (ad b0), .int x1, .int x2]) (n := 3) (Nat.le_of_ble_eq_true rfl)
  rw [lg_entry_eq]
  generalize (lg_sl ([.ref (ad b0), .int x1, .int x2]) ++ List.replicate (3 - (lg_sl ([.ref (ad b0), .int x1, .int x2])).length) Slot.unset).toArray = ls at hl ⊢
  have hl : lv_has ls 3 [(0, .ref (ad b0)), (1, .int x1), (2, .int x2)] := hl
  have h : qOk (kX1_singTogether b0 M x1 x2) _ := h
  unfold kX1_singTogether at h
  refine lv_aload_n hx hb dX1_singTogether_0 rfl (lv_at hl 0 rfl) ?_
  refine y_get hx hb hts i_X1 hown hK hH (qMi_ob w0) rfl 13 (by decide) f36 rfl dX1_singTogether_1 ?_
  refine lv_iload_n hx hb dX1_singTogether_4 rfl (lv_at hl 1 rfl) ?_
  refine y_iald hx hb hK hH (qMi_a9 w0) h dX1_singTogether_5 (fun v1 h => ?_)
  refine lv_iconst (v := (-1)) hx hb dX1_singTogether_6 (by decide) ?_
  refine qj1 (G := fun (v2 : Int32) => W p l e (headSpec wsX1_singTogether rm_X1_singTogether).room s m [.ref (ad b0), .int x1, .int x2].toArray below meth c s.heap [] 0 0 (MQ below (vp_Si P) [.ref (ad b0), .int x1, .int x2].toArray s 0 0 (fun _ => False)) (F0 m 40 ls [.int v2])) h ?_ ?_
  rotate_left
  · intro h
    refine lv_icmp_eq (tgt := 39) hx hb dX1_singTogether_7 (by decide) (fun hc => ?_) (fun hc => ?_)
    · have h := qOk.t hc h
      refine lv_iconst (v := 0) hx hb dX1_singTogether_39 (by decide) ?_
      have h := qOk.s h
      exact h
    · have h := qOk.f hc h
      refine lv_aload_n hx hb dX1_singTogether_10 rfl (lv_at hl 0 rfl) ?_
      refine y_get hx hb hts i_X1 hown hK hH (qMi_ob w0) rfl 13 (by decide) f36 rfl dX1_singTogether_11 ?_
      refine lv_iload_n hx hb dX1_singTogether_14 rfl (lv_at hl 2 rfl) ?_
      refine y_iald hx hb hK hH (qMi_a9 w0) h dX1_singTogether_15 (fun v3 h => ?_)
      refine lv_iconst (v := (-1)) hx hb dX1_singTogether_16 (by decide) ?_
      refine lv_icmp_eq (tgt := 39) hx hb dX1_singTogether_17 (by decide) (fun hc => ?_) (fun hc => ?_)
      · have h := qOk.t hc h
        refine lv_iconst (v := 0) hx hb dX1_singTogether_39 (by decide) ?_
        have h := qOk.s h
        exact h
      · have h := qOk.f hc h
        refine lv_aload_n hx hb dX1_singTogether_20 rfl (lv_at hl 0 rfl) ?_
        refine y_get hx hb hts i_X1 hown hK hH (qMi_ob w0) rfl 12 (by decide) f33 rfl dX1_singTogether_21 ?_
        refine lv_iload_n hx hb dX1_singTogether_24 rfl (lv_at hl 1 rfl) ?_
        refine y_iald hx hb hK hH (qMi_a8 w0) h dX1_singTogether_25 (fun v4 h => ?_)
        refine lv_aload_n hx hb dX1_singTogether_26 rfl (lv_at hl 0 rfl) ?_
        refine y_get hx hb hts i_X1 hown hK hH (qMi_ob w0) rfl 12 (by decide) f33 rfl dX1_singTogether_27 ?_
        refine lv_iload_n hx hb dX1_singTogether_30 rfl (lv_at hl 2 rfl) ?_
        refine y_iald hx hb hK hH (qMi_a8 w0) h dX1_singTogether_31 (fun v5 h => ?_)
        refine lv_icmp_ne (tgt := 39) hx hb dX1_singTogether_32 (by decide) (fun hc => ?_) (fun hc => ?_)
        · have h := qOk.f hc h
          refine lv_iconst (v := 0) hx hb dX1_singTogether_39 (by decide) ?_
          have h := qOk.s h
          exact h
        · have h := qOk.t hc h
          refine lv_iconst (v := 1) hx hb dX1_singTogether_35 (by decide) ?_
          refine lv_goto (tgt := 40) hx hb dX1_singTogether_36 (by decide) ?_
          have h := qOk.s h
          exact h
  intro v2 h
  obtain ⟨hbn, h⟩ := qOk.bl h
  exact W.zret hx hb hr (qnarb hbn) (fun t ht _ => ⟨_, rfl, qOk.s h, ht⟩) (fun _ hq => by cases hq) dX1_singTogether_40
abbrev rm_X1_clash : Room := { frames := 1, cells := 0, slots := 0, locals := 22 }
set_option maxHeartbeats 4000000 in
set_option maxRecDepth 100000 in
theorem c_X1_clash (l : Launch) (G : qG) (ad : Nat → Nat) (hI : qI W1N ad) (M : qM) (sz : Nat) {b0 : Nat} (w0 : qMi b0) (x1 : Int32) (x2 : Int32) {P : Int32 → Prop} (h : qOk (kX1_clash b0 M x1 x2) P) : Met l yX1_clash wsX1_clash rm_X1_clash (va_Pc [.ref (ad b0), .int x1, .int x2] (qPre W1N e1 G ad M sz)) (vp_Si P) 0 0 (fun _ => False) := by
  refine Met.ofW (cc := cX1_clash) (maxL := 4) (ret := (some .boolean)) (by decide) rfl ?_
  intro p e s m args below meth c s₁ B hml hv
  obtain ⟨rfl, hsz, hK, hP⟩ := hv
  subst hsz
  have hx := B.exec
  have hb := B.bytes
  have hr := B.returns
  have hts := atoms_spec (ws := wsX1_clash) B.pre
  have hown : s.vm.findClass RX1 = some m.cls := findClass_of_methodNamed B.named
  have hlocks := B.notSynchronized
  have hH : qHS W1N e1 G ad M s.heap s.heap [] := ⟨hP, va_S.rf⟩
  have f51 : (Cond.fieldLink RX1 51 "SongLamps$Mine" "gas" "I").before [.ref (ad b0), .int x1, .int x2].toArray s = true := hts _ (by decide +kernel)
  have i_X1 : ∀ w ∈ wsX10, w ∈ wsX1_clash := fun w hw => List.mem_cons_of_mem _ ((List.mem_append_right _ hw))
  have f33 : (Cond.fieldLink RX1 33 "SongLamps$Mine" "place" "[I").before [.ref (ad b0), .int x1, .int x2].toArray s = true := hts _ (by decide +kernel)
  have nS_X7_has : (Cond.static yX7_has).before [.ref (ad b0), .int x1, .int x2].toArray s = true := hts _ (by decide +kernel)
  have nI_X7 : (Cond.initialized RX7).before [.ref (ad b0), .int x1, .int x2].toArray s = true := hts _ (by decide +kernel)
  have f36 : (Cond.fieldLink RX1 36 "SongLamps$Mine" "note" "[I").before [.ref (ad b0), .int x1, .int x2].toArray s = true := hts _ (by decide +kernel)
  have ml93 : (Cond.methodLink RX1 93 Lib.Math.abs.name).before [.ref (ad b0), .int x1, .int x2].toArray s = true := hts _ (by decide +kernel)
  have ms_abs : (Cond.static Lib.Math.abs.name).before [.ref (ad b0), .int x1, .int x2].toArray s = true := hts _ (by decide +kernel)
  have mi : (Cond.initialized "java/lang/Math").before [.ref (ad b0), .int x1, .int x2].toArray s = true := hts _ (by decide +kernel)
  have mc_abs : (Cond.code Lib.Math.abs.name Lib.Math.abs.code 1 (some .int)).before [.ref (ad b0), .int x1, .int x2].toArray s = true := hts _ (by decide +kernel)
  have hl := lv_entry ([.ref (ad b0), .int x1, .int x2]) (n := 4) (Nat.le_of_ble_eq_true rfl)
  rw [lg_entry_eq]
  generalize (lg_sl ([.ref (ad b0), .int x1, .int x2]) ++ List.replicate (4 - (lg_sl ([.ref (ad b0), .int x1, .int x2])).length) Slot.unset).toArray = ls at hl ⊢
  have hl : lv_has ls 4 [(0, .ref (ad b0)), (1, .int x1), (2, .int x2)] := hl
  have h : qOk (kX1_clash b0 M x1 x2) _ := h
  unfold kX1_clash at h
  refine lv_aload_n hx hb dX1_clash_0 rfl (lv_at hl 0 rfl) ?_
  refine y_get hx hb hts i_X1 hown hK hH (qMi_ob w0) rfl 3 (by decide) f51 rfl dX1_clash_1 ?_
  refine lv_aload_n hx hb dX1_clash_4 rfl (lv_at hl 0 rfl) ?_
  refine y_get hx hb hts i_X1 hown hK hH (qMi_ob w0) rfl 12 (by decide) f33 rfl dX1_clash_5 ?_
  refine lv_iload_n hx hb dX1_clash_8 rfl (lv_at hl 1 rfl) ?_
  refine y_iald hx hb hK hH (qMi_a8 w0) h dX1_clash_9 (fun v1 h => ?_)
  refine y_cs (va_runSN (host := "SongLamps") (As := [.int (M b0 3), .int v1]) (rest := []) ⟨hx, hb, hml, hown, hts⟩ (c_X7_has l (M b0 3) v1 (qOk.b1 h)) ⟨va_cnB 2 hts gX1_clash_X7_has_n83 rfl rfl rfl (hK.2 (RX1, 83, yX7_has, "SongLamps") (List.mem_of_getElem? (i := 1) rfl)) nI_X7 (by decide +kernel) ⟨Nat.le_of_ble_eq_true rfl, Nat.le_of_ble_eq_true rfl⟩, nS_X7_has, trivial⟩ ⟨qPrT.blind, qPrT.at⟩ rfl rfl hl.1 rfl (lv_room (Nat.le_of_ble_eq_true rfl)) dX1_clash_10 ⟨Nat.zero_le _, Nat.zero_le _⟩) (fun v2 h => ?_)
  refine lv_if_eq (tgt := 25) hx hb dX1_clash_13 (by decide) (fun hc => ?_) (fun hc => ?_)
  · have h := qOk.t hc h
    refine lv_iconst (v := 0) hx hb dX1_clash_25 (by decide) ?_
    exact W.zret hx hb hr rfl (fun t ht _ => ⟨_, rfl, qOk.s h, ht⟩) (fun _ hq => by cases hq) dX1_clash_26
  · have h := qOk.f hc h
    refine lv_aload_n hx hb dX1_clash_16 rfl (lv_at hl 0 rfl) ?_
    refine lv_iload_n hx hb dX1_clash_17 rfl (lv_at hl 1 rfl) ?_
    refine lv_iload_n hx hb dX1_clash_18 rfl (lv_at hl 2 rfl) ?_
    refine y_cs (va_runV (As := [.int x1, .int x2]) (rest := []) ⟨hx, hb, hml, hown, hts⟩ (c_X1_singTogether l G ad hI M _ w0 x1 x2 (qOk.b1 h)) (cwV 2 hts gX1_clash_X1_singTogether rfl rfl rfl (by decide +kernel) ⟨Nat.le_of_ble_eq_true rfl, Nat.le_of_ble_eq_true rfl⟩) ⟨qPre.blind, qrecv hK hH (qMi_ob w0) rfl, qPre.at hK hH⟩ rfl rfl hl.1 rfl (lv_room (Nat.le_of_ble_eq_true rfl)) dX1_clash_19 ⟨Nat.zero_le _, Nat.zero_le _⟩) (fun v3 h => ?_)
    refine lv_if_ne (tgt := 27) hx hb dX1_clash_22 (by decide) (fun hc => ?_) (fun hc => ?_)
    · have h := qOk.f hc h
      refine lv_aload_n hx hb dX1_clash_27 rfl (lv_at hl 0 rfl) ?_
      refine y_get hx hb hts i_X1 hown hK hH (qMi_ob w0) rfl 13 (by decide) f36 rfl dX1_clash_28 ?_
      refine lv_iload_n hx hb dX1_clash_31 rfl (lv_at hl 1 rfl) ?_
      refine y_iald hx hb hK hH (qMi_a9 w0) h dX1_clash_32 (fun v4 h => ?_)
      refine lv_aload_n hx hb dX1_clash_33 rfl (lv_at hl 0 rfl) ?_
      refine y_get hx hb hts i_X1 hown hK hH (qMi_ob w0) rfl 13 (by decide) f36 rfl dX1_clash_34 ?_
      refine lv_iload_n hx hb dX1_clash_37 rfl (lv_at hl 2 rfl) ?_
      refine y_iald hx hb hK hH (qMi_a9 w0) h dX1_clash_38 (fun v5 h => ?_)
      refine lv_isub hx hb dX1_clash_39 ?_
      refine va_mabs hx hb (hml.trans hl.1.symm) hown ml93 ms_abs mi mc_abs (Nat.le_of_ble_eq_true rfl) (Nat.le_of_ble_eq_true rfl) (Nat.zero_le _) (Nat.zero_le _) dX1_clash_40 ?_
      refine lv_topi (fun v6 ev6 => ?_)
      have h := qOk.v h ev6
      refine lv_istore_n (lv' := [(3, .int v6), (0, .ref (ad b0)), (1, .int x1), (2, .int x2)]) hx hb dX1_clash_43 rfl hl (by decide) rfl (fun ls hl => ?_)
      refine lv_iload_n hx hb dX1_clash_44 rfl (lv_at hl 0 rfl) ?_
      refine lv_iconst (v := 3) hx hb dX1_clash_45 (by decide) ?_
      refine qj1 (G := fun (v7 : Int32) => W p l e (headSpec wsX1_clash rm_X1_clash).room s m [.ref (ad b0), .int x1, .int x2].toArray below meth c s.heap [] 0 0 (MQ below (vp_Si P) [.ref (ad b0), .int x1, .int x2].toArray s 0 0 (fun _ => False)) (F0 m 59 ls [.int v7])) h ?_ ?_
      rotate_left
      · intro h
        refine lv_icmp_eq (tgt := 54) hx hb dX1_clash_46 (by decide) (fun hc => ?_) (fun hc => ?_)
        · have h := qOk.t hc h
          refine lv_iconst (v := 1) hx hb dX1_clash_54 (by decide) ?_
          refine lv_goto (tgt := 59) hx hb dX1_clash_55 (by decide) ?_
          have h := qOk.s h
          exact h
        · have h := qOk.f hc h
          refine lv_iload_n hx hb dX1_clash_49 rfl (lv_at hl 0 rfl) ?_
          refine lv_iconst (v := 4) hx hb dX1_clash_50 (by decide) ?_
          refine lv_icmp_ne (tgt := 58) hx hb dX1_clash_51 (by decide) (fun hc => ?_) (fun hc => ?_)
          · have h := qOk.f hc h
            refine lv_iconst (v := 0) hx hb dX1_clash_58 (by decide) ?_
            have h := qOk.s h
            exact h
          · have h := qOk.t hc h
            refine lv_iconst (v := 1) hx hb dX1_clash_54 (by decide) ?_
            refine lv_goto (tgt := 59) hx hb dX1_clash_55 (by decide) ?_
            have h := qOk.s h
            exact h
      intro v7 h
      obtain ⟨hbn, h⟩ := qOk.bl h
      exact W.zret hx hb hr (qnarb hbn) (fun t ht _ => ⟨_, rfl, qOk.s h, ht⟩) (fun _ hq => by cases hq) dX1_clash_59
    · have h := qOk.t hc h
      refine lv_iconst (v := 0) hx hb dX1_clash_25 (by decide) ?_
      exact W.zret hx hb hr rfl (fun t ht _ => ⟨_, rfl, qOk.s h, ht⟩) (fun _ hq => by cases hq) dX1_clash_26
abbrev rm_X1_isTakenOut : Room := { frames := 2, cells := 0, slots := 0, locals := 45 }
set_option maxHeartbeats 4000000 in
set_option maxRecDepth 100000 in
theorem c_X1_isTakenOut (l : Launch) (G : qG) (ad : Nat → Nat) (hI : qI W1N ad) (M : qM) (sz : Nat) {b0 : Nat} (w0 : qMi b0) (x1 : Int32) {P : Int32 → Prop} (h : qOk (kX1_isTakenOut b0 M x1) P) : Met l yX1_isTakenOut wsX1_isTakenOut rm_X1_isTakenOut (va_Pc [.ref (ad b0), .int x1] (qPre W1N e1 G ad M sz)) (vp_Si P) 0 0 (fun _ => False) := by
  refine Met.ofW (cc := cX1_isTakenOut) (maxL := 3) (ret := (some .boolean)) (by decide) rfl ?_
  intro p e s m args below meth c s₁ B hml hv
  obtain ⟨rfl, hsz, hK, hP⟩ := hv
  subst hsz
  have hx := B.exec
  have hb := B.bytes
  have hr := B.returns
  have hts := atoms_spec (ws := wsX1_isTakenOut) B.pre
  have hown : s.vm.findClass RX1 = some m.cls := findClass_of_methodNamed B.named
  have hlocks := B.notSynchronized
  have hH : qHS W1N e1 G ad M s.heap s.heap [] := ⟨hP, va_S.rf⟩
  have f51 : (Cond.fieldLink RX1 51 "SongLamps$Mine" "gas" "I").before [.ref (ad b0), .int x1].toArray s = true := hts _ (by decide +kernel)
  have i_X1 : ∀ w ∈ wsX10, w ∈ wsX1_isTakenOut := fun w hw => List.mem_cons_of_mem _ ((List.mem_append_right _ hw))
  have f33 : (Cond.fieldLink RX1 33 "SongLamps$Mine" "place" "[I").before [.ref (ad b0), .int x1].toArray s = true := hts _ (by decide +kernel)
  have nS_X7_has : (Cond.static yX7_has).before [.ref (ad b0), .int x1].toArray s = true := hts _ (by decide +kernel)
  have nI_X7 : (Cond.initialized RX7).before [.ref (ad b0), .int x1].toArray s = true := hts _ (by decide +kernel)
  have hl := lv_entry ([.ref (ad b0), .int x1]) (n := 3) (Nat.le_of_ble_eq_true rfl)
  rw [lg_entry_eq]
  generalize (lg_sl ([.ref (ad b0), .int x1]) ++ List.replicate (3 - (lg_sl ([.ref (ad b0), .int x1])).length) Slot.unset).toArray = ls at hl ⊢
  have hl : lv_has ls 3 [(0, .ref (ad b0)), (1, .int x1)] := hl
  have h : qOk (kX1_isTakenOut b0 M x1) _ := h
  unfold kX1_isTakenOut at h
  refine lv_aload_n hx hb dX1_isTakenOut_0 rfl (lv_at hl 0 rfl) ?_
  refine y_get hx hb hts i_X1 hown hK hH (qMi_ob w0) rfl 3 (by decide) f51 rfl dX1_isTakenOut_1 ?_
  refine lv_aload_n hx hb dX1_isTakenOut_4 rfl (lv_at hl 0 rfl) ?_
  refine y_get hx hb hts i_X1 hown hK hH (qMi_ob w0) rfl 12 (by decide) f33 rfl dX1_isTakenOut_5 ?_
  refine lv_iload_n hx hb dX1_isTakenOut_8 rfl (lv_at hl 1 rfl) ?_
  refine y_iald hx hb hK hH (qMi_a8 w0) h dX1_isTakenOut_9 (fun v1 h => ?_)
  refine y_cs (va_runSN (host := "SongLamps") (As := [.int (M b0 3), .int v1]) (rest := []) ⟨hx, hb, hml, hown, hts⟩ (c_X7_has l (M b0 3) v1 (qOk.b1 h)) ⟨va_cnB 2 hts gX1_isTakenOut_X7_has_n83 rfl rfl rfl (hK.2 (RX1, 83, yX7_has, "SongLamps") (List.mem_of_getElem? (i := 1) rfl)) nI_X7 (by decide +kernel) ⟨Nat.le_of_ble_eq_true rfl, Nat.le_of_ble_eq_true rfl⟩, nS_X7_has, trivial⟩ ⟨qPrT.blind, qPrT.at⟩ rfl rfl hl.1 rfl (lv_room (Nat.le_of_ble_eq_true rfl)) dX1_isTakenOut_10 ⟨Nat.zero_le _, Nat.zero_le _⟩) (fun v2 h => ?_)
  refine lv_if_ne (tgt := 18) hx hb dX1_isTakenOut_13 (by decide) (fun hc => ?_) (fun hc => ?_)
  · have h := qOk.f hc h
    refine lv_iconst (v := 0) hx hb dX1_isTakenOut_18 (by decide) ?_
    refine lv_istore_n (lv' := [(2, .int 0), (0, .ref (ad b0)), (1, .int x1)]) hx hb dX1_isTakenOut_19 rfl hl (by decide) rfl (fun ls hl => ?_)
    refine qjx0 (G := ∀ ls : Array Slot, lv_has ls 3 [] → W p l e (headSpec wsX1_isTakenOut rm_X1_isTakenOut).room s m [.ref (ad b0), .int x1].toArray below meth c s.heap [] 0 0 (MQ below (vp_Si P) [.ref (ad b0), .int x1].toArray s 0 0 (fun _ => False)) (F0 m 43 ls [])) h ?_ ?_
    rotate_left
    · intro h
      refine qloop1 (I := fun (v3 : Int32) => ∀ ls : Array Slot, lv_has ls 3 [(0, .ref (ad b0)), (1, .int x1), (2, .int v3)] → W p l e (headSpec wsX1_isTakenOut rm_X1_isTakenOut).room s m [.ref (ad b0), .int x1].toArray below meth c s.heap [] 0 0 (MQ below (vp_Si P) [.ref (ad b0), .int x1].toArray s 0 0 (fun _ => False)) (F0 m 20 ls [])) ?_ h _ (lv_sub hl [1, 2, 0] rfl)
      intro v3 h ls hl
      have h : qOk (kX1_isTakenOut_L20 b0 M x1 v3) _ := h
      unfold kX1_isTakenOut_L20 at h
      refine lv_iload_n hx hb dX1_isTakenOut_20 rfl (lv_at hl 2 rfl) ?_
      refine lv_bipush (v := 8) hx hb dX1_isTakenOut_21 (by decide) ?_
      refine lv_icmp_ge (tgt := 43) hx hb dX1_isTakenOut_23 (by decide) (fun hc => ?_) (fun hc => ?_)
      · have h := qOk.t hc h
        exact qOk.lx h _ (lv_sub hl [] rfl)
      · have h := qOk.f hc h
        refine lv_aload_n hx hb dX1_isTakenOut_26 rfl (lv_at hl 0 rfl) ?_
        refine lv_iload_n hx hb dX1_isTakenOut_27 rfl (lv_at hl 1 rfl) ?_
        refine lv_iload_n hx hb dX1_isTakenOut_28 rfl (lv_at hl 2 rfl) ?_
        refine y_cs (va_runV (As := [.int x1, .int v3]) (rest := []) ⟨hx, hb, hml, hown, hts⟩ (c_X1_clash l G ad hI M _ w0 x1 v3 (qOk.b1 h)) (cwV 2 hts gX1_isTakenOut_X1_clash rfl rfl rfl (by decide +kernel) ⟨Nat.le_of_ble_eq_true rfl, Nat.le_of_ble_eq_true rfl⟩) ⟨qPre.blind, qrecv hK hH (qMi_ob w0) rfl, qPre.at hK hH⟩ rfl rfl hl.1 rfl (lv_room (Nat.le_of_ble_eq_true rfl)) dX1_isTakenOut_29 ⟨Nat.zero_le _, Nat.zero_le _⟩) (fun v4 h => ?_)
        refine lv_if_eq (tgt := 37) hx hb dX1_isTakenOut_32 (by decide) (fun hc => ?_) (fun hc => ?_)
        · have h := qOk.t hc h
          obtain ⟨v5, ev5⟩ : ∃ y : Int32, y = v3 + 1 := ⟨_, rfl⟩
          have h := qOk.v h ev5
          refine lv_iinc (v := v5) (lv' := [(2, .int v5), (0, .ref (ad b0)), (1, .int x1)]) hx hb dX1_isTakenOut_37 hl (k := 2) rfl (by rw [ev5]; rfl) (by decide) rfl (fun ls hl => ?_)
          refine lv_goto (tgt := 20) hx hb dX1_isTakenOut_40 (by decide) ?_
          exact qOk.li h _ (lv_sub hl [1, 2, 0] rfl)
        · have h := qOk.f hc h
          refine lv_iconst (v := 1) hx hb dX1_isTakenOut_35 (by decide) ?_
          have h := qOk.lr h
          exact W.zret hx hb hr rfl (fun t ht _ => ⟨_, rfl, qOk.s h, ht⟩) (fun _ hq => by cases hq) dX1_isTakenOut_36
    intro  h ls hl
    refine lv_iconst (v := 0) hx hb dX1_isTakenOut_43 (by decide) ?_
    exact W.zret hx hb hr rfl (fun t ht _ => ⟨_, rfl, qOk.s h, ht⟩) (fun _ hq => by cases hq) dX1_isTakenOut_44
  · have h := qOk.t hc h
    refine lv_iconst (v := 0) hx hb dX1_isTakenOut_16 (by decide) ?_
    exact W.zret hx hb hr rfl (fun t ht _ => ⟨_, rfl, qOk.s h, ht⟩) (fun _ hq => by cases hq) dX1_isTakenOut_17
abbrev rm_X0_shineOn : Room := { frames := 3, cells := 0, slots := 0, locals := 67 }
set_option maxHeartbeats 4000000 in
set_option maxRecDepth 100000 in
theorem c_X0_shineOn (l : Launch) (G : qG) (ad : Nat → Nat) (hI : qI W1N ad) (M : qM) (sz : Nat) {b0 : Nat} (w0 : qLa b0) {b1 : Nat} (w1 : qMi b1) {P : qM → Prop} (h : qOk (kX0_shineOn b0 M b1) P) : Met l yX0_shineOn wsX0_shineOn rm_X0_shineOn (va_Pc [.ref (ad b0), .ref (ad b1)] (qPre W1N e1 G ad M sz)) (va_Qv P (fun u t => qHp W1N e1 G ad u t.heap) (qA W1N ad sz)) 0 0 (qA W1N ad sz) := by
  refine Met.ofW (cc := cX0_shineOn) (maxL := 4) (ret := none) (by decide) rfl ?_
  intro p e s m args below meth c s₁ B hml hv
  obtain ⟨rfl, hsz, hK, hP⟩ := hv
  subst hsz
  have hx := B.exec
  have hb := B.bytes
  have hr := B.returns
  have hts := atoms_spec (ws := wsX0_shineOn) B.pre
  have hown : s.vm.findClass RX0 = some m.cls := findClass_of_methodNamed B.named
  have hlocks := B.notSynchronized
  have hH : qHS W1N e1 G ad M s.heap s.heap [] := ⟨hP, va_S.rf⟩
  have f9 : (Cond.fieldLink RX0 9 "SongLamps$Lamps" "plain" "[I").before [.ref (ad b0), .ref (ad b1)].toArray s = true := hts _ (by decide +kernel)
  have i_X0 : ∀ w ∈ wsX00, w ∈ wsX0_shineOn := fun w hw => List.mem_cons_of_mem _ ((List.mem_append_left _ (List.mem_append_right _ hw)))
  have f33 : (Cond.fieldLink RX0 33 "SongLamps$Mine" "place" "[I").before [.ref (ad b0), .ref (ad b1)].toArray s = true := hts _ (by decide +kernel)
  have i_X1 : ∀ w ∈ wsX10, w ∈ wsX0_shineOn := fun w hw => List.mem_cons_of_mem _ ((List.mem_append_right _ hw))
  have f36 : (Cond.fieldLink RX0 36 "SongLamps$Mine" "note" "[I").before [.ref (ad b0), .ref (ad b1)].toArray s = true := hts _ (by decide +kernel)
  have ml39 : (Cond.methodLink RX0 39 Lib.Math.max.name).before [.ref (ad b0), .ref (ad b1)].toArray s = true := hts _ (by decide +kernel)
  have ms_max : (Cond.static Lib.Math.max.name).before [.ref (ad b0), .ref (ad b1)].toArray s = true := hts _ (by decide +kernel)
  have mi : (Cond.initialized "java/lang/Math").before [.ref (ad b0), .ref (ad b1)].toArray s = true := hts _ (by decide +kernel)
  have mc_max : (Cond.code Lib.Math.max.name Lib.Math.max.code 2 (some .int)).before [.ref (ad b0), .ref (ad b1)].toArray s = true := hts _ (by decide +kernel)
  have f15 : (Cond.fieldLink RX0 15 "SongLamps$Lamps" "full" "[I").before [.ref (ad b0), .ref (ad b1)].toArray s = true := hts _ (by decide +kernel)
  have ml45 : (Cond.methodLink RX0 45 arraycopyName).before [.ref (ad b0), .ref (ad b1)].toArray s = true := hts _ (by decide +kernel)
  have an : (Cond.native arraycopyName).before [.ref (ad b0), .ref (ad b1)].toArray s = true := hts _ (by decide +kernel)
  have as : (Cond.static arraycopyName).before [.ref (ad b0), .ref (ad b1)].toArray s = true := hts _ (by decide +kernel)
  have ai : (Cond.initialized "java/lang/System").before [.ref (ad b0), .ref (ad b1)].toArray s = true := hts _ (by decide +kernel)
  have f51 : (Cond.fieldLink RX0 51 "SongLamps$Mine" "echo" "[I").before [.ref (ad b0), .ref (ad b1)].toArray s = true := hts _ (by decide +kernel)
  have f54 : (Cond.fieldLink RX0 54 "SongLamps$Lamps" "burning" "I").before [.ref (ad b0), .ref (ad b1)].toArray s = true := hts _ (by decide +kernel)
  have hl := lv_entry ([.ref (ad b0), .ref (ad b1)]) (n := 4) (Nat.le_of_ble_eq_true rfl)
  rw [lg_entry_eq]
  generalize (lg_sl ([.ref (ad b0), .ref (ad b1)]) ++ List.replicate (4 - (lg_sl ([.ref (ad b0), .ref (ad b1)])).length) Slot.unset).toArray = ls at hl ⊢
  have hl : lv_has ls 4 [(0, .ref (ad b0)), (1, .ref (ad b1))] := hl
  have h : qOk (kX0_shineOn b0 M b1) _ := h
  unfold kX0_shineOn at h
  refine lv_aload_n hx hb dX0_shineOn_0 rfl (lv_at hl 0 rfl) ?_
  refine y_get hx hb hts i_X0 hown hK hH (qLa_ob w0) rfl 0 (by decide) f9 rfl dX0_shineOn_1 ?_
  refine lv_iconst (v := 0) hx hb dX0_shineOn_4 (by decide) ?_
  refine y_cv hH (va_runS (As := [.ref (ad (b0 + 1)), .int 0]) (rest := []) ⟨hx, hb, hml, hown, hts⟩ (c_J7_fill_53178 l G ad hI M _ (qLa_a1 w0) 0 (qOk.b1 h)) (va_cwS 2 hts gX0_shineOn_J7_fill_53178 rfl rfl rfl (by decide +kernel) ⟨Nat.le_of_ble_eq_true rfl, Nat.le_of_ble_eq_true rfl⟩) ⟨qPre.blind, qPre.at hK hH⟩ rfl rfl hl.1 rfl (lv_room (Nat.le_of_ble_eq_true rfl)) dX0_shineOn_5 ⟨Nat.zero_le _, Nat.zero_le _⟩) (fun M1 H locs hH h => ?_)
  refine lv_iconst (v := 0) hx hb dX0_shineOn_8 (by decide) ?_
  refine lv_istore_n (lv' := [(2, .int 0), (0, .ref (ad b0)), (1, .ref (ad b1))]) hx hb dX0_shineOn_9 rfl hl (by decide) rfl (fun ls hl => ?_)
  refine qj1 (G := fun (M4 : qM) => ∀ (H : Heap) (locs : List Loc), qHS W1N e1 G ad M4 s.heap H locs → ∀ ls : Array Slot, lv_has ls 4 [(0, .ref (ad b0)), (1, .ref (ad b1))] → W p l e (headSpec wsX0_shineOn rm_X0_shineOn).room s m [.ref (ad b0), .ref (ad b1)].toArray below meth c H locs 0 0 (MQ below (va_Qv P (fun u t => qHp W1N e1 G ad u t.heap) (qA W1N ad s.heap.size)) [.ref (ad b0), .ref (ad b1)].toArray s 0 0 (qA W1N ad s.heap.size)) (F0 m 68 ls [])) h ?_ ?_
  rotate_left
  · intro h
    refine qloop2 (I := fun (v2 : Int32) (M3 : qM) => ∀ (H : Heap) (locs : List Loc), qHS W1N e1 G ad M3 s.heap H locs → ∀ ls : Array Slot, lv_has ls 4 [(0, .ref (ad b0)), (1, .ref (ad b1)), (2, .int v2)] → W p l e (headSpec wsX0_shineOn rm_X0_shineOn).room s m [.ref (ad b0), .ref (ad b1)].toArray below meth c H locs 0 0 (MQ below (va_Qv P (fun u t => qHp W1N e1 G ad u t.heap) (qA W1N ad s.heap.size)) [.ref (ad b0), .ref (ad b1)].toArray s 0 0 (qA W1N ad s.heap.size)) (F0 m 10 ls [])) ?_ h _ _ hH _ (lv_sub hl [1, 2, 0] rfl)
    intro v2 M3 h H locs hH ls hl
    have h : qOk (kX0_shineOn_L10 b1 b0 v2 M3) _ := h
    unfold kX0_shineOn_L10 at h
    refine lv_iload_n hx hb dX0_shineOn_10 rfl (lv_at hl 2 rfl) ?_
    refine lv_bipush (v := 8) hx hb dX0_shineOn_11 (by decide) ?_
    refine lv_icmp_ge (tgt := 68) hx hb dX0_shineOn_13 (by decide) (fun hc => ?_) (fun hc => ?_)
    · have h := qOk.t hc h
      exact qOk.le h _ _ hH _ (lv_sub hl [0, 1] rfl)
    · have h := qOk.f hc h
      refine lv_aload_n hx hb dX0_shineOn_16 rfl (lv_at hl 1 rfl) ?_
      refine lv_iload_n hx hb dX0_shineOn_17 rfl (lv_at hl 2 rfl) ?_
      refine y_cs (va_runV (As := [.int v2]) (rest := []) ⟨hx, hb, hml, hown, hts⟩ (c_X1_isSinging l G ad hI M3 _ w1 v2 (qOk.b1 h)) (cwV 1 hts gX0_shineOn_X1_isSinging rfl rfl rfl (by decide +kernel) ⟨Nat.le_of_ble_eq_true rfl, Nat.le_of_ble_eq_true rfl⟩) ⟨qPre.blind, qrecv hK hH (qMi_ob w1) rfl, qPre.at hK hH⟩ rfl rfl hl.1 rfl (lv_room (Nat.le_of_ble_eq_true rfl)) dX0_shineOn_18 ⟨Nat.zero_le _, Nat.zero_le _⟩) (fun v5 h => ?_)
      refine qj1 (G := fun (M6 : qM) => ∀ (H : Heap) (locs : List Loc), qHS W1N e1 G ad M6 s.heap H locs → ∀ ls : Array Slot, lv_has ls 4 [(0, .ref (ad b0)), (1, .ref (ad b1)), (2, .int v2)] → W p l e (headSpec wsX0_shineOn rm_X0_shineOn).room s m [.ref (ad b0), .ref (ad b1)].toArray below meth c H locs 0 0 (MQ below (va_Qv P (fun u t => qHp W1N e1 G ad u t.heap) (qA W1N ad s.heap.size)) [.ref (ad b0), .ref (ad b1)].toArray s 0 0 (qA W1N ad s.heap.size)) (F0 m 62 ls [])) h ?_ ?_
      rotate_left
      · intro h
        refine lv_if_eq (tgt := 62) hx hb dX0_shineOn_21 (by decide) (fun hc => ?_) (fun hc => ?_)
        · have h := qOk.t hc h
          have h := qOk.s h
          exact h _ _ hH _ (lv_sub hl [0, 1, 2] rfl)
        · have h := qOk.f hc h
          refine lv_aload_n hx hb dX0_shineOn_24 rfl (lv_at hl 1 rfl) ?_
          refine lv_iload_n hx hb dX0_shineOn_25 rfl (lv_at hl 2 rfl) ?_
          refine y_cs (va_runV (As := [.int v2]) (rest := []) ⟨hx, hb, hml, hown, hts⟩ (c_X1_isTakenOut l G ad hI M3 _ w1 v2 (qOk.b1 h)) (cwV 1 hts gX0_shineOn_X1_isTakenOut rfl rfl rfl (by decide +kernel) ⟨Nat.le_of_ble_eq_true rfl, Nat.le_of_ble_eq_true rfl⟩) ⟨qPre.blind, qrecv hK hH (qMi_ob w1) rfl, qPre.at hK hH⟩ rfl rfl hl.1 rfl (lv_room (Nat.le_of_ble_eq_true rfl)) dX0_shineOn_26 ⟨Nat.zero_le _, Nat.zero_le _⟩) (fun v7 h => ?_)
          refine lv_if_ne (tgt := 62) hx hb dX0_shineOn_29 (by decide) (fun hc => ?_) (fun hc => ?_)
          · have h := qOk.f hc h
            have h := qOk.s h
            exact h _ _ hH _ (lv_sub hl [0, 1, 2] rfl)
          · have h := qOk.t hc h
            refine lv_aload_n hx hb dX0_shineOn_32 rfl (lv_at hl 1 rfl) ?_
            refine y_get hx hb hts i_X1 hown hK hH (qMi_ob w1) rfl 12 (by decide) f33 rfl dX0_shineOn_33 ?_
            refine lv_iload_n hx hb dX0_shineOn_36 rfl (lv_at hl 2 rfl) ?_
            refine y_iald hx hb hK hH (qMi_a8 w1) h dX0_shineOn_37 (fun v8 h => ?_)
            refine lv_istore_n (lv' := [(3, .int v8), (0, .ref (ad b0)), (1, .ref (ad b1)), (2, .int v2)]) hx hb dX0_shineOn_38 rfl hl (by decide) rfl (fun ls hl => ?_)
            refine lv_aload_n hx hb dX0_shineOn_39 rfl (lv_at hl 1 rfl) ?_
            refine y_get hx hb hts i_X0 hown hK hH (qLa_ob w0) rfl 0 (by decide) f9 rfl dX0_shineOn_40 ?_
            refine lv_iload_n hx hb dX0_shineOn_43 rfl (lv_at hl 0 rfl) ?_
            refine lv_aload_n hx hb dX0_shineOn_44 rfl (lv_at hl 1 rfl) ?_
            refine y_get hx hb hts i_X0 hown hK hH (qLa_ob w0) rfl 0 (by decide) f9 rfl dX0_shineOn_45 ?_
            refine lv_iload_n hx hb dX0_shineOn_48 rfl (lv_at hl 0 rfl) ?_
            refine y_iald hx hb hK hH (qLa_a1 w0) h dX0_shineOn_49 (fun v9 h => ?_)
            refine lv_iconst (v := 1) hx hb dX0_shineOn_50 (by decide) ?_
            refine lv_aload_n hx hb dX0_shineOn_51 rfl (lv_at hl 2 rfl) ?_
            refine y_get hx hb hts i_X1 hown hK hH (qMi_ob w1) rfl 13 (by decide) f36 rfl dX0_shineOn_52 ?_
            refine lv_iload_n hx hb dX0_shineOn_55 rfl (lv_at hl 3 rfl) ?_
            refine y_iald hx hb hK hH (qMi_a9 w1) h dX0_shineOn_56 (fun v10 h => ?_)
            refine lv_iadd hx hb dX0_shineOn_57 ?_
            refine va_mmax hx hb (hml.trans hl.1.symm) hown ml39 ms_max mi mc_max (Nat.le_of_ble_eq_true rfl) (Nat.le_of_ble_eq_true rfl) (Nat.zero_le _) (Nat.zero_le _) dX0_shineOn_58 ?_
            refine y_iast hx hb hK hI hH (qLa_a1 w0) h dX0_shineOn_61 (fun M11 H locs hH h => ?_)
            have h := qOk.s h
            exact h _ _ hH _ (lv_sub hl [1, 2, 3] rfl)
      intro M6 h H locs hH ls hl
      obtain ⟨v12, ev12⟩ : ∃ y : Int32, y = v2 + 1 := ⟨_, rfl⟩
      have h := qOk.v h ev12
      refine lv_iinc (v := v12) (lv' := [(2, .int v12), (0, .ref (ad b0)), (1, .ref (ad b1))]) hx hb dX0_shineOn_62 hl (k := 2) rfl (by rw [ev12]; rfl) (by decide) rfl (fun ls hl => ?_)
      refine lv_goto (tgt := 10) hx hb dX0_shineOn_65 (by decide) ?_
      exact qOk.li h _ _ hH _ (lv_sub hl [1, 2, 0] rfl)
  intro M4 h H locs hH ls hl
  refine lv_aload_n hx hb dX0_shineOn_68 rfl (lv_at hl 0 rfl) ?_
  refine y_get hx hb hts i_X0 hown hK hH (qLa_ob w0) rfl 0 (by decide) f9 rfl dX0_shineOn_69 ?_
  refine lv_iconst (v := 0) hx hb dX0_shineOn_72 (by decide) ?_
  refine lv_aload_n hx hb dX0_shineOn_73 rfl (lv_at hl 0 rfl) ?_
  refine y_get hx hb hts i_X0 hown hK hH (qLa_ob w0) rfl 1 (by decide) f15 rfl dX0_shineOn_74 ?_
  refine lv_iconst (v := 0) hx hb dX0_shineOn_77 (by decide) ?_
  refine lv_bipush (v := 10) hx hb dX0_shineOn_78 (by decide) ?_
  refine y_copy hx hb (hml.trans hl.1.symm) hown ml45 an as ai hK hI hH (qLa_a1 w0) (qLa_a2 w0) (by decide) (by decide) h (Nat.le_of_ble_eq_true rfl) (Nat.le_of_ble_eq_true rfl) dX0_shineOn_80 (fun M13 H locs hH h => ?_)
  refine lv_iconst (v := 0) hx hb dX0_shineOn_83 (by decide) ?_
  refine lv_istore_n (lv' := [(2, .int 0), (0, .ref (ad b0)), (1, .ref (ad b1))]) hx hb dX0_shineOn_84 rfl hl (by decide) rfl (fun ls hl => ?_)
  refine qj1 (G := fun (M16 : qM) => ∀ (H : Heap) (locs : List Loc), qHS W1N e1 G ad M16 s.heap H locs → ∀ ls : Array Slot, lv_has ls 4 [(0, .ref (ad b0))] → W p l e (headSpec wsX0_shineOn rm_X0_shineOn).room s m [.ref (ad b0), .ref (ad b1)].toArray below meth c H locs 0 0 (MQ below (va_Qv P (fun u t => qHp W1N e1 G ad u t.heap) (qA W1N ad s.heap.size)) [.ref (ad b0), .ref (ad b1)].toArray s 0 0 (qA W1N ad s.heap.size)) (F0 m 127 ls [])) h ?_ ?_
  rotate_left
  · intro h
    refine qloop2 (I := fun (v14 : Int32) (M15 : qM) => ∀ (H : Heap) (locs : List Loc), qHS W1N e1 G ad M15 s.heap H locs → ∀ ls : Array Slot, lv_has ls 4 [(0, .ref (ad b0)), (1, .ref (ad b1)), (2, .int v14)] → W p l e (headSpec wsX0_shineOn rm_X0_shineOn).room s m [.ref (ad b0), .ref (ad b1)].toArray below meth c H locs 0 0 (MQ below (va_Qv P (fun u t => qHp W1N e1 G ad u t.heap) (qA W1N ad s.heap.size)) [.ref (ad b0), .ref (ad b1)].toArray s 0 0 (qA W1N ad s.heap.size)) (F0 m 85 ls [])) ?_ h _ _ hH _ (lv_sub hl [1, 2, 0] rfl)
    intro v14 M15 h H locs hH ls hl
    have h : qOk (kX0_shineOn_L85 b1 b0 v14 M15) _ := h
    unfold kX0_shineOn_L85 at h
    refine lv_iload_n hx hb dX0_shineOn_85 rfl (lv_at hl 2 rfl) ?_
    refine lv_bipush (v := 10) hx hb dX0_shineOn_86 (by decide) ?_
    refine lv_icmp_ge (tgt := 127) hx hb dX0_shineOn_88 (by decide) (fun hc => ?_) (fun hc => ?_)
    · have h := qOk.t hc h
      exact qOk.le h _ _ hH _ (lv_sub hl [0] rfl)
    · have h := qOk.f hc h
      refine lv_aload_n hx hb dX0_shineOn_91 rfl (lv_at hl 1 rfl) ?_
      refine y_get hx hb hts i_X1 hown hK hH (qMi_ob w1) rfl 1 (by decide) f51 rfl dX0_shineOn_92 ?_
      refine lv_iload_n hx hb dX0_shineOn_95 rfl (lv_at hl 2 rfl) ?_
      refine y_iald hx hb hK hH (qMi_a2 w1) h dX0_shineOn_96 (fun v17 h => ?_)
      refine lv_istore_n (lv' := [(3, .int v17), (0, .ref (ad b0)), (1, .ref (ad b1)), (2, .int v14)]) hx hb dX0_shineOn_97 rfl hl (by decide) rfl (fun ls hl => ?_)
      refine lv_aload_n hx hb dX0_shineOn_98 rfl (lv_at hl 1 rfl) ?_
      refine y_get hx hb hts i_X0 hown hK hH (qLa_ob w0) rfl 1 (by decide) f15 rfl dX0_shineOn_99 ?_
      refine lv_iload_n hx hb dX0_shineOn_102 rfl (lv_at hl 0 rfl) ?_
      refine lv_aload_n hx hb dX0_shineOn_103 rfl (lv_at hl 1 rfl) ?_
      refine y_get hx hb hts i_X0 hown hK hH (qLa_ob w0) rfl 1 (by decide) f15 rfl dX0_shineOn_104 ?_
      refine lv_iload_n hx hb dX0_shineOn_107 rfl (lv_at hl 0 rfl) ?_
      refine y_iald hx hb hK hH (qLa_a2 w0) h dX0_shineOn_108 (fun v18 h => ?_)
      refine lv_aload_n hx hb dX0_shineOn_109 rfl (lv_at hl 1 rfl) ?_
      refine y_get hx hb hts i_X0 hown hK hH (qLa_ob w0) rfl 0 (by decide) f9 rfl dX0_shineOn_110 ?_
      refine lv_iload_n hx hb dX0_shineOn_113 rfl (lv_at hl 3 rfl) ?_
      refine y_iald hx hb hK hH (qLa_a1 w0) h dX0_shineOn_114 (fun v19 h => ?_)
      refine lv_iconst (v := 2) hx hb dX0_shineOn_115 (by decide) ?_
      refine lv_idiv hx hb dX0_shineOn_116 (by decide) ?_
      refine va_mmax hx hb (hml.trans hl.1.symm) hown ml39 ms_max mi mc_max (Nat.le_of_ble_eq_true rfl) (Nat.le_of_ble_eq_true rfl) (Nat.zero_le _) (Nat.zero_le _) dX0_shineOn_117 ?_
      refine y_iast hx hb hK hI hH (qLa_a2 w0) h dX0_shineOn_120 (fun M20 H locs hH h => ?_)
      obtain ⟨v21, ev21⟩ : ∃ y : Int32, y = v14 + 1 := ⟨_, rfl⟩
      have h := qOk.v h ev21
      refine lv_iinc (v := v21) (lv' := [(2, .int v21), (3, .int v17), (0, .ref (ad b0)), (1, .ref (ad b1))]) hx hb dX0_shineOn_121 hl (k := 3) rfl (by rw [ev21]; rfl) (by decide) rfl (fun ls hl => ?_)
      refine lv_goto (tgt := 85) hx hb dX0_shineOn_124 (by decide) ?_
      exact qOk.li h _ _ hH _ (lv_sub hl [2, 3, 0] rfl)
  intro M16 h H locs hH ls hl
  refine lv_aload_n hx hb dX0_shineOn_127 rfl (lv_at hl 0 rfl) ?_
  refine lv_iconst (v := 0) hx hb dX0_shineOn_128 (by decide) ?_
  refine y_put hx hb hts i_X0 tyX0 tyX0_ok nmX0 hown hK hI hH (qLa_ob w0) rfl 2 (by decide) f54 rfl (by decide +kernel) (Nat.le_of_ble_eq_true rfl) (fun _ => rfl) h dX0_shineOn_129 (fun M22 H locs hH h => ?_)
  refine lv_iconst (v := 0) hx hb dX0_shineOn_132 (by decide) ?_
  refine lv_istore_n (lv' := [(2, .int 0), (0, .ref (ad b0))]) hx hb dX0_shineOn_133 rfl hl (by decide) rfl (fun ls hl => ?_)
  refine qj1 (G := fun (M25 : qM) => ∀ (H : Heap) (locs : List Loc), qHS W1N e1 G ad M25 s.heap H locs → ∀ ls : Array Slot, lv_has ls 4 [] → W p l e (headSpec wsX0_shineOn rm_X0_shineOn).room s m [.ref (ad b0), .ref (ad b1)].toArray below meth c H locs 0 0 (MQ below (va_Qv P (fun u t => qHp W1N e1 G ad u t.heap) (qA W1N ad s.heap.size)) [.ref (ad b0), .ref (ad b1)].toArray s 0 0 (qA W1N ad s.heap.size)) (F0 m 171 ls [])) h ?_ ?_
  rotate_left
  · intro h
    refine qloop2 (I := fun (v23 : Int32) (M24 : qM) => ∀ (H : Heap) (locs : List Loc), qHS W1N e1 G ad M24 s.heap H locs → ∀ ls : Array Slot, lv_has ls 4 [(0, .ref (ad b0)), (2, .int v23)] → W p l e (headSpec wsX0_shineOn rm_X0_shineOn).room s m [.ref (ad b0), .ref (ad b1)].toArray below meth c H locs 0 0 (MQ below (va_Qv P (fun u t => qHp W1N e1 G ad u t.heap) (qA W1N ad s.heap.size)) [.ref (ad b0), .ref (ad b1)].toArray s 0 0 (qA W1N ad s.heap.size)) (F0 m 134 ls [])) ?_ h _ _ hH _ (lv_sub hl [1, 0] rfl)
    intro v23 M24 h H locs hH ls hl
    have h : qOk (kX0_shineOn_L134 b0 v23 M24) _ := h
    unfold kX0_shineOn_L134 at h
    refine lv_iload_n hx hb dX0_shineOn_134 rfl (lv_at hl 1 rfl) ?_
    refine lv_bipush (v := 10) hx hb dX0_shineOn_135 (by decide) ?_
    refine lv_icmp_ge (tgt := 171) hx hb dX0_shineOn_137 (by decide) (fun hc => ?_) (fun hc => ?_)
    · have h := qOk.t hc h
      exact qOk.le h _ _ hH _ (lv_sub hl [] rfl)
    · have h := qOk.f hc h
      refine lv_aload_n hx hb dX0_shineOn_140 rfl (lv_at hl 0 rfl) ?_
      refine lv_dup hx hb dX0_shineOn_141 rfl ?_
      refine y_get hx hb hts i_X0 hown hK hH (qLa_ob w0) rfl 2 (by decide) f54 rfl dX0_shineOn_142 ?_
      refine lv_aload_n hx hb dX0_shineOn_145 rfl (lv_at hl 0 rfl) ?_
      refine y_get hx hb hts i_X0 hown hK hH (qLa_ob w0) rfl 1 (by decide) f15 rfl dX0_shineOn_146 ?_
      refine lv_iload_n hx hb dX0_shineOn_149 rfl (lv_at hl 1 rfl) ?_
      refine y_iald hx hb hK hH (qLa_a2 w0) h dX0_shineOn_150 (fun v26 h => ?_)
      refine qj1 (G := fun (v27 : Int32) => W p l e (headSpec wsX0_shineOn rm_X0_shineOn).room s m [.ref (ad b0), .ref (ad b1)].toArray below meth c H locs 0 0 (MQ below (va_Qv P (fun u t => qHp W1N e1 G ad u t.heap) (qA W1N ad s.heap.size)) [.ref (ad b0), .ref (ad b1)].toArray s 0 0 (qA W1N ad s.heap.size)) (F0 m 161 ls [.int v27, .int (M24 b0 2), .ref (ad b0)])) h ?_ ?_
      rotate_left
      · intro h
        refine lv_if_le (tgt := 160) hx hb dX0_shineOn_151 (by decide) (fun hc => ?_) (fun hc => ?_)
        · have h := qOk.t hc h
          refine lv_iconst (v := 0) hx hb dX0_shineOn_160 (by decide) ?_
          have h := qOk.s h
          exact h
        · have h := qOk.f hc h
          refine lv_iconst (v := 1) hx hb dX0_shineOn_154 (by decide) ?_
          refine lv_iload_n hx hb dX0_shineOn_155 rfl (lv_at hl 1 rfl) ?_
          refine lv_ishl hx hb dX0_shineOn_156 ?_
          refine lv_goto (tgt := 161) hx hb dX0_shineOn_157 (by decide) ?_
          have h := qOk.s h
          exact h
      intro v27 h
      refine lv_ior hx hb dX0_shineOn_161 ?_
      refine y_put hx hb hts i_X0 tyX0 tyX0_ok nmX0 hown hK hI hH (qLa_ob w0) rfl 2 (by decide) f54 rfl (by decide +kernel) (Nat.le_of_ble_eq_true rfl) (fun _ => rfl) h dX0_shineOn_162 (fun M28 H locs hH h => ?_)
      obtain ⟨v29, ev29⟩ : ∃ y : Int32, y = v23 + 1 := ⟨_, rfl⟩
      have h := qOk.v h ev29
      refine lv_iinc (v := v29) (lv' := [(2, .int v29), (0, .ref (ad b0))]) hx hb dX0_shineOn_165 hl (k := 1) rfl (by rw [ev29]; rfl) (by decide) rfl (fun ls hl => ?_)
      refine lv_goto (tgt := 134) hx hb dX0_shineOn_168 (by decide) ?_
      exact qOk.li h _ _ hH _ (lv_sub hl [1, 0] rfl)
  intro M25 h H locs hH ls hl
  exact W.vret hx hb hr (fun t ht _ => ⟨⟨_, rfl, qOk.s h, qHpt ht hH.1⟩, hH.2.F ht⟩) hH.2.2.2 dX0_shineOn_171
abbrev rm_X1_become : Room := { frames := 1, cells := 0, slots := 0, locals := 26 }
set_option maxHeartbeats 4000000 in
set_option maxRecDepth 100000 in
theorem c_X1_become (l : Launch) (G : qG) (ad : Nat → Nat) (hI : qI W1N ad) (M : qM) (sz : Nat) {b0 : Nat} (w0 : qMi b0) {b1 : Nat} (w1 : qMi b1) {P : qM → Prop} (h : qOk (kX1_become b0 M b1) P) : Met l yX1_become wsX1_become rm_X1_become (va_Pc [.ref (ad b0), .ref (ad b1)] (qPre W1N e1 G ad M sz)) (va_Qv P (fun u t => qHp W1N e1 G ad u t.heap) (qA W1N ad sz)) 0 0 (qA W1N ad sz) := by
  refine Met.ofW (cc := cX1_become) (maxL := 2) (ret := none) (by decide) rfl ?_
  intro p e s m args below meth c s₁ B hml hv
  obtain ⟨rfl, hsz, hK, hP⟩ := hv
  subst hsz
  have hx := B.exec
  have hb := B.bytes
  have hr := B.returns
  have hts := atoms_spec (ws := wsX1_become) B.pre
  have hown : s.vm.findClass RX1 = some m.cls := findClass_of_methodNamed B.named
  have hlocks := B.notSynchronized
  have hH : qHS W1N e1 G ad M s.heap s.heap [] := ⟨hP, va_S.rf⟩
  have f51 : (Cond.fieldLink RX1 51 "SongLamps$Mine" "gas" "I").before [.ref (ad b0), .ref (ad b1)].toArray s = true := hts _ (by decide +kernel)
  have i_X1 : ∀ w ∈ wsX10, w ∈ wsX1_become := fun w hw => List.mem_cons_of_mem _ ((List.mem_append_right _ hw))
  have f55 : (Cond.fieldLink RX1 55 "SongLamps$Mine" "closed" "I").before [.ref (ad b0), .ref (ad b1)].toArray s = true := hts _ (by decide +kernel)
  have f58 : (Cond.fieldLink RX1 58 "SongLamps$Mine" "there" "I").before [.ref (ad b0), .ref (ad b1)].toArray s = true := hts _ (by decide +kernel)
  have f61 : (Cond.fieldLink RX1 61 "SongLamps$Mine" "beat" "I").before [.ref (ad b0), .ref (ad b1)].toArray s = true := hts _ (by decide +kernel)
  have f64 : (Cond.fieldLink RX1 64 "SongLamps$Mine" "sights" "I").before [.ref (ad b0), .ref (ad b1)].toArray s = true := hts _ (by decide +kernel)
  have f9 : (Cond.fieldLink RX1 9 "SongLamps$Mine" "passages" "[I").before [.ref (ad b0), .ref (ad b1)].toArray s = true := hts _ (by decide +kernel)
  have ml67 : (Cond.methodLink RX1 67 arraycopyName).before [.ref (ad b0), .ref (ad b1)].toArray s = true := hts _ (by decide +kernel)
  have an : (Cond.native arraycopyName).before [.ref (ad b0), .ref (ad b1)].toArray s = true := hts _ (by decide +kernel)
  have as : (Cond.static arraycopyName).before [.ref (ad b0), .ref (ad b1)].toArray s = true := hts _ (by decide +kernel)
  have ai : (Cond.initialized "java/lang/System").before [.ref (ad b0), .ref (ad b1)].toArray s = true := hts _ (by decide +kernel)
  have f15 : (Cond.fieldLink RX1 15 "SongLamps$Mine" "echo" "[I").before [.ref (ad b0), .ref (ad b1)].toArray s = true := hts _ (by decide +kernel)
  have f18 : (Cond.fieldLink RX1 18 "SongLamps$Mine" "coal" "[I").before [.ref (ad b0), .ref (ad b1)].toArray s = true := hts _ (by decide +kernel)
  have f21 : (Cond.fieldLink RX1 21 "SongLamps$Mine" "low" "[I").before [.ref (ad b0), .ref (ad b1)].toArray s = true := hts _ (by decide +kernel)
  have f24 : (Cond.fieldLink RX1 24 "SongLamps$Mine" "high" "[I").before [.ref (ad b0), .ref (ad b1)].toArray s = true := hts _ (by decide +kernel)
  have f27 : (Cond.fieldLink RX1 27 "SongLamps$Mine" "lungs" "[I").before [.ref (ad b0), .ref (ad b1)].toArray s = true := hts _ (by decide +kernel)
  have f30 : (Cond.fieldLink RX1 30 "SongLamps$Mine" "breath" "[I").before [.ref (ad b0), .ref (ad b1)].toArray s = true := hts _ (by decide +kernel)
  have f33 : (Cond.fieldLink RX1 33 "SongLamps$Mine" "place" "[I").before [.ref (ad b0), .ref (ad b1)].toArray s = true := hts _ (by decide +kernel)
  have f36 : (Cond.fieldLink RX1 36 "SongLamps$Mine" "note" "[I").before [.ref (ad b0), .ref (ad b1)].toArray s = true := hts _ (by decide +kernel)
  have f39 : (Cond.fieldLink RX1 39 "SongLamps$Mine" "sightPlace" "[I").before [.ref (ad b0), .ref (ad b1)].toArray s = true := hts _ (by decide +kernel)
  have f42 : (Cond.fieldLink RX1 42 "SongLamps$Mine" "sightNote" "[I").before [.ref (ad b0), .ref (ad b1)].toArray s = true := hts _ (by decide +kernel)
  have hl := lv_entry ([.ref (ad b0), .ref (ad b1)]) (n := 2) (Nat.le_of_ble_eq_true rfl)
  rw [lg_entry_eq]
  generalize (lg_sl ([.ref (ad b0), .ref (ad b1)]) ++ List.replicate (2 - (lg_sl ([.ref (ad b0), .ref (ad b1)])).length) Slot.unset).toArray = ls at hl ⊢
  have hl : lv_has ls 2 [(0, .ref (ad b0)), (1, .ref (ad b1))] := hl
  have h : qOk (kX1_become b0 M b1) _ := h
  unfold kX1_become at h
  refine lv_aload_n hx hb dX1_become_0 rfl (lv_at hl 0 rfl) ?_
  refine lv_aload_n hx hb dX1_become_1 rfl (lv_at hl 1 rfl) ?_
  refine y_get hx hb hts i_X1 hown hK hH (qMi_ob w1) rfl 3 (by decide) f51 rfl dX1_become_2 ?_
  refine y_put hx hb hts i_X1 tyX1 tyX1_ok nmX1 hown hK hI hH (qMi_ob w0) rfl 3 (by decide) f51 rfl (by decide +kernel) (Nat.le_of_ble_eq_true rfl) (fun _ => rfl) h dX1_become_5 (fun M1 H locs hH h => ?_)
  refine lv_aload_n hx hb dX1_become_8 rfl (lv_at hl 0 rfl) ?_
  refine lv_aload_n hx hb dX1_become_9 rfl (lv_at hl 1 rfl) ?_
  refine y_get hx hb hts i_X1 hown hK hH (qMi_ob w1) rfl 4 (by decide) f55 rfl dX1_become_10 ?_
  refine y_put hx hb hts i_X1 tyX1 tyX1_ok nmX1 hown hK hI hH (qMi_ob w0) rfl 4 (by decide) f55 rfl (by decide +kernel) (Nat.le_of_ble_eq_true rfl) (fun _ => rfl) h dX1_become_13 (fun M2 H locs hH h => ?_)
  refine lv_aload_n hx hb dX1_become_16 rfl (lv_at hl 0 rfl) ?_
  refine lv_aload_n hx hb dX1_become_17 rfl (lv_at hl 1 rfl) ?_
  refine y_get hx hb hts i_X1 hown hK hH (qMi_ob w1) rfl 5 (by decide) f58 rfl dX1_become_18 ?_
  refine y_put hx hb hts i_X1 tyX1 tyX1_ok nmX1 hown hK hI hH (qMi_ob w0) rfl 5 (by decide) f58 rfl (by decide +kernel) (Nat.le_of_ble_eq_true rfl) (fun _ => rfl) h dX1_become_21 (fun M3 H locs hH h => ?_)
  refine lv_aload_n hx hb dX1_become_24 rfl (lv_at hl 0 rfl) ?_
  refine lv_aload_n hx hb dX1_become_25 rfl (lv_at hl 1 rfl) ?_
  refine y_get hx hb hts i_X1 hown hK hH (qMi_ob w1) rfl 6 (by decide) f61 rfl dX1_become_26 ?_
  refine y_put hx hb hts i_X1 tyX1 tyX1_ok nmX1 hown hK hI hH (qMi_ob w0) rfl 6 (by decide) f61 rfl (by decide +kernel) (Nat.le_of_ble_eq_true rfl) (fun _ => rfl) h dX1_become_29 (fun M4 H locs hH h => ?_)
  refine lv_aload_n hx hb dX1_become_32 rfl (lv_at hl 0 rfl) ?_
  refine lv_aload_n hx hb dX1_become_33 rfl (lv_at hl 1 rfl) ?_
  refine y_get hx hb hts i_X1 hown hK hH (qMi_ob w1) rfl 7 (by decide) f64 rfl dX1_become_34 ?_
  refine y_put hx hb hts i_X1 tyX1 tyX1_ok nmX1 hown hK hI hH (qMi_ob w0) rfl 7 (by decide) f64 rfl (by decide +kernel) (Nat.le_of_ble_eq_true rfl) (fun _ => rfl) h dX1_become_37 (fun M5 H locs hH h => ?_)
  refine lv_aload_n hx hb dX1_become_40 rfl (lv_at hl 1 rfl) ?_
  refine y_get hx hb hts i_X1 hown hK hH (qMi_ob w1) rfl 0 (by decide) f9 rfl dX1_become_41 ?_
  refine lv_iconst (v := 0) hx hb dX1_become_44 (by decide) ?_
  refine lv_aload_n hx hb dX1_become_45 rfl (lv_at hl 0 rfl) ?_
  refine y_get hx hb hts i_X1 hown hK hH (qMi_ob w0) rfl 0 (by decide) f9 rfl dX1_become_46 ?_
  refine lv_iconst (v := 0) hx hb dX1_become_49 (by decide) ?_
  refine lv_bipush (v := 10) hx hb dX1_become_50 (by decide) ?_
  refine y_copy hx hb (hml.trans hl.1.symm) hown ml67 an as ai hK hI hH (qMi_a1 w1) (qMi_a1 w0) (by decide) (by decide) h (Nat.le_of_ble_eq_true rfl) (Nat.le_of_ble_eq_true rfl) dX1_become_52 (fun M6 H locs hH h => ?_)
  refine lv_aload_n hx hb dX1_become_55 rfl (lv_at hl 1 rfl) ?_
  refine y_get hx hb hts i_X1 hown hK hH (qMi_ob w1) rfl 1 (by decide) f15 rfl dX1_become_56 ?_
  refine lv_iconst (v := 0) hx hb dX1_become_59 (by decide) ?_
  refine lv_aload_n hx hb dX1_become_60 rfl (lv_at hl 0 rfl) ?_
  refine y_get hx hb hts i_X1 hown hK hH (qMi_ob w0) rfl 1 (by decide) f15 rfl dX1_become_61 ?_
  refine lv_iconst (v := 0) hx hb dX1_become_64 (by decide) ?_
  refine lv_bipush (v := 10) hx hb dX1_become_65 (by decide) ?_
  refine y_copy hx hb (hml.trans hl.1.symm) hown ml67 an as ai hK hI hH (qMi_a2 w1) (qMi_a2 w0) (by decide) (by decide) h (Nat.le_of_ble_eq_true rfl) (Nat.le_of_ble_eq_true rfl) dX1_become_67 (fun M7 H locs hH h => ?_)
  refine lv_aload_n hx hb dX1_become_70 rfl (lv_at hl 1 rfl) ?_
  refine y_get hx hb hts i_X1 hown hK hH (qMi_ob w1) rfl 2 (by decide) f18 rfl dX1_become_71 ?_
  refine lv_iconst (v := 0) hx hb dX1_become_74 (by decide) ?_
  refine lv_aload_n hx hb dX1_become_75 rfl (lv_at hl 0 rfl) ?_
  refine y_get hx hb hts i_X1 hown hK hH (qMi_ob w0) rfl 2 (by decide) f18 rfl dX1_become_76 ?_
  refine lv_iconst (v := 0) hx hb dX1_become_79 (by decide) ?_
  refine lv_bipush (v := 10) hx hb dX1_become_80 (by decide) ?_
  refine y_copy hx hb (hml.trans hl.1.symm) hown ml67 an as ai hK hI hH (qMi_a3 w1) (qMi_a3 w0) (by decide) (by decide) h (Nat.le_of_ble_eq_true rfl) (Nat.le_of_ble_eq_true rfl) dX1_become_82 (fun M8 H locs hH h => ?_)
  refine lv_aload_n hx hb dX1_become_85 rfl (lv_at hl 1 rfl) ?_
  refine y_get hx hb hts i_X1 hown hK hH (qMi_ob w1) rfl 8 (by decide) f21 rfl dX1_become_86 ?_
  refine lv_iconst (v := 0) hx hb dX1_become_89 (by decide) ?_
  refine lv_aload_n hx hb dX1_become_90 rfl (lv_at hl 0 rfl) ?_
  refine y_get hx hb hts i_X1 hown hK hH (qMi_ob w0) rfl 8 (by decide) f21 rfl dX1_become_91 ?_
  refine lv_iconst (v := 0) hx hb dX1_become_94 (by decide) ?_
  refine lv_bipush (v := 8) hx hb dX1_become_95 (by decide) ?_
  refine y_copy hx hb (hml.trans hl.1.symm) hown ml67 an as ai hK hI hH (qMi_a4 w1) (qMi_a4 w0) (by decide) (by decide) h (Nat.le_of_ble_eq_true rfl) (Nat.le_of_ble_eq_true rfl) dX1_become_97 (fun M9 H locs hH h => ?_)
  refine lv_aload_n hx hb dX1_become_100 rfl (lv_at hl 1 rfl) ?_
  refine y_get hx hb hts i_X1 hown hK hH (qMi_ob w1) rfl 9 (by decide) f24 rfl dX1_become_101 ?_
  refine lv_iconst (v := 0) hx hb dX1_become_104 (by decide) ?_
  refine lv_aload_n hx hb dX1_become_105 rfl (lv_at hl 0 rfl) ?_
  refine y_get hx hb hts i_X1 hown hK hH (qMi_ob w0) rfl 9 (by decide) f24 rfl dX1_become_106 ?_
  refine lv_iconst (v := 0) hx hb dX1_become_109 (by decide) ?_
  refine lv_bipush (v := 8) hx hb dX1_become_110 (by decide) ?_
  refine y_copy hx hb (hml.trans hl.1.symm) hown ml67 an as ai hK hI hH (qMi_a5 w1) (qMi_a5 w0) (by decide) (by decide) h (Nat.le_of_ble_eq_true rfl) (Nat.le_of_ble_eq_true rfl) dX1_become_112 (fun M10 H locs hH h => ?_)
  refine lv_aload_n hx hb dX1_become_115 rfl (lv_at hl 1 rfl) ?_
  refine y_get hx hb hts i_X1 hown hK hH (qMi_ob w1) rfl 10 (by decide) f27 rfl dX1_become_116 ?_
  refine lv_iconst (v := 0) hx hb dX1_become_119 (by decide) ?_
  refine lv_aload_n hx hb dX1_become_120 rfl (lv_at hl 0 rfl) ?_
  refine y_get hx hb hts i_X1 hown hK hH (qMi_ob w0) rfl 10 (by decide) f27 rfl dX1_become_121 ?_
  refine lv_iconst (v := 0) hx hb dX1_become_124 (by decide) ?_
  refine lv_bipush (v := 8) hx hb dX1_become_125 (by decide) ?_
  refine y_copy hx hb (hml.trans hl.1.symm) hown ml67 an as ai hK hI hH (qMi_a6 w1) (qMi_a6 w0) (by decide) (by decide) h (Nat.le_of_ble_eq_true rfl) (Nat.le_of_ble_eq_true rfl) dX1_become_127 (fun M11 H locs hH h => ?_)
  refine lv_aload_n hx hb dX1_become_130 rfl (lv_at hl 1 rfl) ?_
  refine y_get hx hb hts i_X1 hown hK hH (qMi_ob w1) rfl 11 (by decide) f30 rfl dX1_become_131 ?_
  refine lv_iconst (v := 0) hx hb dX1_become_134 (by decide) ?_
  refine lv_aload_n hx hb dX1_become_135 rfl (lv_at hl 0 rfl) ?_
  refine y_get hx hb hts i_X1 hown hK hH (qMi_ob w0) rfl 11 (by decide) f30 rfl dX1_become_136 ?_
  refine lv_iconst (v := 0) hx hb dX1_become_139 (by decide) ?_
  refine lv_bipush (v := 8) hx hb dX1_become_140 (by decide) ?_
  refine y_copy hx hb (hml.trans hl.1.symm) hown ml67 an as ai hK hI hH (qMi_a7 w1) (qMi_a7 w0) (by decide) (by decide) h (Nat.le_of_ble_eq_true rfl) (Nat.le_of_ble_eq_true rfl) dX1_become_142 (fun M12 H locs hH h => ?_)
  refine lv_aload_n hx hb dX1_become_145 rfl (lv_at hl 1 rfl) ?_
  refine y_get hx hb hts i_X1 hown hK hH (qMi_ob w1) rfl 12 (by decide) f33 rfl dX1_become_146 ?_
  refine lv_iconst (v := 0) hx hb dX1_become_149 (by decide) ?_
  refine lv_aload_n hx hb dX1_become_150 rfl (lv_at hl 0 rfl) ?_
  refine y_get hx hb hts i_X1 hown hK hH (qMi_ob w0) rfl 12 (by decide) f33 rfl dX1_become_151 ?_
  refine lv_iconst (v := 0) hx hb dX1_become_154 (by decide) ?_
  refine lv_bipush (v := 8) hx hb dX1_become_155 (by decide) ?_
  refine y_copy hx hb (hml.trans hl.1.symm) hown ml67 an as ai hK hI hH (qMi_a8 w1) (qMi_a8 w0) (by decide) (by decide) h (Nat.le_of_ble_eq_true rfl) (Nat.le_of_ble_eq_true rfl) dX1_become_157 (fun M13 H locs hH h => ?_)
  refine lv_aload_n hx hb dX1_become_160 rfl (lv_at hl 1 rfl) ?_
  refine y_get hx hb hts i_X1 hown hK hH (qMi_ob w1) rfl 13 (by decide) f36 rfl dX1_become_161 ?_
  refine lv_iconst (v := 0) hx hb dX1_become_164 (by decide) ?_
  refine lv_aload_n hx hb dX1_become_165 rfl (lv_at hl 0 rfl) ?_
  refine y_get hx hb hts i_X1 hown hK hH (qMi_ob w0) rfl 13 (by decide) f36 rfl dX1_become_166 ?_
  refine lv_iconst (v := 0) hx hb dX1_become_169 (by decide) ?_
  refine lv_bipush (v := 8) hx hb dX1_become_170 (by decide) ?_
  refine y_copy hx hb (hml.trans hl.1.symm) hown ml67 an as ai hK hI hH (qMi_a9 w1) (qMi_a9 w0) (by decide) (by decide) h (Nat.le_of_ble_eq_true rfl) (Nat.le_of_ble_eq_true rfl) dX1_become_172 (fun M14 H locs hH h => ?_)
  refine lv_aload_n hx hb dX1_become_175 rfl (lv_at hl 1 rfl) ?_
  refine y_get hx hb hts i_X1 hown hK hH (qMi_ob w1) rfl 14 (by decide) f39 rfl dX1_become_176 ?_
  refine lv_iconst (v := 0) hx hb dX1_become_179 (by decide) ?_
  refine lv_aload_n hx hb dX1_become_180 rfl (lv_at hl 0 rfl) ?_
  refine y_get hx hb hts i_X1 hown hK hH (qMi_ob w0) rfl 14 (by decide) f39 rfl dX1_become_181 ?_
  refine lv_iconst (v := 0) hx hb dX1_become_184 (by decide) ?_
  refine lv_bipush (v := 8) hx hb dX1_become_185 (by decide) ?_
  refine y_copy hx hb (hml.trans hl.1.symm) hown ml67 an as ai hK hI hH (qMi_a10 w1) (qMi_a10 w0) (by decide) (by decide) h (Nat.le_of_ble_eq_true rfl) (Nat.le_of_ble_eq_true rfl) dX1_become_187 (fun M15 H locs hH h => ?_)
  refine lv_aload_n hx hb dX1_become_190 rfl (lv_at hl 1 rfl) ?_
  refine y_get hx hb hts i_X1 hown hK hH (qMi_ob w1) rfl 15 (by decide) f42 rfl dX1_become_191 ?_
  refine lv_iconst (v := 0) hx hb dX1_become_194 (by decide) ?_
  refine lv_aload_n hx hb dX1_become_195 rfl (lv_at hl 0 rfl) ?_
  refine y_get hx hb hts i_X1 hown hK hH (qMi_ob w0) rfl 15 (by decide) f42 rfl dX1_become_196 ?_
  refine lv_iconst (v := 0) hx hb dX1_become_199 (by decide) ?_
  refine lv_bipush (v := 8) hx hb dX1_become_200 (by decide) ?_
  refine y_copy hx hb (hml.trans hl.1.symm) hown ml67 an as ai hK hI hH (qMi_a11 w1) (qMi_a11 w0) (by decide) (by decide) h (Nat.le_of_ble_eq_true rfl) (Nat.le_of_ble_eq_true rfl) dX1_become_202 (fun M16 H locs hH h => ?_)
  exact W.vret hx hb hr (fun t ht _ => ⟨⟨_, rfl, qOk.s h, qHpt ht hH.1⟩, hH.2.F ht⟩) hH.2.2.2 dX1_become_205
