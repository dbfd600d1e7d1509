def qT_passage (R : qM → qM → Prop) : Prop := ∀ M1 M2, R M1 M2 → ∀ x1 x2 x3 : Int32, qOk2 (kX7_passage M1 x1 x2 (if x3 = 0 then 0 else 1)) (fun r1 N1 => qOk2 (kX8_passage M2 x1 x2 (if x3 = 0 then 0 else 1)) (fun r2 N2 => r2 = r1 ∧ R N1 N2))
set_option maxHeartbeats 4000000 in
set_option maxRecDepth 100000 in
theorem lc_passage {p : Program} {l : Launch} {e : Env} {s : State} {m : MethodId} {below : List Frame} {meth : Method} {c : Code} {b L : Nat} {xs : Nat → Int32} (hL : L ≤ 384) (C0 : lw_At p s m meth c b L xs) {G : qG} (hK : qK G s) {R : qM → qM → Prop} (T : qT_passage R) {M1 M2 : qM} {H : Heap} {locs : List Loc} {ls : Array Slot} {i : Nat} (hi : i + 6 ≤ L) (hR : R M1 M2) (hw : qLw G s.heap.size M1 M2 H) (hS : va_S (fun q => s.heap.size ≤ q) s.heap H locs) (hl : lv_has ls 4 [(0, .ref b), (1, .ref (s.heap.size + 0)), (2, .ref (s.heap.size + 75 + 0)), (3, .int (nI i))]) (kk : ∀ (M1 M2 : qM) (H : Heap) (locs : List Loc), R M1 M2 → qLw G s.heap.size M1 M2 H → va_S (fun q => s.heap.size ≤ q) s.heap H locs → W p l e room_1 s m #[Value.ref b] below meth c H locs 600000 7302250 (lw_Z below #[Value.ref b] s) (F0 m 1091 ls [])) : W p l e room_1 s m #[Value.ref b] below meth c H locs 600000 7302250 (lw_Z below #[Value.ref b] s) (F0 m 168 ls []) := by
  obtain ⟨hx, hb, hr, hml, hown, hts, hX, hbl, hlocks, hgv⟩ := C0
  have hown : s.vm.findClass RL = some m.cls := hown
  have htl : ∀ w ∈ wsL_law, w.before #[Value.ref b] s = true := fun w hw => hts w (wsL_law_in w hw)
  have hbA : ¬ (fun q : Nat => s.heap.size ≤ q) b := Nat.not_le.mpr hbl
  have j1 : vp_in (nI i + 1) L := qj_in (k := 1) (by omega) hL
  have j2 : vp_in (nI i + 2) L := qj_in (k := 2) (by omega) hL
  have j3 : vp_in (nI i + 3) L := qj_in (k := 3) (by omega) hL
  have TT := T M1 M2 hR (xs (nI i + 1).toNatClampNeg) (xs (nI i + 2).toNatClampNeg) (xs (nI i + 3).toNatClampNeg)
  refine lv_aload_n hx hb dL_law_168 rfl (lv_at hl 1 rfl) ?_
  refine lv_aload_n hx hb dL_law_169 rfl (lv_at hl 0 rfl) ?_
  refine lv_iload_n hx hb dL_law_170 rfl (lv_at hl 3 rfl) ?_
  refine lv_iconst (v := 1) hx hb dL_law_171 (by decide) ?_
  refine lv_iadd hx hb dL_law_172 ?_
  refine va_sld hx hb hX hbl hbA hS j1 dL_law_173 ?_
  refine lv_aload_n hx hb dL_law_174 rfl (lv_at hl 0 rfl) ?_
  refine lv_iload_n hx hb dL_law_175 rfl (lv_at hl 3 rfl) ?_
  refine lv_iconst (v := 2) hx hb dL_law_176 (by decide) ?_
  refine lv_iadd hx hb dL_law_177 ?_
  refine va_sld hx hb hX hbl hbA hS j2 dL_law_178 ?_
  refine lv_aload_n hx hb dL_law_179 rfl (lv_at hl 0 rfl) ?_
  refine lv_iload_n hx hb dL_law_180 rfl (lv_at hl 3 rfl) ?_
  refine lv_iconst (v := 3) hx hb dL_law_181 (by decide) ?_
  refine lv_iadd hx hb dL_law_182 ?_
  refine va_sld hx hb hX hbl hbA hS j3 dL_law_183 ?_
  suffices kJ : W p l e room_1 s m #[Value.ref b] below meth c H locs 600000 7302250 (lw_Z below #[Value.ref b] s) (F0 m 192 ls [.int (if (xs (nI i + 3).toNatClampNeg) = 0 then 0 else 1), .int (xs (nI i + 2).toNatClampNeg), .int (xs (nI i + 1).toNatClampNeg), .ref (s.heap.size + 0)]) by
    refine lv_if_eq (tgt := 191) hx hb dL_law_184 (by decide) (fun hc => ?_) (fun hc => ?_)
    · refine lv_iconst (v := 0) hx hb dL_law_191 (by decide) ?_
      exact (yl_bool kJ).1 hc
    · refine lv_iconst (v := 1) hx hb dL_law_187 (by decide) ?_
      refine lv_goto (tgt := 192) hx hb dL_law_188 (by decide) ?_
      exact (yl_bool kJ).2 hc
  refine yl_1i hw hS (va_runV (As := [.int (xs (nI i + 1).toNatClampNeg), .int (xs (nI i + 2).toNatClampNeg), .int (if (xs (nI i + 3).toNatClampNeg) = 0 then 0 else 1)]) (rest := []) ⟨hx, hb, hml, hown, htl⟩ (c_X7_passage l G (fun k => s.heap.size + k) (qI_a1 _) M1 _ (xs (nI i + 1).toNatClampNeg) (xs (nI i + 2).toNatClampNeg) (if (xs (nI i + 3).toNatClampNeg) = 0 then 0 else 1) TT) (cwV 3 htl gL_law_X7_passage rfl rfl rfl (by decide +kernel) ⟨Nat.le_of_ble_eq_true rfl, Nat.le_of_ble_eq_true rfl⟩) ⟨qPre.blind, qrecvL hK hw.1 qOb_7 rfl, qPre.atL hK hw.1⟩ rfl rfl hl.1 rfl (lv_room (Nat.le_of_ble_eq_true rfl)) dL_law_192 ⟨Nat.le_of_ble_eq_true rfl, Nat.le_of_ble_eq_true rfl⟩) (fun r1 N1 H locs hP hw hS => ?_)
  refine lv_aload_n hx hb dL_law_195 rfl (lv_at hl 2 rfl) ?_
  refine lv_aload_n hx hb dL_law_196 rfl (lv_at hl 0 rfl) ?_
  refine lv_iload_n hx hb dL_law_197 rfl (lv_at hl 3 rfl) ?_
  refine lv_iconst (v := 1) hx hb dL_law_198 (by decide) ?_
  refine lv_iadd hx hb dL_law_199 ?_
  refine va_sld hx hb hX hbl hbA hS j1 dL_law_200 ?_
  refine lv_aload_n hx hb dL_law_201 rfl (lv_at hl 0 rfl) ?_
  refine lv_iload_n hx hb dL_law_202 rfl (lv_at hl 3 rfl) ?_
  refine lv_iconst (v := 2) hx hb dL_law_203 (by decide) ?_
  refine lv_iadd hx hb dL_law_204 ?_
  refine va_sld hx hb hX hbl hbA hS j2 dL_law_205 ?_
  refine lv_aload_n hx hb dL_law_206 rfl (lv_at hl 0 rfl) ?_
  refine lv_iload_n hx hb dL_law_207 rfl (lv_at hl 3 rfl) ?_
  refine lv_iconst (v := 3) hx hb dL_law_208 (by decide) ?_
  refine lv_iadd hx hb dL_law_209 ?_
  refine va_sld hx hb hX hbl hbA hS j3 dL_law_210 ?_
  suffices kJ : W p l e room_1 s m #[Value.ref b] below meth c H locs 600000 7302250 (lw_Z below #[Value.ref b] s) (F0 m 219 ls [.int (if (xs (nI i + 3).toNatClampNeg) = 0 then 0 else 1), .int (xs (nI i + 2).toNatClampNeg), .int (xs (nI i + 1).toNatClampNeg), .ref (s.heap.size + 75 + 0), .int r1]) by
    refine lv_if_eq (tgt := 218) hx hb dL_law_211 (by decide) (fun hc => ?_) (fun hc => ?_)
    · refine lv_iconst (v := 0) hx hb dL_law_218 (by decide) ?_
      exact (yl_bool kJ).1 hc
    · refine lv_iconst (v := 1) hx hb dL_law_214 (by decide) ?_
      refine lv_goto (tgt := 219) hx hb dL_law_215 (by decide) ?_
      exact (yl_bool kJ).2 hc
  refine yl_2i hw hS (va_runV (As := [.int (xs (nI i + 1).toNatClampNeg), .int (xs (nI i + 2).toNatClampNeg), .int (if (xs (nI i + 3).toNatClampNeg) = 0 then 0 else 1)]) (rest := [.int r1]) ⟨hx, hb, hml, hown, htl⟩ (c_X8_passage l G (fun k => s.heap.size + 75 + k) (qI_a2 _) M2 _ (xs (nI i + 1).toNatClampNeg) (xs (nI i + 2).toNatClampNeg) (if (xs (nI i + 3).toNatClampNeg) = 0 then 0 else 1) hP) (cwV 3 htl gL_law_X8_passage rfl rfl rfl (by decide +kernel) ⟨Nat.le_of_ble_eq_true rfl, Nat.le_of_ble_eq_true rfl⟩) ⟨qPre.blind, qrecvL hK hw.2 qOb_8 rfl, qPre.atL hK hw.2⟩ rfl rfl hl.1 rfl (lv_room (Nat.le_of_ble_eq_true rfl)) dL_law_219 ⟨Nat.le_of_ble_eq_true rfl, Nat.le_of_ble_eq_true rfl⟩) (fun r2 N2 H locs hP hw hS => ?_)
  refine lv_icmp_eq (tgt := 1091) hx hb dL_law_222 (by decide) (fun hc => ?_) (fun hc => ?_)
  · exact kk _ _ _ _ hP.2 hw hS
  · exact absurd hP.1.symm hc
def qT_gallery (R : qM → qM → Prop) : Prop := ∀ M1 M2, R M1 M2 → ∀ x1 x2 x3 : Int32, qOk2 (kX7_gallery M1 x1 x2 (if x3 = 0 then 0 else 1)) (fun r1 N1 => qOk2 (kX8_gallery M2 x1 x2 (if x3 = 0 then 0 else 1)) (fun r2 N2 => r2 = r1 ∧ R N1 N2))
set_option maxHeartbeats 4000000 in
set_option maxRecDepth 100000 in
theorem lc_gallery {p : Program} {l : Launch} {e : Env} {s : State} {m : MethodId} {below : List Frame} {meth : Method} {c : Code} {b L : Nat} {xs : Nat → Int32} (hL : L ≤ 384) (C0 : lw_At p s m meth c b L xs) {G : qG} (hK : qK G s) {R : qM → qM → Prop} (T : qT_gallery R) {M1 M2 : qM} {H : Heap} {locs : List Loc} {ls : Array Slot} {i : Nat} (hi : i + 6 ≤ L) (hR : R M1 M2) (hw : qLw G s.heap.size M1 M2 H) (hS : va_S (fun q => s.heap.size ≤ q) s.heap H locs) (hl : lv_has ls 4 [(0, .ref b), (1, .ref (s.heap.size + 0)), (2, .ref (s.heap.size + 75 + 0)), (3, .int (nI i))]) (kk : ∀ (M1 M2 : qM) (H : Heap) (locs : List Loc), R M1 M2 → qLw G s.heap.size M1 M2 H → va_S (fun q => s.heap.size ≤ q) s.heap H locs → W p l e room_1 s m #[Value.ref b] below meth c H locs 600000 7302250 (lw_Z below #[Value.ref b] s) (F0 m 1091 ls [])) : W p l e room_1 s m #[Value.ref b] below meth c H locs 600000 7302250 (lw_Z below #[Value.ref b] s) (F0 m 227 ls []) := by
  obtain ⟨hx, hb, hr, hml, hown, hts, hX, hbl, hlocks, hgv⟩ := C0
  have hown : s.vm.findClass RL = some m.cls := hown
  have htl : ∀ w ∈ wsL_law, w.before #[Value.ref b] s = true := fun w hw => hts w (wsL_law_in w hw)
  have hbA : ¬ (fun q : Nat => s.heap.size ≤ q) b := Nat.not_le.mpr hbl
  have j1 : vp_in (nI i + 1) L := qj_in (k := 1) (by omega) hL
  have j2 : vp_in (nI i + 2) L := qj_in (k := 2) (by omega) hL
  have j3 : vp_in (nI i + 3) L := qj_in (k := 3) (by omega) hL
  have TT := T M1 M2 hR (xs (nI i + 1).toNatClampNeg) (xs (nI i + 2).toNatClampNeg) (xs (nI i + 3).toNatClampNeg)
  refine lv_aload_n hx hb dL_law_227 rfl (lv_at hl 1 rfl) ?_
  refine lv_aload_n hx hb dL_law_228 rfl (lv_at hl 0 rfl) ?_
  refine lv_iload_n hx hb dL_law_229 rfl (lv_at hl 3 rfl) ?_
  refine lv_iconst (v := 1) hx hb dL_law_230 (by decide) ?_
  refine lv_iadd hx hb dL_law_231 ?_
  refine va_sld hx hb hX hbl hbA hS j1 dL_law_232 ?_
  refine lv_aload_n hx hb dL_law_233 rfl (lv_at hl 0 rfl) ?_
  refine lv_iload_n hx hb dL_law_234 rfl (lv_at hl 3 rfl) ?_
  refine lv_iconst (v := 2) hx hb dL_law_235 (by decide) ?_
  refine lv_iadd hx hb dL_law_236 ?_
  refine va_sld hx hb hX hbl hbA hS j2 dL_law_237 ?_
  refine lv_aload_n hx hb dL_law_238 rfl (lv_at hl 0 rfl) ?_
  refine lv_iload_n hx hb dL_law_239 rfl (lv_at hl 3 rfl) ?_
  refine lv_iconst (v := 3) hx hb dL_law_240 (by decide) ?_
  refine lv_iadd hx hb dL_law_241 ?_
  refine va_sld hx hb hX hbl hbA hS j3 dL_law_242 ?_
  suffices kJ : W p l e room_1 s m #[Value.ref b] below meth c H locs 600000 7302250 (lw_Z below #[Value.ref b] s) (F0 m 251 ls [.int (if (xs (nI i + 3).toNatClampNeg) = 0 then 0 else 1), .int (xs (nI i + 2).toNatClampNeg), .int (xs (nI i + 1).toNatClampNeg), .ref (s.heap.size + 0)]) by
    refine lv_if_eq (tgt := 250) hx hb dL_law_243 (by decide) (fun hc => ?_) (fun hc => ?_)
    · refine lv_iconst (v := 0) hx hb dL_law_250 (by decide) ?_
      exact (yl_bool kJ).1 hc
    · refine lv_iconst (v := 1) hx hb dL_law_246 (by decide) ?_
      refine lv_goto (tgt := 251) hx hb dL_law_247 (by decide) ?_
      exact (yl_bool kJ).2 hc
  refine yl_1i hw hS (va_runV (As := [.int (xs (nI i + 1).toNatClampNeg), .int (xs (nI i + 2).toNatClampNeg), .int (if (xs (nI i + 3).toNatClampNeg) = 0 then 0 else 1)]) (rest := []) ⟨hx, hb, hml, hown, htl⟩ (c_X7_gallery l G (fun k => s.heap.size + k) (qI_a1 _) M1 _ (xs (nI i + 1).toNatClampNeg) (xs (nI i + 2).toNatClampNeg) (if (xs (nI i + 3).toNatClampNeg) = 0 then 0 else 1) TT) (cwV 3 htl gL_law_X7_gallery rfl rfl rfl (by decide +kernel) ⟨Nat.le_of_ble_eq_true rfl, Nat.le_of_ble_eq_true rfl⟩) ⟨qPre.blind, qrecvL hK hw.1 qOb_7 rfl, qPre.atL hK hw.1⟩ rfl rfl hl.1 rfl (lv_room (Nat.le_of_ble_eq_true rfl)) dL_law_251 ⟨Nat.le_of_ble_eq_true rfl, Nat.le_of_ble_eq_true rfl⟩) (fun r1 N1 H locs hP hw hS => ?_)
  refine lv_aload_n hx hb dL_law_254 rfl (lv_at hl 2 rfl) ?_
  refine lv_aload_n hx hb dL_law_255 rfl (lv_at hl 0 rfl) ?_
  refine lv_iload_n hx hb dL_law_256 rfl (lv_at hl 3 rfl) ?_
  refine lv_iconst (v := 1) hx hb dL_law_257 (by decide) ?_
  refine lv_iadd hx hb dL_law_258 ?_
  refine va_sld hx hb hX hbl hbA hS j1 dL_law_259 ?_
  refine lv_aload_n hx hb dL_law_260 rfl (lv_at hl 0 rfl) ?_
  refine lv_iload_n hx hb dL_law_261 rfl (lv_at hl 3 rfl) ?_
  refine lv_iconst (v := 2) hx hb dL_law_262 (by decide) ?_
  refine lv_iadd hx hb dL_law_263 ?_
  refine va_sld hx hb hX hbl hbA hS j2 dL_law_264 ?_
  refine lv_aload_n hx hb dL_law_265 rfl (lv_at hl 0 rfl) ?_
  refine lv_iload_n hx hb dL_law_266 rfl (lv_at hl 3 rfl) ?_
  refine lv_iconst (v := 3) hx hb dL_law_267 (by decide) ?_
  refine lv_iadd hx hb dL_law_268 ?_
  refine va_sld hx hb hX hbl hbA hS j3 dL_law_269 ?_
  suffices kJ : W p l e room_1 s m #[Value.ref b] below meth c H locs 600000 7302250 (lw_Z below #[Value.ref b] s) (F0 m 278 ls [.int (if (xs (nI i + 3).toNatClampNeg) = 0 then 0 else 1), .int (xs (nI i + 2).toNatClampNeg), .int (xs (nI i + 1).toNatClampNeg), .ref (s.heap.size + 75 + 0), .int r1]) by
    refine lv_if_eq (tgt := 277) hx hb dL_law_270 (by decide) (fun hc => ?_) (fun hc => ?_)
    · refine lv_iconst (v := 0) hx hb dL_law_277 (by decide) ?_
      exact (yl_bool kJ).1 hc
    · refine lv_iconst (v := 1) hx hb dL_law_273 (by decide) ?_
      refine lv_goto (tgt := 278) hx hb dL_law_274 (by decide) ?_
      exact (yl_bool kJ).2 hc
  refine yl_2i hw hS (va_runV (As := [.int (xs (nI i + 1).toNatClampNeg), .int (xs (nI i + 2).toNatClampNeg), .int (if (xs (nI i + 3).toNatClampNeg) = 0 then 0 else 1)]) (rest := [.int r1]) ⟨hx, hb, hml, hown, htl⟩ (c_X8_gallery l G (fun k => s.heap.size + 75 + k) (qI_a2 _) M2 _ (xs (nI i + 1).toNatClampNeg) (xs (nI i + 2).toNatClampNeg) (if (xs (nI i + 3).toNatClampNeg) = 0 then 0 else 1) hP) (cwV 3 htl gL_law_X8_gallery rfl rfl rfl (by decide +kernel) ⟨Nat.le_of_ble_eq_true rfl, Nat.le_of_ble_eq_true rfl⟩) ⟨qPre.blind, qrecvL hK hw.2 qOb_8 rfl, qPre.atL hK hw.2⟩ rfl rfl hl.1 rfl (lv_room (Nat.le_of_ble_eq_true rfl)) dL_law_278 ⟨Nat.le_of_ble_eq_true rfl, Nat.le_of_ble_eq_true rfl⟩) (fun r2 N2 H locs hP hw hS => ?_)
  refine lv_icmp_eq (tgt := 1091) hx hb dL_law_281 (by decide) (fun hc => ?_) (fun hc => ?_)
  · exact kk _ _ _ _ hP.2 hw hS
  · exact absurd hP.1.symm hc
def qT_voice (R : qM → qM → Prop) : Prop := ∀ M1 M2, R M1 M2 → ∀ x1 x2 x3 x4 x5 : Int32, qOk2 (kX7_voice M1 x1 x2 x3 x4 x5) (fun r1 N1 => qOk2 (kX8_voice M2 x1 x2 x3 x4 x5) (fun r2 N2 => r2 = r1 ∧ R N1 N2))
set_option maxHeartbeats 4000000 in
set_option maxRecDepth 100000 in
theorem lc_voice {p : Program} {l : Launch} {e : Env} {s : State} {m : MethodId} {below : List Frame} {meth : Method} {c : Code} {b L : Nat} {xs : Nat → Int32} (hL : L ≤ 384) (C0 : lw_At p s m meth c b L xs) {G : qG} (hK : qK G s) {R : qM → qM → Prop} (T : qT_voice R) {M1 M2 : qM} {H : Heap} {locs : List Loc} {ls : Array Slot} {i : Nat} (hi : i + 6 ≤ L) (hR : R M1 M2) (hw : qLw G s.heap.size M1 M2 H) (hS : va_S (fun q => s.heap.size ≤ q) s.heap H locs) (hl : lv_has ls 4 [(0, .ref b), (1, .ref (s.heap.size + 0)), (2, .ref (s.heap.size + 75 + 0)), (3, .int (nI i))]) (kk : ∀ (M1 M2 : qM) (H : Heap) (locs : List Loc), R M1 M2 → qLw G s.heap.size M1 M2 H → va_S (fun q => s.heap.size ≤ q) s.heap H locs → W p l e room_1 s m #[Value.ref b] below meth c H locs 600000 7302250 (lw_Z below #[Value.ref b] s) (F0 m 1091 ls [])) : W p l e room_1 s m #[Value.ref b] below meth c H locs 600000 7302250 (lw_Z below #[Value.ref b] s) (F0 m 286 ls []) := by
  obtain ⟨hx, hb, hr, hml, hown, hts, hX, hbl, hlocks, hgv⟩ := C0
  have hown : s.vm.findClass RL = some m.cls := hown
  have htl : ∀ w ∈ wsL_law, w.before #[Value.ref b] s = true := fun w hw => hts w (wsL_law_in w hw)
  have hbA : ¬ (fun q : Nat => s.heap.size ≤ q) b := Nat.not_le.mpr hbl
  have j1 : vp_in (nI i + 1) L := qj_in (k := 1) (by omega) hL
  have j2 : vp_in (nI i + 2) L := qj_in (k := 2) (by omega) hL
  have j3 : vp_in (nI i + 3) L := qj_in (k := 3) (by omega) hL
  have j4 : vp_in (nI i + 4) L := qj_in (k := 4) (by omega) hL
  have j5 : vp_in (nI i + 5) L := qj_in (k := 5) (by omega) hL
  have TT := T M1 M2 hR (xs (nI i + 1).toNatClampNeg) (xs (nI i + 2).toNatClampNeg) (xs (nI i + 3).toNatClampNeg) (xs (nI i + 4).toNatClampNeg) (xs (nI i + 5).toNatClampNeg)
  refine lv_aload_n hx hb dL_law_286 rfl (lv_at hl 1 rfl) ?_
  refine lv_aload_n hx hb dL_law_287 rfl (lv_at hl 0 rfl) ?_
  refine lv_iload_n hx hb dL_law_288 rfl (lv_at hl 3 rfl) ?_
  refine lv_iconst (v := 1) hx hb dL_law_289 (by decide) ?_
  refine lv_iadd hx hb dL_law_290 ?_
  refine va_sld hx hb hX hbl hbA hS j1 dL_law_291 ?_
  refine lv_aload_n hx hb dL_law_292 rfl (lv_at hl 0 rfl) ?_
  refine lv_iload_n hx hb dL_law_293 rfl (lv_at hl 3 rfl) ?_
  refine lv_iconst (v := 2) hx hb dL_law_294 (by decide) ?_
  refine lv_iadd hx hb dL_law_295 ?_
  refine va_sld hx hb hX hbl hbA hS j2 dL_law_296 ?_
  refine lv_aload_n hx hb dL_law_297 rfl (lv_at hl 0 rfl) ?_
  refine lv_iload_n hx hb dL_law_298 rfl (lv_at hl 3 rfl) ?_
  refine lv_iconst (v := 3) hx hb dL_law_299 (by decide) ?_
  refine lv_iadd hx hb dL_law_300 ?_
  refine va_sld hx hb hX hbl hbA hS j3 dL_law_301 ?_
  refine lv_aload_n hx hb dL_law_302 rfl (lv_at hl 0 rfl) ?_
  refine lv_iload_n hx hb dL_law_303 rfl (lv_at hl 3 rfl) ?_
  refine lv_iconst (v := 4) hx hb dL_law_304 (by decide) ?_
  refine lv_iadd hx hb dL_law_305 ?_
  refine va_sld hx hb hX hbl hbA hS j4 dL_law_306 ?_
  refine lv_aload_n hx hb dL_law_307 rfl (lv_at hl 0 rfl) ?_
  refine lv_iload_n hx hb dL_law_308 rfl (lv_at hl 3 rfl) ?_
  refine lv_iconst (v := 5) hx hb dL_law_309 (by decide) ?_
  refine lv_iadd hx hb dL_law_310 ?_
  refine va_sld hx hb hX hbl hbA hS j5 dL_law_311 ?_
  refine yl_1i hw hS (va_runV (As := [.int (xs (nI i + 1).toNatClampNeg), .int (xs (nI i + 2).toNatClampNeg), .int (xs (nI i + 3).toNatClampNeg), .int (xs (nI i + 4).toNatClampNeg), .int (xs (nI i + 5).toNatClampNeg)]) (rest := []) ⟨hx, hb, hml, hown, htl⟩ (c_X7_voice l G (fun k => s.heap.size + k) (qI_a1 _) M1 _ (xs (nI i + 1).toNatClampNeg) (xs (nI i + 2).toNatClampNeg) (xs (nI i + 3).toNatClampNeg) (xs (nI i + 4).toNatClampNeg) (xs (nI i + 5).toNatClampNeg) TT) (cwV 5 htl gL_law_X7_voice rfl rfl rfl (by decide +kernel) ⟨Nat.le_of_ble_eq_true rfl, Nat.le_of_ble_eq_true rfl⟩) ⟨qPre.blind, qrecvL hK hw.1 qOb_7 rfl, qPre.atL hK hw.1⟩ rfl rfl hl.1 rfl (lv_room (Nat.le_of_ble_eq_true rfl)) dL_law_312 ⟨Nat.le_of_ble_eq_true rfl, Nat.le_of_ble_eq_true rfl⟩) (fun r1 N1 H locs hP hw hS => ?_)
  refine lv_aload_n hx hb dL_law_315 rfl (lv_at hl 2 rfl) ?_
  refine lv_aload_n hx hb dL_law_316 rfl (lv_at hl 0 rfl) ?_
  refine lv_iload_n hx hb dL_law_317 rfl (lv_at hl 3 rfl) ?_
  refine lv_iconst (v := 1) hx hb dL_law_318 (by decide) ?_
  refine lv_iadd hx hb dL_law_319 ?_
  refine va_sld hx hb hX hbl hbA hS j1 dL_law_320 ?_
  refine lv_aload_n hx hb dL_law_321 rfl (lv_at hl 0 rfl) ?_
  refine lv_iload_n hx hb dL_law_322 rfl (lv_at hl 3 rfl) ?_
  refine lv_iconst (v := 2) hx hb dL_law_323 (by decide) ?_
  refine lv_iadd hx hb dL_law_324 ?_
  refine va_sld hx hb hX hbl hbA hS j2 dL_law_325 ?_
  refine lv_aload_n hx hb dL_law_326 rfl (lv_at hl 0 rfl) ?_
  refine lv_iload_n hx hb dL_law_327 rfl (lv_at hl 3 rfl) ?_
  refine lv_iconst (v := 3) hx hb dL_law_328 (by decide) ?_
  refine lv_iadd hx hb dL_law_329 ?_
  refine va_sld hx hb hX hbl hbA hS j3 dL_law_330 ?_
  refine lv_aload_n hx hb dL_law_331 rfl (lv_at hl 0 rfl) ?_
  refine lv_iload_n hx hb dL_law_332 rfl (lv_at hl 3 rfl) ?_
  refine lv_iconst (v := 4) hx hb dL_law_333 (by decide) ?_
  refine lv_iadd hx hb dL_law_334 ?_
  refine va_sld hx hb hX hbl hbA hS j4 dL_law_335 ?_
  refine lv_aload_n hx hb dL_law_336 rfl (lv_at hl 0 rfl) ?_
  refine lv_iload_n hx hb dL_law_337 rfl (lv_at hl 3 rfl) ?_
  refine lv_iconst (v := 5) hx hb dL_law_338 (by decide) ?_
  refine lv_iadd hx hb dL_law_339 ?_
  refine va_sld hx hb hX hbl hbA hS j5 dL_law_340 ?_
  refine yl_2i hw hS (va_runV (As := [.int (xs (nI i + 1).toNatClampNeg), .int (xs (nI i + 2).toNatClampNeg), .int (xs (nI i + 3).toNatClampNeg), .int (xs (nI i + 4).toNatClampNeg), .int (xs (nI i + 5).toNatClampNeg)]) (rest := [.int r1]) ⟨hx, hb, hml, hown, htl⟩ (c_X8_voice l G (fun k => s.heap.size + 75 + k) (qI_a2 _) M2 _ (xs (nI i + 1).toNatClampNeg) (xs (nI i + 2).toNatClampNeg) (xs (nI i + 3).toNatClampNeg) (xs (nI i + 4).toNatClampNeg) (xs (nI i + 5).toNatClampNeg) hP) (cwV 5 htl gL_law_X8_voice rfl rfl rfl (by decide +kernel) ⟨Nat.le_of_ble_eq_true rfl, Nat.le_of_ble_eq_true rfl⟩) ⟨qPre.blind, qrecvL hK hw.2 qOb_8 rfl, qPre.atL hK hw.2⟩ rfl rfl hl.1 rfl (lv_room (Nat.le_of_ble_eq_true rfl)) dL_law_341 ⟨Nat.le_of_ble_eq_true rfl, Nat.le_of_ble_eq_true rfl⟩) (fun r2 N2 H locs hP hw hS => ?_)
  refine lv_icmp_eq (tgt := 1091) hx hb dL_law_344 (by decide) (fun hc => ?_) (fun hc => ?_)
  · exact kk _ _ _ _ hP.2 hw hS
  · exact absurd hP.1.symm hc
def qT_breath (R : qM → qM → Prop) : Prop := ∀ M1 M2, R M1 M2 → ∀ x1 x2 : Int32, qOk2 (kX7_breath M1 x1 x2) (fun r1 N1 => qOk2 (kX8_breath M2 x1 x2) (fun r2 N2 => r2 = r1 ∧ R N1 N2))
set_option maxHeartbeats 4000000 in
set_option maxRecDepth 100000 in
theorem lc_breath {p : Program} {l : Launch} {e : Env} {s : State} {m : MethodId} {below : List Frame} {meth : Method} {c : Code} {b L : Nat} {xs : Nat → Int32} (hL : L ≤ 384) (C0 : lw_At p s m meth c b L xs) {G : qG} (hK : qK G s) {R : qM → qM → Prop} (T : qT_breath R) {M1 M2 : qM} {H : Heap} {locs : List Loc} {ls : Array Slot} {i : Nat} (hi : i + 6 ≤ L) (hR : R M1 M2) (hw : qLw G s.heap.size M1 M2 H) (hS : va_S (fun q => s.heap.size ≤ q) s.heap H locs) (hl : lv_has ls 4 [(0, .ref b), (1, .ref (s.heap.size + 0)), (2, .ref (s.heap.size + 75 + 0)), (3, .int (nI i))]) (kk : ∀ (M1 M2 : qM) (H : Heap) (locs : List Loc), R M1 M2 → qLw G s.heap.size M1 M2 H → va_S (fun q => s.heap.size ≤ q) s.heap H locs → W p l e room_1 s m #[Value.ref b] below meth c H locs 600000 7302250 (lw_Z below #[Value.ref b] s) (F0 m 1091 ls [])) : W p l e room_1 s m #[Value.ref b] below meth c H locs 600000 7302250 (lw_Z below #[Value.ref b] s) (F0 m 349 ls []) := by
  obtain ⟨hx, hb, hr, hml, hown, hts, hX, hbl, hlocks, hgv⟩ := C0
  have hown : s.vm.findClass RL = some m.cls := hown
  have htl : ∀ w ∈ wsL_law, w.before #[Value.ref b] s = true := fun w hw => hts w (wsL_law_in w hw)
  have hbA : ¬ (fun q : Nat => s.heap.size ≤ q) b := Nat.not_le.mpr hbl
  have j1 : vp_in (nI i + 1) L := qj_in (k := 1) (by omega) hL
  have j2 : vp_in (nI i + 2) L := qj_in (k := 2) (by omega) hL
  have TT := T M1 M2 hR (xs (nI i + 1).toNatClampNeg) (xs (nI i + 2).toNatClampNeg)
  refine lv_aload_n hx hb dL_law_349 rfl (lv_at hl 1 rfl) ?_
  refine lv_aload_n hx hb dL_law_350 rfl (lv_at hl 0 rfl) ?_
  refine lv_iload_n hx hb dL_law_351 rfl (lv_at hl 3 rfl) ?_
  refine lv_iconst (v := 1) hx hb dL_law_352 (by decide) ?_
  refine lv_iadd hx hb dL_law_353 ?_
  refine va_sld hx hb hX hbl hbA hS j1 dL_law_354 ?_
  refine lv_aload_n hx hb dL_law_355 rfl (lv_at hl 0 rfl) ?_
  refine lv_iload_n hx hb dL_law_356 rfl (lv_at hl 3 rfl) ?_
  refine lv_iconst (v := 2) hx hb dL_law_357 (by decide) ?_
  refine lv_iadd hx hb dL_law_358 ?_
  refine va_sld hx hb hX hbl hbA hS j2 dL_law_359 ?_
  refine yl_1i hw hS (va_runV (As := [.int (xs (nI i + 1).toNatClampNeg), .int (xs (nI i + 2).toNatClampNeg)]) (rest := []) ⟨hx, hb, hml, hown, htl⟩ (c_X7_breath l G (fun k => s.heap.size + k) (qI_a1 _) M1 _ (xs (nI i + 1).toNatClampNeg) (xs (nI i + 2).toNatClampNeg) TT) (cwV 2 htl gL_law_X7_breath rfl rfl rfl (by decide +kernel) ⟨Nat.le_of_ble_eq_true rfl, Nat.le_of_ble_eq_true rfl⟩) ⟨qPre.blind, qrecvL hK hw.1 qOb_7 rfl, qPre.atL hK hw.1⟩ rfl rfl hl.1 rfl (lv_room (Nat.le_of_ble_eq_true rfl)) dL_law_360 ⟨Nat.le_of_ble_eq_true rfl, Nat.le_of_ble_eq_true rfl⟩) (fun r1 N1 H locs hP hw hS => ?_)
  refine lv_aload_n hx hb dL_law_363 rfl (lv_at hl 2 rfl) ?_
  refine lv_aload_n hx hb dL_law_364 rfl (lv_at hl 0 rfl) ?_
  refine lv_iload_n hx hb dL_law_365 rfl (lv_at hl 3 rfl) ?_
  refine lv_iconst (v := 1) hx hb dL_law_366 (by decide) ?_
  refine lv_iadd hx hb dL_law_367 ?_
  refine va_sld hx hb hX hbl hbA hS j1 dL_law_368 ?_
  refine lv_aload_n hx hb dL_law_369 rfl (lv_at hl 0 rfl) ?_
  refine lv_iload_n hx hb dL_law_370 rfl (lv_at hl 3 rfl) ?_
  refine lv_iconst (v := 2) hx hb dL_law_371 (by decide) ?_
  refine lv_iadd hx hb dL_law_372 ?_
  refine va_sld hx hb hX hbl hbA hS j2 dL_law_373 ?_
  refine yl_2i hw hS (va_runV (As := [.int (xs (nI i + 1).toNatClampNeg), .int (xs (nI i + 2).toNatClampNeg)]) (rest := [.int r1]) ⟨hx, hb, hml, hown, htl⟩ (c_X8_breath l G (fun k => s.heap.size + 75 + k) (qI_a2 _) M2 _ (xs (nI i + 1).toNatClampNeg) (xs (nI i + 2).toNatClampNeg) hP) (cwV 2 htl gL_law_X8_breath rfl rfl rfl (by decide +kernel) ⟨Nat.le_of_ble_eq_true rfl, Nat.le_of_ble_eq_true rfl⟩) ⟨qPre.blind, qrecvL hK hw.2 qOb_8 rfl, qPre.atL hK hw.2⟩ rfl rfl hl.1 rfl (lv_room (Nat.le_of_ble_eq_true rfl)) dL_law_374 ⟨Nat.le_of_ble_eq_true rfl, Nat.le_of_ble_eq_true rfl⟩) (fun r2 N2 H locs hP hw hS => ?_)
  refine lv_icmp_eq (tgt := 1091) hx hb dL_law_377 (by decide) (fun hc => ?_) (fun hc => ?_)
  · exact kk _ _ _ _ hP.2 hw hS
  · exact absurd hP.1.symm hc
def qT_leave (R : qM → qM → Prop) : Prop := ∀ M1 M2, R M1 M2 → ∀ x1 : Int32, qOk2 (kX7_leave M1 x1) (fun r1 N1 => qOk2 (kX8_leave M2 x1) (fun r2 N2 => r2 = r1 ∧ R N1 N2))
set_option maxHeartbeats 4000000 in
set_option maxRecDepth 100000 in
theorem lc_leave {p : Program} {l : Launch} {e : Env} {s : State} {m : MethodId} {below : List Frame} {meth : Method} {c : Code} {b L : Nat} {xs : Nat → Int32} (hL : L ≤ 384) (C0 : lw_At p s m meth c b L xs) {G : qG} (hK : qK G s) {R : qM → qM → Prop} (T : qT_leave R) {M1 M2 : qM} {H : Heap} {locs : List Loc} {ls : Array Slot} {i : Nat} (hi : i + 6 ≤ L) (hR : R M1 M2) (hw : qLw G s.heap.size M1 M2 H) (hS : va_S (fun q => s.heap.size ≤ q) s.heap H locs) (hl : lv_has ls 4 [(0, .ref b), (1, .ref (s.heap.size + 0)), (2, .ref (s.heap.size + 75 + 0)), (3, .int (nI i))]) (kk : ∀ (M1 M2 : qM) (H : Heap) (locs : List Loc), R M1 M2 → qLw G s.heap.size M1 M2 H → va_S (fun q => s.heap.size ≤ q) s.heap H locs → W p l e room_1 s m #[Value.ref b] below meth c H locs 600000 7302250 (lw_Z below #[Value.ref b] s) (F0 m 1091 ls [])) : W p l e room_1 s m #[Value.ref b] below meth c H locs 600000 7302250 (lw_Z below #[Value.ref b] s) (F0 m 382 ls []) := by
  obtain ⟨hx, hb, hr, hml, hown, hts, hX, hbl, hlocks, hgv⟩ := C0
  have hown : s.vm.findClass RL = some m.cls := hown
  have htl : ∀ w ∈ wsL_law, w.before #[Value.ref b] s = true := fun w hw => hts w (wsL_law_in w hw)
  have hbA : ¬ (fun q : Nat => s.heap.size ≤ q) b := Nat.not_le.mpr hbl
  have j1 : vp_in (nI i + 1) L := qj_in (k := 1) (by omega) hL
  have TT := T M1 M2 hR (xs (nI i + 1).toNatClampNeg)
  refine lv_aload_n hx hb dL_law_382 rfl (lv_at hl 1 rfl) ?_
  refine lv_aload_n hx hb dL_law_383 rfl (lv_at hl 0 rfl) ?_
  refine lv_iload_n hx hb dL_law_384 rfl (lv_at hl 3 rfl) ?_
  refine lv_iconst (v := 1) hx hb dL_law_385 (by decide) ?_
  refine lv_iadd hx hb dL_law_386 ?_
  refine va_sld hx hb hX hbl hbA hS j1 dL_law_387 ?_
  refine yl_1i hw hS (va_runV (As := [.int (xs (nI i + 1).toNatClampNeg)]) (rest := []) ⟨hx, hb, hml, hown, htl⟩ (c_X7_leave l G (fun k => s.heap.size + k) (qI_a1 _) M1 _ (xs (nI i + 1).toNatClampNeg) TT) (cwV 1 htl gL_law_X7_leave rfl rfl rfl (by decide +kernel) ⟨Nat.le_of_ble_eq_true rfl, Nat.le_of_ble_eq_true rfl⟩) ⟨qPre.blind, qrecvL hK hw.1 qOb_7 rfl, qPre.atL hK hw.1⟩ rfl rfl hl.1 rfl (lv_room (Nat.le_of_ble_eq_true rfl)) dL_law_388 ⟨Nat.le_of_ble_eq_true rfl, Nat.le_of_ble_eq_true rfl⟩) (fun r1 N1 H locs hP hw hS => ?_)
  refine lv_aload_n hx hb dL_law_391 rfl (lv_at hl 2 rfl) ?_
  refine lv_aload_n hx hb dL_law_392 rfl (lv_at hl 0 rfl) ?_
  refine lv_iload_n hx hb dL_law_393 rfl (lv_at hl 3 rfl) ?_
  refine lv_iconst (v := 1) hx hb dL_law_394 (by decide) ?_
  refine lv_iadd hx hb dL_law_395 ?_
  refine va_sld hx hb hX hbl hbA hS j1 dL_law_396 ?_
  refine yl_2i hw hS (va_runV (As := [.int (xs (nI i + 1).toNatClampNeg)]) (rest := [.int r1]) ⟨hx, hb, hml, hown, htl⟩ (c_X8_leave l G (fun k => s.heap.size + 75 + k) (qI_a2 _) M2 _ (xs (nI i + 1).toNatClampNeg) hP) (cwV 1 htl gL_law_X8_leave rfl rfl rfl (by decide +kernel) ⟨Nat.le_of_ble_eq_true rfl, Nat.le_of_ble_eq_true rfl⟩) ⟨qPre.blind, qrecvL hK hw.2 qOb_8 rfl, qPre.atL hK hw.2⟩ rfl rfl hl.1 rfl (lv_room (Nat.le_of_ble_eq_true rfl)) dL_law_397 ⟨Nat.le_of_ble_eq_true rfl, Nat.le_of_ble_eq_true rfl⟩) (fun r2 N2 H locs hP hw hS => ?_)
  refine lv_icmp_eq (tgt := 1091) hx hb dL_law_400 (by decide) (fun hc => ?_) (fun hc => ?_)
  · exact kk _ _ _ _ hP.2 hw hS
  · exact absurd hP.1.symm hc
def qT_say (R : qM → qM → Prop) : Prop := ∀ M1 M2, R M1 M2 → ∀ x1 : Int32, qOk2 (kX7_say M1 x1) (fun r1 N1 => qOk2 (kX8_say M2 x1) (fun r2 N2 => r2 = r1 ∧ R N1 N2))
set_option maxHeartbeats 4000000 in
set_option maxRecDepth 100000 in
theorem lc_say {p : Program} {l : Launch} {e : Env} {s : State} {m : MethodId} {below : List Frame} {meth : Method} {c : Code} {b L : Nat} {xs : Nat → Int32} (hL : L ≤ 384) (C0 : lw_At p s m meth c b L xs) {G : qG} (hK : qK G s) {R : qM → qM → Prop} (T : qT_say R) {M1 M2 : qM} {H : Heap} {locs : List Loc} {ls : Array Slot} {i : Nat} (hi : i + 6 ≤ L) (hR : R M1 M2) (hw : qLw G s.heap.size M1 M2 H) (hS : va_S (fun q => s.heap.size ≤ q) s.heap H locs) (hl : lv_has ls 4 [(0, .ref b), (1, .ref (s.heap.size + 0)), (2, .ref (s.heap.size + 75 + 0)), (3, .int (nI i))]) (kk : ∀ (M1 M2 : qM) (H : Heap) (locs : List Loc), R M1 M2 → qLw G s.heap.size M1 M2 H → va_S (fun q => s.heap.size ≤ q) s.heap H locs → W p l e room_1 s m #[Value.ref b] below meth c H locs 600000 7302250 (lw_Z below #[Value.ref b] s) (F0 m 1091 ls [])) : W p l e room_1 s m #[Value.ref b] below meth c H locs 600000 7302250 (lw_Z below #[Value.ref b] s) (F0 m 405 ls []) := by
  obtain ⟨hx, hb, hr, hml, hown, hts, hX, hbl, hlocks, hgv⟩ := C0
  have hown : s.vm.findClass RL = some m.cls := hown
  have htl : ∀ w ∈ wsL_law, w.before #[Value.ref b] s = true := fun w hw => hts w (wsL_law_in w hw)
  have hbA : ¬ (fun q : Nat => s.heap.size ≤ q) b := Nat.not_le.mpr hbl
  have j1 : vp_in (nI i + 1) L := qj_in (k := 1) (by omega) hL
  have TT := T M1 M2 hR (xs (nI i + 1).toNatClampNeg)
  refine lv_aload_n hx hb dL_law_405 rfl (lv_at hl 1 rfl) ?_
  refine lv_aload_n hx hb dL_law_406 rfl (lv_at hl 0 rfl) ?_
  refine lv_iload_n hx hb dL_law_407 rfl (lv_at hl 3 rfl) ?_
  refine lv_iconst (v := 1) hx hb dL_law_408 (by decide) ?_
  refine lv_iadd hx hb dL_law_409 ?_
  refine va_sld hx hb hX hbl hbA hS j1 dL_law_410 ?_
  refine yl_1i hw hS (va_runV (As := [.int (xs (nI i + 1).toNatClampNeg)]) (rest := []) ⟨hx, hb, hml, hown, htl⟩ (c_X7_say l G (fun k => s.heap.size + k) (qI_a1 _) M1 _ (xs (nI i + 1).toNatClampNeg) TT) (cwV 1 htl gL_law_X7_say rfl rfl rfl (by decide +kernel) ⟨Nat.le_of_ble_eq_true rfl, Nat.le_of_ble_eq_true rfl⟩) ⟨qPre.blind, qrecvL hK hw.1 qOb_7 rfl, qPre.atL hK hw.1⟩ rfl rfl hl.1 rfl (lv_room (Nat.le_of_ble_eq_true rfl)) dL_law_411 ⟨Nat.le_of_ble_eq_true rfl, Nat.le_of_ble_eq_true rfl⟩) (fun r1 N1 H locs hP hw hS => ?_)
  refine lv_aload_n hx hb dL_law_414 rfl (lv_at hl 2 rfl) ?_
  refine lv_aload_n hx hb dL_law_415 rfl (lv_at hl 0 rfl) ?_
  refine lv_iload_n hx hb dL_law_416 rfl (lv_at hl 3 rfl) ?_
  refine lv_iconst (v := 1) hx hb dL_law_417 (by decide) ?_
  refine lv_iadd hx hb dL_law_418 ?_
  refine va_sld hx hb hX hbl hbA hS j1 dL_law_419 ?_
  refine yl_2i hw hS (va_runV (As := [.int (xs (nI i + 1).toNatClampNeg)]) (rest := [.int r1]) ⟨hx, hb, hml, hown, htl⟩ (c_X8_say l G (fun k => s.heap.size + 75 + k) (qI_a2 _) M2 _ (xs (nI i + 1).toNatClampNeg) hP) (cwV 1 htl gL_law_X8_say rfl rfl rfl (by decide +kernel) ⟨Nat.le_of_ble_eq_true rfl, Nat.le_of_ble_eq_true rfl⟩) ⟨qPre.blind, qrecvL hK hw.2 qOb_8 rfl, qPre.atL hK hw.2⟩ rfl rfl hl.1 rfl (lv_room (Nat.le_of_ble_eq_true rfl)) dL_law_420 ⟨Nat.le_of_ble_eq_true rfl, Nat.le_of_ble_eq_true rfl⟩) (fun r2 N2 H locs hP hw hS => ?_)
  refine lv_icmp_eq (tgt := 1091) hx hb dL_law_423 (by decide) (fun hc => ?_) (fun hc => ?_)
  · exact kk _ _ _ _ hP.2 hw hS
  · exact absurd hP.1.symm hc
def qT_wipe (R : qM → qM → Prop) : Prop := ∀ M1 M2, R M1 M2 → qOk2 (kX7_wipe M1) (fun r1 N1 => qOk2 (kX8_wipe M2) (fun r2 N2 => r2 = r1 ∧ R N1 N2))
set_option maxHeartbeats 4000000 in
set_option maxRecDepth 100000 in
theorem lc_wipe {p : Program} {l : Launch} {e : Env} {s : State} {m : MethodId} {below : List Frame} {meth : Method} {c : Code} {b L : Nat} {xs : Nat → Int32} (hL : L ≤ 384) (C0 : lw_At p s m meth c b L xs) {G : qG} (hK : qK G s) {R : qM → qM → Prop} (T : qT_wipe R) {M1 M2 : qM} {H : Heap} {locs : List Loc} {ls : Array Slot} {i : Nat} (hi : i + 6 ≤ L) (hR : R M1 M2) (hw : qLw G s.heap.size M1 M2 H) (hS : va_S (fun q => s.heap.size ≤ q) s.heap H locs) (hl : lv_has ls 4 [(0, .ref b), (1, .ref (s.heap.size + 0)), (2, .ref (s.heap.size + 75 + 0)), (3, .int (nI i))]) (kk : ∀ (M1 M2 : qM) (H : Heap) (locs : List Loc), R M1 M2 → qLw G s.heap.size M1 M2 H → va_S (fun q => s.heap.size ≤ q) s.heap H locs → W p l e room_1 s m #[Value.ref b] below meth c H locs 600000 7302250 (lw_Z below #[Value.ref b] s) (F0 m 1091 ls [])) : W p l e room_1 s m #[Value.ref b] below meth c H locs 600000 7302250 (lw_Z below #[Value.ref b] s) (F0 m 428 ls []) := by
  obtain ⟨hx, hb, hr, hml, hown, hts, hX, hbl, hlocks, hgv⟩ := C0
  have hown : s.vm.findClass RL = some m.cls := hown
  have htl : ∀ w ∈ wsL_law, w.before #[Value.ref b] s = true := fun w hw => hts w (wsL_law_in w hw)
  have hbA : ¬ (fun q : Nat => s.heap.size ≤ q) b := Nat.not_le.mpr hbl
  have TT := T M1 M2 hR
  refine lv_aload_n hx hb dL_law_428 rfl (lv_at hl 1 rfl) ?_
  refine yl_1i hw hS (va_runV (As := []) (rest := []) ⟨hx, hb, hml, hown, htl⟩ (c_X7_wipe l G (fun k => s.heap.size + k) (qI_a1 _) M1 _ TT) (cwV 0 htl gL_law_X7_wipe rfl rfl rfl (by decide +kernel) ⟨Nat.le_of_ble_eq_true rfl, Nat.le_of_ble_eq_true rfl⟩) ⟨qPre.blind, qrecvL hK hw.1 qOb_7 rfl, qPre.atL hK hw.1⟩ rfl rfl hl.1 rfl (lv_room (Nat.le_of_ble_eq_true rfl)) dL_law_429 ⟨Nat.le_of_ble_eq_true rfl, Nat.le_of_ble_eq_true rfl⟩) (fun r1 N1 H locs hP hw hS => ?_)
  refine lv_aload_n hx hb dL_law_432 rfl (lv_at hl 2 rfl) ?_
  refine yl_2i hw hS (va_runV (As := []) (rest := [.int r1]) ⟨hx, hb, hml, hown, htl⟩ (c_X8_wipe l G (fun k => s.heap.size + 75 + k) (qI_a2 _) M2 _ hP) (cwV 0 htl gL_law_X8_wipe rfl rfl rfl (by decide +kernel) ⟨Nat.le_of_ble_eq_true rfl, Nat.le_of_ble_eq_true rfl⟩) ⟨qPre.blind, qrecvL hK hw.2 qOb_8 rfl, qPre.atL hK hw.2⟩ rfl rfl hl.1 rfl (lv_room (Nat.le_of_ble_eq_true rfl)) dL_law_433 ⟨Nat.le_of_ble_eq_true rfl, Nat.le_of_ble_eq_true rfl⟩) (fun r2 N2 H locs hP hw hS => ?_)
  refine lv_icmp_eq (tgt := 1091) hx hb dL_law_436 (by decide) (fun hc => ?_) (fun hc => ?_)
  · exact kk _ _ _ _ hP.2 hw hS
  · exact absurd hP.1.symm hc
def qT_fault (R : qM → qM → Prop) : Prop := ∀ M1 M2, R M1 M2 → qOk2 (kX7_fault M1) (fun r1 N1 => qOk (kX8_fault M2) (fun r2 => r2 = r1 ∧ R N1 M2))
set_option maxHeartbeats 4000000 in
set_option maxRecDepth 100000 in
theorem lc_fault {p : Program} {l : Launch} {e : Env} {s : State} {m : MethodId} {below : List Frame} {meth : Method} {c : Code} {b L : Nat} {xs : Nat → Int32} (hL : L ≤ 384) (C0 : lw_At p s m meth c b L xs) {G : qG} (hK : qK G s) {R : qM → qM → Prop} (T : qT_fault R) {M1 M2 : qM} {H : Heap} {locs : List Loc} {ls : Array Slot} {i : Nat} (hi : i + 6 ≤ L) (hR : R M1 M2) (hw : qLw G s.heap.size M1 M2 H) (hS : va_S (fun q => s.heap.size ≤ q) s.heap H locs) (hl : lv_has ls 4 [(0, .ref b), (1, .ref (s.heap.size + 0)), (2, .ref (s.heap.size + 75 + 0)), (3, .int (nI i))]) (kk : ∀ (M1 M2 : qM) (H : Heap) (locs : List Loc), R M1 M2 → qLw G s.heap.size M1 M2 H → va_S (fun q => s.heap.size ≤ q) s.heap H locs → W p l e room_1 s m #[Value.ref b] below meth c H locs 600000 7302250 (lw_Z below #[Value.ref b] s) (F0 m 1091 ls [])) : W p l e room_1 s m #[Value.ref b] below meth c H locs 600000 7302250 (lw_Z below #[Value.ref b] s) (F0 m 441 ls []) := by
  obtain ⟨hx, hb, hr, hml, hown, hts, hX, hbl, hlocks, hgv⟩ := C0
  have hown : s.vm.findClass RL = some m.cls := hown
  have htl : ∀ w ∈ wsL_law, w.before #[Value.ref b] s = true := fun w hw => hts w (wsL_law_in w hw)
  have hbA : ¬ (fun q : Nat => s.heap.size ≤ q) b := Nat.not_le.mpr hbl
  have TT := T M1 M2 hR
  refine lv_aload_n hx hb dL_law_441 rfl (lv_at hl 1 rfl) ?_
  refine yl_1i hw hS (va_runV (As := []) (rest := []) ⟨hx, hb, hml, hown, htl⟩ (c_X7_fault l G (fun k => s.heap.size + k) (qI_a1 _) M1 _ TT) (cwV 0 htl gL_law_X7_fault rfl rfl rfl (by decide +kernel) ⟨Nat.le_of_ble_eq_true rfl, Nat.le_of_ble_eq_true rfl⟩) ⟨qPre.blind, qrecvL hK hw.1 qOb_7 rfl, qPre.atL hK hw.1⟩ rfl rfl hl.1 rfl (lv_room (Nat.le_of_ble_eq_true rfl)) dL_law_442 ⟨Nat.le_of_ble_eq_true rfl, Nat.le_of_ble_eq_true rfl⟩) (fun r1 N1 H locs hP hw hS => ?_)
  refine lv_aload_n hx hb dL_law_445 rfl (lv_at hl 2 rfl) ?_
  refine yl_p (va_runV (As := []) (rest := [.int r1]) ⟨hx, hb, hml, hown, htl⟩ (c_X8_fault l G (fun k => s.heap.size + 75 + k) (qI_a2 _) M2 _ hP) (cwV 0 htl gL_law_X8_fault rfl rfl rfl (by decide +kernel) ⟨Nat.le_of_ble_eq_true rfl, Nat.le_of_ble_eq_true rfl⟩) ⟨qPre.blind, qrecvL hK hw.2 qOb_8 rfl, qPre.atL hK hw.2⟩ rfl rfl hl.1 rfl (lv_room (Nat.le_of_ble_eq_true rfl)) dL_law_446 ⟨Nat.le_of_ble_eq_true rfl, Nat.le_of_ble_eq_true rfl⟩) (fun r2 hP => ?_)
  refine lv_icmp_eq (tgt := 1091) hx hb dL_law_449 (by decide) (fun hc => ?_) (fun hc => ?_)
  · exact kk _ _ _ _ hP.2 hw hS
  · exact absurd hP.1.symm hc
def qT_judge (R : qM → qM → Prop) : Prop := ∀ M1 M2, R M1 M2 → ∀ x1 : Int32, qOk2 (kX7_judge M1 x1) (fun r1 N1 => qOk2 (kX8_judge M2 x1) (fun r2 N2 => r2 = r1 ∧ R N1 N2))
set_option maxHeartbeats 4000000 in
set_option maxRecDepth 100000 in
theorem lc_judge {p : Program} {l : Launch} {e : Env} {s : State} {m : MethodId} {below : List Frame} {meth : Method} {c : Code} {b L : Nat} {xs : Nat → Int32} (hL : L ≤ 384) (C0 : lw_At p s m meth c b L xs) {G : qG} (hK : qK G s) {R : qM → qM → Prop} (T : qT_judge R) {M1 M2 : qM} {H : Heap} {locs : List Loc} {ls : Array Slot} {i : Nat} (hi : i + 6 ≤ L) (hR : R M1 M2) (hw : qLw G s.heap.size M1 M2 H) (hS : va_S (fun q => s.heap.size ≤ q) s.heap H locs) (hl : lv_has ls 4 [(0, .ref b), (1, .ref (s.heap.size + 0)), (2, .ref (s.heap.size + 75 + 0)), (3, .int (nI i))]) (kk : ∀ (M1 M2 : qM) (H : Heap) (locs : List Loc), R M1 M2 → qLw G s.heap.size M1 M2 H → va_S (fun q => s.heap.size ≤ q) s.heap H locs → W p l e room_1 s m #[Value.ref b] below meth c H locs 600000 7302250 (lw_Z below #[Value.ref b] s) (F0 m 1091 ls [])) : W p l e room_1 s m #[Value.ref b] below meth c H locs 600000 7302250 (lw_Z below #[Value.ref b] s) (F0 m 454 ls []) := by
  obtain ⟨hx, hb, hr, hml, hown, hts, hX, hbl, hlocks, hgv⟩ := C0
  have hown : s.vm.findClass RL = some m.cls := hown
  have htl : ∀ w ∈ wsL_law, w.before #[Value.ref b] s = true := fun w hw => hts w (wsL_law_in w hw)
  have hbA : ¬ (fun q : Nat => s.heap.size ≤ q) b := Nat.not_le.mpr hbl
  have j1 : vp_in (nI i + 1) L := qj_in (k := 1) (by omega) hL
  have TT := T M1 M2 hR (xs (nI i + 1).toNatClampNeg)
  refine lv_aload_n hx hb dL_law_454 rfl (lv_at hl 1 rfl) ?_
  refine lv_aload_n hx hb dL_law_455 rfl (lv_at hl 0 rfl) ?_
  refine lv_iload_n hx hb dL_law_456 rfl (lv_at hl 3 rfl) ?_
  refine lv_iconst (v := 1) hx hb dL_law_457 (by decide) ?_
  refine lv_iadd hx hb dL_law_458 ?_
  refine va_sld hx hb hX hbl hbA hS j1 dL_law_459 ?_
  refine yl_1i hw hS (va_runV (As := [.int (xs (nI i + 1).toNatClampNeg)]) (rest := []) ⟨hx, hb, hml, hown, htl⟩ (c_X7_judge l G (fun k => s.heap.size + k) (qI_a1 _) M1 _ (xs (nI i + 1).toNatClampNeg) TT) (cwV 1 htl gL_law_X7_judge rfl rfl rfl (by decide +kernel) ⟨Nat.le_of_ble_eq_true rfl, Nat.le_of_ble_eq_true rfl⟩) ⟨qPre.blind, qrecvL hK hw.1 qOb_7 rfl, qPre.atL hK hw.1⟩ rfl rfl hl.1 rfl (lv_room (Nat.le_of_ble_eq_true rfl)) dL_law_460 ⟨Nat.le_of_ble_eq_true rfl, Nat.le_of_ble_eq_true rfl⟩) (fun r1 N1 H locs hP hw hS => ?_)
  refine lv_aload_n hx hb dL_law_463 rfl (lv_at hl 2 rfl) ?_
  refine lv_aload_n hx hb dL_law_464 rfl (lv_at hl 0 rfl) ?_
  refine lv_iload_n hx hb dL_law_465 rfl (lv_at hl 3 rfl) ?_
  refine lv_iconst (v := 1) hx hb dL_law_466 (by decide) ?_
  refine lv_iadd hx hb dL_law_467 ?_
  refine va_sld hx hb hX hbl hbA hS j1 dL_law_468 ?_
  refine yl_2i hw hS (va_runV (As := [.int (xs (nI i + 1).toNatClampNeg)]) (rest := [.int r1]) ⟨hx, hb, hml, hown, htl⟩ (c_X8_judge l G (fun k => s.heap.size + 75 + k) (qI_a2 _) M2 _ (xs (nI i + 1).toNatClampNeg) hP) (cwV 1 htl gL_law_X8_judge rfl rfl rfl (by decide +kernel) ⟨Nat.le_of_ble_eq_true rfl, Nat.le_of_ble_eq_true rfl⟩) ⟨qPre.blind, qrecvL hK hw.2 qOb_8 rfl, qPre.atL hK hw.2⟩ rfl rfl hl.1 rfl (lv_room (Nat.le_of_ble_eq_true rfl)) dL_law_469 ⟨Nat.le_of_ble_eq_true rfl, Nat.le_of_ble_eq_true rfl⟩) (fun r2 N2 H locs hP hw hS => ?_)
  refine lv_icmp_eq (tgt := 1091) hx hb dL_law_472 (by decide) (fun hc => ?_) (fun hc => ?_)
  · exact kk _ _ _ _ hP.2 hw hS
  · exact absurd hP.1.symm hc
def qT_done (R : qM → qM → Prop) : Prop := ∀ M1 M2, R M1 M2 → qOk2 (kX7_done M1) (fun r1 N1 => qOk2 (kX8_done M2) (fun r2 N2 => r2 = r1 ∧ R N1 N2))
set_option maxHeartbeats 4000000 in
set_option maxRecDepth 100000 in
theorem lc_done {p : Program} {l : Launch} {e : Env} {s : State} {m : MethodId} {below : List Frame} {meth : Method} {c : Code} {b L : Nat} {xs : Nat → Int32} (hL : L ≤ 384) (C0 : lw_At p s m meth c b L xs) {G : qG} (hK : qK G s) {R : qM → qM → Prop} (T : qT_done R) {M1 M2 : qM} {H : Heap} {locs : List Loc} {ls : Array Slot} {i : Nat} (hi : i + 6 ≤ L) (hR : R M1 M2) (hw : qLw G s.heap.size M1 M2 H) (hS : va_S (fun q => s.heap.size ≤ q) s.heap H locs) (hl : lv_has ls 4 [(0, .ref b), (1, .ref (s.heap.size + 0)), (2, .ref (s.heap.size + 75 + 0)), (3, .int (nI i))]) (kk : ∀ (M1 M2 : qM) (H : Heap) (locs : List Loc), R M1 M2 → qLw G s.heap.size M1 M2 H → va_S (fun q => s.heap.size ≤ q) s.heap H locs → W p l e room_1 s m #[Value.ref b] below meth c H locs 600000 7302250 (lw_Z below #[Value.ref b] s) (F0 m 1091 ls [])) : W p l e room_1 s m #[Value.ref b] below meth c H locs 600000 7302250 (lw_Z below #[Value.ref b] s) (F0 m 477 ls []) := by
  obtain ⟨hx, hb, hr, hml, hown, hts, hX, hbl, hlocks, hgv⟩ := C0
  have hown : s.vm.findClass RL = some m.cls := hown
  have htl : ∀ w ∈ wsL_law, w.before #[Value.ref b] s = true := fun w hw => hts w (wsL_law_in w hw)
  have hbA : ¬ (fun q : Nat => s.heap.size ≤ q) b := Nat.not_le.mpr hbl
  have TT := T M1 M2 hR
  refine lv_aload_n hx hb dL_law_477 rfl (lv_at hl 1 rfl) ?_
  refine yl_1i hw hS (va_runV (As := []) (rest := []) ⟨hx, hb, hml, hown, htl⟩ (c_X7_done l G (fun k => s.heap.size + k) (qI_a1 _) M1 _ TT) (cwV 0 htl gL_law_X7_done rfl rfl rfl (by decide +kernel) ⟨Nat.le_of_ble_eq_true rfl, Nat.le_of_ble_eq_true rfl⟩) ⟨qPre.blind, qrecvL hK hw.1 qOb_7 rfl, qPre.atL hK hw.1⟩ rfl rfl hl.1 rfl (lv_room (Nat.le_of_ble_eq_true rfl)) dL_law_478 ⟨Nat.le_of_ble_eq_true rfl, Nat.le_of_ble_eq_true rfl⟩) (fun r1 N1 H locs hP hw hS => ?_)
  refine lv_aload_n hx hb dL_law_481 rfl (lv_at hl 2 rfl) ?_
  refine yl_2i hw hS (va_runV (As := []) (rest := [.int r1]) ⟨hx, hb, hml, hown, htl⟩ (c_X8_done l G (fun k => s.heap.size + 75 + k) (qI_a2 _) M2 _ hP) (cwV 0 htl gL_law_X8_done rfl rfl rfl (by decide +kernel) ⟨Nat.le_of_ble_eq_true rfl, Nat.le_of_ble_eq_true rfl⟩) ⟨qPre.blind, qrecvL hK hw.2 qOb_8 rfl, qPre.atL hK hw.2⟩ rfl rfl hl.1 rfl (lv_room (Nat.le_of_ble_eq_true rfl)) dL_law_482 ⟨Nat.le_of_ble_eq_true rfl, Nat.le_of_ble_eq_true rfl⟩) (fun r2 N2 H locs hP hw hS => ?_)
  refine lv_icmp_eq (tgt := 1091) hx hb dL_law_485 (by decide) (fun hc => ?_) (fun hc => ?_)
  · exact kk _ _ _ _ hP.2 hw hS
  · exact absurd hP.1.symm hc
def qT_behind (R : qM → qM → Prop) : Prop := ∀ M1 M2, R M1 M2 → ∀ x1 x2 : Int32, qOk2 (kX7_behind M1 x1 x2) (fun r1 N1 => qOk2 (kX8_behind M2 x1 x2) (fun r2 N2 => r2 = r1 ∧ R N1 N2))
set_option maxHeartbeats 4000000 in
set_option maxRecDepth 100000 in
theorem lc_behind {p : Program} {l : Launch} {e : Env} {s : State} {m : MethodId} {below : List Frame} {meth : Method} {c : Code} {b L : Nat} {xs : Nat → Int32} (hL : L ≤ 384) (C0 : lw_At p s m meth c b L xs) {G : qG} (hK : qK G s) {R : qM → qM → Prop} (T : qT_behind R) {M1 M2 : qM} {H : Heap} {locs : List Loc} {ls : Array Slot} {i : Nat} (hi : i + 6 ≤ L) (hR : R M1 M2) (hw : qLw G s.heap.size M1 M2 H) (hS : va_S (fun q => s.heap.size ≤ q) s.heap H locs) (hl : lv_has ls 4 [(0, .ref b), (1, .ref (s.heap.size + 0)), (2, .ref (s.heap.size + 75 + 0)), (3, .int (nI i))]) (kk : ∀ (M1 M2 : qM) (H : Heap) (locs : List Loc), R M1 M2 → qLw G s.heap.size M1 M2 H → va_S (fun q => s.heap.size ≤ q) s.heap H locs → W p l e room_1 s m #[Value.ref b] below meth c H locs 600000 7302250 (lw_Z below #[Value.ref b] s) (F0 m 1091 ls [])) : W p l e room_1 s m #[Value.ref b] below meth c H locs 600000 7302250 (lw_Z below #[Value.ref b] s) (F0 m 490 ls []) := by
  obtain ⟨hx, hb, hr, hml, hown, hts, hX, hbl, hlocks, hgv⟩ := C0
  have hown : s.vm.findClass RL = some m.cls := hown
  have htl : ∀ w ∈ wsL_law, w.before #[Value.ref b] s = true := fun w hw => hts w (wsL_law_in w hw)
  have hbA : ¬ (fun q : Nat => s.heap.size ≤ q) b := Nat.not_le.mpr hbl
  have j1 : vp_in (nI i + 1) L := qj_in (k := 1) (by omega) hL
  have j2 : vp_in (nI i + 2) L := qj_in (k := 2) (by omega) hL
  have TT := T M1 M2 hR (xs (nI i + 1).toNatClampNeg) (xs (nI i + 2).toNatClampNeg)
  refine lv_aload_n hx hb dL_law_490 rfl (lv_at hl 1 rfl) ?_
  refine lv_aload_n hx hb dL_law_491 rfl (lv_at hl 0 rfl) ?_
  refine lv_iload_n hx hb dL_law_492 rfl (lv_at hl 3 rfl) ?_
  refine lv_iconst (v := 1) hx hb dL_law_493 (by decide) ?_
  refine lv_iadd hx hb dL_law_494 ?_
  refine va_sld hx hb hX hbl hbA hS j1 dL_law_495 ?_
  refine lv_aload_n hx hb dL_law_496 rfl (lv_at hl 0 rfl) ?_
  refine lv_iload_n hx hb dL_law_497 rfl (lv_at hl 3 rfl) ?_
  refine lv_iconst (v := 2) hx hb dL_law_498 (by decide) ?_
  refine lv_iadd hx hb dL_law_499 ?_
  refine va_sld hx hb hX hbl hbA hS j2 dL_law_500 ?_
  refine yl_1i hw hS (va_runV (As := [.int (xs (nI i + 1).toNatClampNeg), .int (xs (nI i + 2).toNatClampNeg)]) (rest := []) ⟨hx, hb, hml, hown, htl⟩ (c_X7_behind l G (fun k => s.heap.size + k) (qI_a1 _) M1 _ (xs (nI i + 1).toNatClampNeg) (xs (nI i + 2).toNatClampNeg) TT) (cwV 2 htl gL_law_X7_behind rfl rfl rfl (by decide +kernel) ⟨Nat.le_of_ble_eq_true rfl, Nat.le_of_ble_eq_true rfl⟩) ⟨qPre.blind, qrecvL hK hw.1 qOb_7 rfl, qPre.atL hK hw.1⟩ rfl rfl hl.1 rfl (lv_room (Nat.le_of_ble_eq_true rfl)) dL_law_501 ⟨Nat.le_of_ble_eq_true rfl, Nat.le_of_ble_eq_true rfl⟩) (fun r1 N1 H locs hP hw hS => ?_)
  refine lv_aload_n hx hb dL_law_504 rfl (lv_at hl 2 rfl) ?_
  refine lv_aload_n hx hb dL_law_505 rfl (lv_at hl 0 rfl) ?_
  refine lv_iload_n hx hb dL_law_506 rfl (lv_at hl 3 rfl) ?_
  refine lv_iconst (v := 1) hx hb dL_law_507 (by decide) ?_
  refine lv_iadd hx hb dL_law_508 ?_
  refine va_sld hx hb hX hbl hbA hS j1 dL_law_509 ?_
  refine lv_aload_n hx hb dL_law_510 rfl (lv_at hl 0 rfl) ?_
  refine lv_iload_n hx hb dL_law_511 rfl (lv_at hl 3 rfl) ?_
  refine lv_iconst (v := 2) hx hb dL_law_512 (by decide) ?_
  refine lv_iadd hx hb dL_law_513 ?_
  refine va_sld hx hb hX hbl hbA hS j2 dL_law_514 ?_
  refine yl_2i hw hS (va_runV (As := [.int (xs (nI i + 1).toNatClampNeg), .int (xs (nI i + 2).toNatClampNeg)]) (rest := [.int r1]) ⟨hx, hb, hml, hown, htl⟩ (c_X8_behind l G (fun k => s.heap.size + 75 + k) (qI_a2 _) M2 _ (xs (nI i + 1).toNatClampNeg) (xs (nI i + 2).toNatClampNeg) hP) (cwV 2 htl gL_law_X8_behind rfl rfl rfl (by decide +kernel) ⟨Nat.le_of_ble_eq_true rfl, Nat.le_of_ble_eq_true rfl⟩) ⟨qPre.blind, qrecvL hK hw.2 qOb_8 rfl, qPre.atL hK hw.2⟩ rfl rfl hl.1 rfl (lv_room (Nat.le_of_ble_eq_true rfl)) dL_law_515 ⟨Nat.le_of_ble_eq_true rfl, Nat.le_of_ble_eq_true rfl⟩) (fun r2 N2 H locs hP hw hS => ?_)
  refine lv_icmp_eq (tgt := 1091) hx hb dL_law_518 (by decide) (fun hc => ?_) (fun hc => ?_)
  · exact kk _ _ _ _ hP.2 hw hS
  · exact absurd hP.1.symm hc
def qT_seam (R : qM → qM → Prop) : Prop := ∀ M1 M2, R M1 M2 → ∀ x1 x2 : Int32, qOk2 (kX7_seam M1 x1 x2) (fun r1 N1 => qOk2 (kX8_seam M2 x1 x2) (fun r2 N2 => r2 = r1 ∧ R N1 N2))
set_option maxHeartbeats 4000000 in
set_option maxRecDepth 100000 in
theorem lc_seam {p : Program} {l : Launch} {e : Env} {s : State} {m : MethodId} {below : List Frame} {meth : Method} {c : Code} {b L : Nat} {xs : Nat → Int32} (hL : L ≤ 384) (C0 : lw_At p s m meth c b L xs) {G : qG} (hK : qK G s) {R : qM → qM → Prop} (T : qT_seam R) {M1 M2 : qM} {H : Heap} {locs : List Loc} {ls : Array Slot} {i : Nat} (hi : i + 6 ≤ L) (hR : R M1 M2) (hw : qLw G s.heap.size M1 M2 H) (hS : va_S (fun q => s.heap.size ≤ q) s.heap H locs) (hl : lv_has ls 4 [(0, .ref b), (1, .ref (s.heap.size + 0)), (2, .ref (s.heap.size + 75 + 0)), (3, .int (nI i))]) (kk : ∀ (M1 M2 : qM) (H : Heap) (locs : List Loc), R M1 M2 → qLw G s.heap.size M1 M2 H → va_S (fun q => s.heap.size ≤ q) s.heap H locs → W p l e room_1 s m #[Value.ref b] below meth c H locs 600000 7302250 (lw_Z below #[Value.ref b] s) (F0 m 1091 ls [])) : W p l e room_1 s m #[Value.ref b] below meth c H locs 600000 7302250 (lw_Z below #[Value.ref b] s) (F0 m 523 ls []) := by
  obtain ⟨hx, hb, hr, hml, hown, hts, hX, hbl, hlocks, hgv⟩ := C0
  have hown : s.vm.findClass RL = some m.cls := hown
  have htl : ∀ w ∈ wsL_law, w.before #[Value.ref b] s = true := fun w hw => hts w (wsL_law_in w hw)
  have hbA : ¬ (fun q : Nat => s.heap.size ≤ q) b := Nat.not_le.mpr hbl
  have j1 : vp_in (nI i + 1) L := qj_in (k := 1) (by omega) hL
  have j2 : vp_in (nI i + 2) L := qj_in (k := 2) (by omega) hL
  have TT := T M1 M2 hR (xs (nI i + 1).toNatClampNeg) (xs (nI i + 2).toNatClampNeg)
  refine lv_aload_n hx hb dL_law_523 rfl (lv_at hl 1 rfl) ?_
  refine lv_aload_n hx hb dL_law_524 rfl (lv_at hl 0 rfl) ?_
  refine lv_iload_n hx hb dL_law_525 rfl (lv_at hl 3 rfl) ?_
  refine lv_iconst (v := 1) hx hb dL_law_526 (by decide) ?_
  refine lv_iadd hx hb dL_law_527 ?_
  refine va_sld hx hb hX hbl hbA hS j1 dL_law_528 ?_
  refine lv_aload_n hx hb dL_law_529 rfl (lv_at hl 0 rfl) ?_
  refine lv_iload_n hx hb dL_law_530 rfl (lv_at hl 3 rfl) ?_
  refine lv_iconst (v := 2) hx hb dL_law_531 (by decide) ?_
  refine lv_iadd hx hb dL_law_532 ?_
  refine va_sld hx hb hX hbl hbA hS j2 dL_law_533 ?_
  refine yl_1i hw hS (va_runV (As := [.int (xs (nI i + 1).toNatClampNeg), .int (xs (nI i + 2).toNatClampNeg)]) (rest := []) ⟨hx, hb, hml, hown, htl⟩ (c_X7_seam l G (fun k => s.heap.size + k) (qI_a1 _) M1 _ (xs (nI i + 1).toNatClampNeg) (xs (nI i + 2).toNatClampNeg) TT) (cwV 2 htl gL_law_X7_seam rfl rfl rfl (by decide +kernel) ⟨Nat.le_of_ble_eq_true rfl, Nat.le_of_ble_eq_true rfl⟩) ⟨qPre.blind, qrecvL hK hw.1 qOb_7 rfl, qPre.atL hK hw.1⟩ rfl rfl hl.1 rfl (lv_room (Nat.le_of_ble_eq_true rfl)) dL_law_534 ⟨Nat.le_of_ble_eq_true rfl, Nat.le_of_ble_eq_true rfl⟩) (fun r1 N1 H locs hP hw hS => ?_)
  refine lv_aload_n hx hb dL_law_537 rfl (lv_at hl 2 rfl) ?_
  refine lv_aload_n hx hb dL_law_538 rfl (lv_at hl 0 rfl) ?_
  refine lv_iload_n hx hb dL_law_539 rfl (lv_at hl 3 rfl) ?_
  refine lv_iconst (v := 1) hx hb dL_law_540 (by decide) ?_
  refine lv_iadd hx hb dL_law_541 ?_
  refine va_sld hx hb hX hbl hbA hS j1 dL_law_542 ?_
  refine lv_aload_n hx hb dL_law_543 rfl (lv_at hl 0 rfl) ?_
  refine lv_iload_n hx hb dL_law_544 rfl (lv_at hl 3 rfl) ?_
  refine lv_iconst (v := 2) hx hb dL_law_545 (by decide) ?_
  refine lv_iadd hx hb dL_law_546 ?_
  refine va_sld hx hb hX hbl hbA hS j2 dL_law_547 ?_
  refine yl_2i hw hS (va_runV (As := [.int (xs (nI i + 1).toNatClampNeg), .int (xs (nI i + 2).toNatClampNeg)]) (rest := [.int r1]) ⟨hx, hb, hml, hown, htl⟩ (c_X8_seam l G (fun k => s.heap.size + 75 + k) (qI_a2 _) M2 _ (xs (nI i + 1).toNatClampNeg) (xs (nI i + 2).toNatClampNeg) hP) (cwV 2 htl gL_law_X8_seam rfl rfl rfl (by decide +kernel) ⟨Nat.le_of_ble_eq_true rfl, Nat.le_of_ble_eq_true rfl⟩) ⟨qPre.blind, qrecvL hK hw.2 qOb_8 rfl, qPre.atL hK hw.2⟩ rfl rfl hl.1 rfl (lv_room (Nat.le_of_ble_eq_true rfl)) dL_law_548 ⟨Nat.le_of_ble_eq_true rfl, Nat.le_of_ble_eq_true rfl⟩) (fun r2 N2 H locs hP hw hS => ?_)
  refine lv_icmp_eq (tgt := 1091) hx hb dL_law_551 (by decide) (fun hc => ?_) (fun hc => ?_)
  · exact kk _ _ _ _ hP.2 hw hS
  · exact absurd hP.1.symm hc
def qT_then (R : qM → qM → Prop) : Prop := ∀ M1 M2, R M1 M2 → ∀ x1 : Int32, qOk2 (kX7_then M1 x1) (fun r1 N1 => qOk2 (kX8_then M2 x1) (fun r2 N2 => r2 = r1 ∧ R N1 N2))
set_option maxHeartbeats 4000000 in
set_option maxRecDepth 100000 in
theorem lc_then {p : Program} {l : Launch} {e : Env} {s : State} {m : MethodId} {below : List Frame} {meth : Method} {c : Code} {b L : Nat} {xs : Nat → Int32} (hL : L ≤ 384) (C0 : lw_At p s m meth c b L xs) {G : qG} (hK : qK G s) {R : qM → qM → Prop} (T : qT_then R) {M1 M2 : qM} {H : Heap} {locs : List Loc} {ls : Array Slot} {i : Nat} (hi : i + 6 ≤ L) (hR : R M1 M2) (hw : qLw G s.heap.size M1 M2 H) (hS : va_S (fun q => s.heap.size ≤ q) s.heap H locs) (hl : lv_has ls 4 [(0, .ref b), (1, .ref (s.heap.size + 0)), (2, .ref (s.heap.size + 75 + 0)), (3, .int (nI i))]) (kk : ∀ (M1 M2 : qM) (H : Heap) (locs : List Loc), R M1 M2 → qLw G s.heap.size M1 M2 H → va_S (fun q => s.heap.size ≤ q) s.heap H locs → W p l e room_1 s m #[Value.ref b] below meth c H locs 600000 7302250 (lw_Z below #[Value.ref b] s) (F0 m 1091 ls [])) : W p l e room_1 s m #[Value.ref b] below meth c H locs 600000 7302250 (lw_Z below #[Value.ref b] s) (F0 m 556 ls []) := by
  obtain ⟨hx, hb, hr, hml, hown, hts, hX, hbl, hlocks, hgv⟩ := C0
  have hown : s.vm.findClass RL = some m.cls := hown
  have htl : ∀ w ∈ wsL_law, w.before #[Value.ref b] s = true := fun w hw => hts w (wsL_law_in w hw)
  have hbA : ¬ (fun q : Nat => s.heap.size ≤ q) b := Nat.not_le.mpr hbl
  have j1 : vp_in (nI i + 1) L := qj_in (k := 1) (by omega) hL
  have TT := T M1 M2 hR (xs (nI i + 1).toNatClampNeg)
  refine lv_aload_n hx hb dL_law_556 rfl (lv_at hl 1 rfl) ?_
  refine lv_aload_n hx hb dL_law_557 rfl (lv_at hl 0 rfl) ?_
  refine lv_iload_n hx hb dL_law_558 rfl (lv_at hl 3 rfl) ?_
  refine lv_iconst (v := 1) hx hb dL_law_559 (by decide) ?_
  refine lv_iadd hx hb dL_law_560 ?_
  refine va_sld hx hb hX hbl hbA hS j1 dL_law_561 ?_
  refine yl_1i hw hS (va_runV (As := [.int (xs (nI i + 1).toNatClampNeg)]) (rest := []) ⟨hx, hb, hml, hown, htl⟩ (c_X7_then l G (fun k => s.heap.size + k) (qI_a1 _) M1 _ (xs (nI i + 1).toNatClampNeg) TT) (cwV 1 htl gL_law_X7_then rfl rfl rfl (by decide +kernel) ⟨Nat.le_of_ble_eq_true rfl, Nat.le_of_ble_eq_true rfl⟩) ⟨qPre.blind, qrecvL hK hw.1 qOb_7 rfl, qPre.atL hK hw.1⟩ rfl rfl hl.1 rfl (lv_room (Nat.le_of_ble_eq_true rfl)) dL_law_562 ⟨Nat.le_of_ble_eq_true rfl, Nat.le_of_ble_eq_true rfl⟩) (fun r1 N1 H locs hP hw hS => ?_)
  refine lv_aload_n hx hb dL_law_565 rfl (lv_at hl 2 rfl) ?_
  refine lv_aload_n hx hb dL_law_566 rfl (lv_at hl 0 rfl) ?_
  refine lv_iload_n hx hb dL_law_567 rfl (lv_at hl 3 rfl) ?_
  refine lv_iconst (v := 1) hx hb dL_law_568 (by decide) ?_
  refine lv_iadd hx hb dL_law_569 ?_
  refine va_sld hx hb hX hbl hbA hS j1 dL_law_570 ?_
  refine yl_2i hw hS (va_runV (As := [.int (xs (nI i + 1).toNatClampNeg)]) (rest := [.int r1]) ⟨hx, hb, hml, hown, htl⟩ (c_X8_then l G (fun k => s.heap.size + 75 + k) (qI_a2 _) M2 _ (xs (nI i + 1).toNatClampNeg) hP) (cwV 1 htl gL_law_X8_then rfl rfl rfl (by decide +kernel) ⟨Nat.le_of_ble_eq_true rfl, Nat.le_of_ble_eq_true rfl⟩) ⟨qPre.blind, qrecvL hK hw.2 qOb_8 rfl, qPre.atL hK hw.2⟩ rfl rfl hl.1 rfl (lv_room (Nat.le_of_ble_eq_true rfl)) dL_law_571 ⟨Nat.le_of_ble_eq_true rfl, Nat.le_of_ble_eq_true rfl⟩) (fun r2 N2 H locs hP hw hS => ?_)
  refine lv_icmp_eq (tgt := 1091) hx hb dL_law_574 (by decide) (fun hc => ?_) (fun hc => ?_)
  · exact kk _ _ _ _ hP.2 hw hS
  · exact absurd hP.1.symm hc
def qT_light (R : qM → qM → Prop) : Prop := ∀ M1 M2, R M1 M2 → ∀ x1 : Int32, qOk2 (kX7_light M1 x1) (fun r1 N1 => qOk2 (kX8_light M2 x1) (fun r2 N2 => r2 = r1 ∧ R N1 N2))
set_option maxHeartbeats 4000000 in
set_option maxRecDepth 100000 in
theorem lc_light {p : Program} {l : Launch} {e : Env} {s : State} {m : MethodId} {below : List Frame} {meth : Method} {c : Code} {b L : Nat} {xs : Nat → Int32} (hL : L ≤ 384) (C0 : lw_At p s m meth c b L xs) {G : qG} (hK : qK G s) {R : qM → qM → Prop} (T : qT_light R) {M1 M2 : qM} {H : Heap} {locs : List Loc} {ls : Array Slot} {i : Nat} (hi : i + 6 ≤ L) (hR : R M1 M2) (hw : qLw G s.heap.size M1 M2 H) (hS : va_S (fun q => s.heap.size ≤ q) s.heap H locs) (hl : lv_has ls 4 [(0, .ref b), (1, .ref (s.heap.size + 0)), (2, .ref (s.heap.size + 75 + 0)), (3, .int (nI i))]) (kk : ∀ (M1 M2 : qM) (H : Heap) (locs : List Loc), R M1 M2 → qLw G s.heap.size M1 M2 H → va_S (fun q => s.heap.size ≤ q) s.heap H locs → W p l e room_1 s m #[Value.ref b] below meth c H locs 600000 7302250 (lw_Z below #[Value.ref b] s) (F0 m 1091 ls [])) : W p l e room_1 s m #[Value.ref b] below meth c H locs 600000 7302250 (lw_Z below #[Value.ref b] s) (F0 m 579 ls []) := by
  obtain ⟨hx, hb, hr, hml, hown, hts, hX, hbl, hlocks, hgv⟩ := C0
  have hown : s.vm.findClass RL = some m.cls := hown
  have htl : ∀ w ∈ wsL_law, w.before #[Value.ref b] s = true := fun w hw => hts w (wsL_law_in w hw)
  have hbA : ¬ (fun q : Nat => s.heap.size ≤ q) b := Nat.not_le.mpr hbl
  have j1 : vp_in (nI i + 1) L := qj_in (k := 1) (by omega) hL
  have TT := T M1 M2 hR (xs (nI i + 1).toNatClampNeg)
  refine lv_aload_n hx hb dL_law_579 rfl (lv_at hl 1 rfl) ?_
  refine lv_aload_n hx hb dL_law_580 rfl (lv_at hl 0 rfl) ?_
  refine lv_iload_n hx hb dL_law_581 rfl (lv_at hl 3 rfl) ?_
  refine lv_iconst (v := 1) hx hb dL_law_582 (by decide) ?_
  refine lv_iadd hx hb dL_law_583 ?_
  refine va_sld hx hb hX hbl hbA hS j1 dL_law_584 ?_
  refine yl_1i hw hS (va_runV (As := [.int (xs (nI i + 1).toNatClampNeg)]) (rest := []) ⟨hx, hb, hml, hown, htl⟩ (c_X7_light l G (fun k => s.heap.size + k) (qI_a1 _) M1 _ (xs (nI i + 1).toNatClampNeg) TT) (cwV 1 htl gL_law_X7_light rfl rfl rfl (by decide +kernel) ⟨Nat.le_of_ble_eq_true rfl, Nat.le_of_ble_eq_true rfl⟩) ⟨qPre.blind, qrecvL hK hw.1 qOb_7 rfl, qPre.atL hK hw.1⟩ rfl rfl hl.1 rfl (lv_room (Nat.le_of_ble_eq_true rfl)) dL_law_585 ⟨Nat.le_of_ble_eq_true rfl, Nat.le_of_ble_eq_true rfl⟩) (fun r1 N1 H locs hP hw hS => ?_)
  refine lv_aload_n hx hb dL_law_588 rfl (lv_at hl 2 rfl) ?_
  refine lv_aload_n hx hb dL_law_589 rfl (lv_at hl 0 rfl) ?_
  refine lv_iload_n hx hb dL_law_590 rfl (lv_at hl 3 rfl) ?_
  refine lv_iconst (v := 1) hx hb dL_law_591 (by decide) ?_
  refine lv_iadd hx hb dL_law_592 ?_
  refine va_sld hx hb hX hbl hbA hS j1 dL_law_593 ?_
  refine yl_2i hw hS (va_runV (As := [.int (xs (nI i + 1).toNatClampNeg)]) (rest := [.int r1]) ⟨hx, hb, hml, hown, htl⟩ (c_X8_light l G (fun k => s.heap.size + 75 + k) (qI_a2 _) M2 _ (xs (nI i + 1).toNatClampNeg) hP) (cwV 1 htl gL_law_X8_light rfl rfl rfl (by decide +kernel) ⟨Nat.le_of_ble_eq_true rfl, Nat.le_of_ble_eq_true rfl⟩) ⟨qPre.blind, qrecvL hK hw.2 qOb_8 rfl, qPre.atL hK hw.2⟩ rfl rfl hl.1 rfl (lv_room (Nat.le_of_ble_eq_true rfl)) dL_law_594 ⟨Nat.le_of_ble_eq_true rfl, Nat.le_of_ble_eq_true rfl⟩) (fun r2 N2 H locs hP hw hS => ?_)
  refine lv_icmp_eq (tgt := 1091) hx hb dL_law_597 (by decide) (fun hc => ?_) (fun hc => ?_)
  · exact kk _ _ _ _ hP.2 hw hS
  · exact absurd hP.1.symm hc
def qT_shakes (R : qM → qM → Prop) : Prop := ∀ M1 M2, R M1 M2 → qOk (kX7_shakes M1) (fun r1 => qOk2 (kX8_shakes M2) (fun r2 N2 => r2 = r1 ∧ R M1 N2))
set_option maxHeartbeats 4000000 in
set_option maxRecDepth 100000 in
theorem lc_shakes {p : Program} {l : Launch} {e : Env} {s : State} {m : MethodId} {below : List Frame} {meth : Method} {c : Code} {b L : Nat} {xs : Nat → Int32} (hL : L ≤ 384) (C0 : lw_At p s m meth c b L xs) {G : qG} (hK : qK G s) {R : qM → qM → Prop} (T : qT_shakes R) {M1 M2 : qM} {H : Heap} {locs : List Loc} {ls : Array Slot} {i : Nat} (hi : i + 6 ≤ L) (hR : R M1 M2) (hw : qLw G s.heap.size M1 M2 H) (hS : va_S (fun q => s.heap.size ≤ q) s.heap H locs) (hl : lv_has ls 4 [(0, .ref b), (1, .ref (s.heap.size + 0)), (2, .ref (s.heap.size + 75 + 0)), (3, .int (nI i))]) (kk : ∀ (M1 M2 : qM) (H : Heap) (locs : List Loc), R M1 M2 → qLw G s.heap.size M1 M2 H → va_S (fun q => s.heap.size ≤ q) s.heap H locs → W p l e room_1 s m #[Value.ref b] below meth c H locs 600000 7302250 (lw_Z below #[Value.ref b] s) (F0 m 1091 ls [])) : W p l e room_1 s m #[Value.ref b] below meth c H locs 600000 7302250 (lw_Z below #[Value.ref b] s) (F0 m 602 ls []) := by
  obtain ⟨hx, hb, hr, hml, hown, hts, hX, hbl, hlocks, hgv⟩ := C0
  have hown : s.vm.findClass RL = some m.cls := hown
  have htl : ∀ w ∈ wsL_law, w.before #[Value.ref b] s = true := fun w hw => hts w (wsL_law_in w hw)
  have hbA : ¬ (fun q : Nat => s.heap.size ≤ q) b := Nat.not_le.mpr hbl
  have TT := T M1 M2 hR
  refine lv_aload_n hx hb dL_law_602 rfl (lv_at hl 1 rfl) ?_
  refine yl_p (va_runV (As := []) (rest := []) ⟨hx, hb, hml, hown, htl⟩ (c_X7_shakes l G (fun k => s.heap.size + k) (qI_a1 _) M1 _ TT) (cwV 0 htl gL_law_X7_shakes rfl rfl rfl (by decide +kernel) ⟨Nat.le_of_ble_eq_true rfl, Nat.le_of_ble_eq_true rfl⟩) ⟨qPre.blind, qrecvL hK hw.1 qOb_7 rfl, qPre.atL hK hw.1⟩ rfl rfl hl.1 rfl (lv_room (Nat.le_of_ble_eq_true rfl)) dL_law_603 ⟨Nat.le_of_ble_eq_true rfl, Nat.le_of_ble_eq_true rfl⟩) (fun r1 hP => ?_)
  refine lv_aload_n hx hb dL_law_606 rfl (lv_at hl 2 rfl) ?_
  refine yl_2i hw hS (va_runV (As := []) (rest := [.int r1]) ⟨hx, hb, hml, hown, htl⟩ (c_X8_shakes l G (fun k => s.heap.size + 75 + k) (qI_a2 _) M2 _ hP) (cwV 0 htl gL_law_X8_shakes rfl rfl rfl (by decide +kernel) ⟨Nat.le_of_ble_eq_true rfl, Nat.le_of_ble_eq_true rfl⟩) ⟨qPre.blind, qrecvL hK hw.2 qOb_8 rfl, qPre.atL hK hw.2⟩ rfl rfl hl.1 rfl (lv_room (Nat.le_of_ble_eq_true rfl)) dL_law_607 ⟨Nat.le_of_ble_eq_true rfl, Nat.le_of_ble_eq_true rfl⟩) (fun r2 N2 H locs hP hw hS => ?_)
  refine lv_icmp_eq (tgt := 1091) hx hb dL_law_610 (by decide) (fun hc => ?_) (fun hc => ?_)
  · exact kk _ _ _ _ hP.2 hw hS
  · exact absurd hP.1.symm hc
def qT_way (R : qM → qM → Prop) : Prop := ∀ M1 M2, R M1 M2 → ∀ x1 x2 x3 : Int32, qOk2 (kX7_way M1 x1 x2 x3) (fun r1 N1 => qOk2 (kX8_way M2 x1 x2 x3) (fun r2 N2 => r2 = r1 ∧ R N1 N2))
set_option maxHeartbeats 4000000 in
set_option maxRecDepth 100000 in
theorem lc_way {p : Program} {l : Launch} {e : Env} {s : State} {m : MethodId} {below : List Frame} {meth : Method} {c : Code} {b L : Nat} {xs : Nat → Int32} (hL : L ≤ 384) (C0 : lw_At p s m meth c b L xs) {G : qG} (hK : qK G s) {R : qM → qM → Prop} (T : qT_way R) {M1 M2 : qM} {H : Heap} {locs : List Loc} {ls : Array Slot} {i : Nat} (hi : i + 6 ≤ L) (hR : R M1 M2) (hw : qLw G s.heap.size M1 M2 H) (hS : va_S (fun q => s.heap.size ≤ q) s.heap H locs) (hl : lv_has ls 4 [(0, .ref b), (1, .ref (s.heap.size + 0)), (2, .ref (s.heap.size + 75 + 0)), (3, .int (nI i))]) (kk : ∀ (M1 M2 : qM) (H : Heap) (locs : List Loc), R M1 M2 → qLw G s.heap.size M1 M2 H → va_S (fun q => s.heap.size ≤ q) s.heap H locs → W p l e room_1 s m #[Value.ref b] below meth c H locs 600000 7302250 (lw_Z below #[Value.ref b] s) (F0 m 1091 ls [])) : W p l e room_1 s m #[Value.ref b] below meth c H locs 600000 7302250 (lw_Z below #[Value.ref b] s) (F0 m 615 ls []) := by
  obtain ⟨hx, hb, hr, hml, hown, hts, hX, hbl, hlocks, hgv⟩ := C0
  have hown : s.vm.findClass RL = some m.cls := hown
  have htl : ∀ w ∈ wsL_law, w.before #[Value.ref b] s = true := fun w hw => hts w (wsL_law_in w hw)
  have hbA : ¬ (fun q : Nat => s.heap.size ≤ q) b := Nat.not_le.mpr hbl
  have j1 : vp_in (nI i + 1) L := qj_in (k := 1) (by omega) hL
  have j2 : vp_in (nI i + 2) L := qj_in (k := 2) (by omega) hL
  have j3 : vp_in (nI i + 3) L := qj_in (k := 3) (by omega) hL
  have TT := T M1 M2 hR (xs (nI i + 1).toNatClampNeg) (xs (nI i + 2).toNatClampNeg) (xs (nI i + 3).toNatClampNeg)
  refine lv_aload_n hx hb dL_law_615 rfl (lv_at hl 1 rfl) ?_
  refine lv_aload_n hx hb dL_law_616 rfl (lv_at hl 0 rfl) ?_
  refine lv_iload_n hx hb dL_law_617 rfl (lv_at hl 3 rfl) ?_
  refine lv_iconst (v := 1) hx hb dL_law_618 (by decide) ?_
  refine lv_iadd hx hb dL_law_619 ?_
  refine va_sld hx hb hX hbl hbA hS j1 dL_law_620 ?_
  refine lv_aload_n hx hb dL_law_621 rfl (lv_at hl 0 rfl) ?_
  refine lv_iload_n hx hb dL_law_622 rfl (lv_at hl 3 rfl) ?_
  refine lv_iconst (v := 2) hx hb dL_law_623 (by decide) ?_
  refine lv_iadd hx hb dL_law_624 ?_
  refine va_sld hx hb hX hbl hbA hS j2 dL_law_625 ?_
  refine lv_aload_n hx hb dL_law_626 rfl (lv_at hl 0 rfl) ?_
  refine lv_iload_n hx hb dL_law_627 rfl (lv_at hl 3 rfl) ?_
  refine lv_iconst (v := 3) hx hb dL_law_628 (by decide) ?_
  refine lv_iadd hx hb dL_law_629 ?_
  refine va_sld hx hb hX hbl hbA hS j3 dL_law_630 ?_
  refine yl_1i hw hS (va_runV (As := [.int (xs (nI i + 1).toNatClampNeg), .int (xs (nI i + 2).toNatClampNeg), .int (xs (nI i + 3).toNatClampNeg)]) (rest := []) ⟨hx, hb, hml, hown, htl⟩ (c_X7_way l G (fun k => s.heap.size + k) (qI_a1 _) M1 _ (xs (nI i + 1).toNatClampNeg) (xs (nI i + 2).toNatClampNeg) (xs (nI i + 3).toNatClampNeg) TT) (cwV 3 htl gL_law_X7_way rfl rfl rfl (by decide +kernel) ⟨Nat.le_of_ble_eq_true rfl, Nat.le_of_ble_eq_true rfl⟩) ⟨qPre.blind, qrecvL hK hw.1 qOb_7 rfl, qPre.atL hK hw.1⟩ rfl rfl hl.1 rfl (lv_room (Nat.le_of_ble_eq_true rfl)) dL_law_631 ⟨Nat.le_of_ble_eq_true rfl, Nat.le_of_ble_eq_true rfl⟩) (fun r1 N1 H locs hP hw hS => ?_)
  refine lv_aload_n hx hb dL_law_634 rfl (lv_at hl 2 rfl) ?_
  refine lv_aload_n hx hb dL_law_635 rfl (lv_at hl 0 rfl) ?_
  refine lv_iload_n hx hb dL_law_636 rfl (lv_at hl 3 rfl) ?_
  refine lv_iconst (v := 1) hx hb dL_law_637 (by decide) ?_
  refine lv_iadd hx hb dL_law_638 ?_
  refine va_sld hx hb hX hbl hbA hS j1 dL_law_639 ?_
  refine lv_aload_n hx hb dL_law_640 rfl (lv_at hl 0 rfl) ?_
  refine lv_iload_n hx hb dL_law_641 rfl (lv_at hl 3 rfl) ?_
  refine lv_iconst (v := 2) hx hb dL_law_642 (by decide) ?_
  refine lv_iadd hx hb dL_law_643 ?_
  refine va_sld hx hb hX hbl hbA hS j2 dL_law_644 ?_
  refine lv_aload_n hx hb dL_law_645 rfl (lv_at hl 0 rfl) ?_
  refine lv_iload_n hx hb dL_law_646 rfl (lv_at hl 3 rfl) ?_
  refine lv_iconst (v := 3) hx hb dL_law_647 (by decide) ?_
  refine lv_iadd hx hb dL_law_648 ?_
  refine va_sld hx hb hX hbl hbA hS j3 dL_law_649 ?_
  refine yl_2i hw hS (va_runV (As := [.int (xs (nI i + 1).toNatClampNeg), .int (xs (nI i + 2).toNatClampNeg), .int (xs (nI i + 3).toNatClampNeg)]) (rest := [.int r1]) ⟨hx, hb, hml, hown, htl⟩ (c_X8_way l G (fun k => s.heap.size + 75 + k) (qI_a2 _) M2 _ (xs (nI i + 1).toNatClampNeg) (xs (nI i + 2).toNatClampNeg) (xs (nI i + 3).toNatClampNeg) hP) (cwV 3 htl gL_law_X8_way rfl rfl rfl (by decide +kernel) ⟨Nat.le_of_ble_eq_true rfl, Nat.le_of_ble_eq_true rfl⟩) ⟨qPre.blind, qrecvL hK hw.2 qOb_8 rfl, qPre.atL hK hw.2⟩ rfl rfl hl.1 rfl (lv_room (Nat.le_of_ble_eq_true rfl)) dL_law_650 ⟨Nat.le_of_ble_eq_true rfl, Nat.le_of_ble_eq_true rfl⟩) (fun r2 N2 H locs hP hw hS => ?_)
  refine lv_icmp_eq (tgt := 1091) hx hb dL_law_653 (by decide) (fun hc => ?_) (fun hc => ?_)
  · exact kk _ _ _ _ hP.2 hw hS
  · exact absurd hP.1.symm hc
def qT_fewest (R : qM → qM → Prop) : Prop := ∀ M1 M2, R M1 M2 → ∀ x1 x2 : Int32, qOk (kX7_fewest M1 x1 x2) (fun r1 => qOk (kX8_fewest M2 x1 x2) (fun r2 => r2 = r1 ∧ R M1 M2))
set_option maxHeartbeats 4000000 in
set_option maxRecDepth 100000 in
theorem lc_fewest {p : Program} {l : Launch} {e : Env} {s : State} {m : MethodId} {below : List Frame} {meth : Method} {c : Code} {b L : Nat} {xs : Nat → Int32} (hL : L ≤ 384) (C0 : lw_At p s m meth c b L xs) {G : qG} (hK : qK G s) {R : qM → qM → Prop} (T : qT_fewest R) {M1 M2 : qM} {H : Heap} {locs : List Loc} {ls : Array Slot} {i : Nat} (hi : i + 6 ≤ L) (hR : R M1 M2) (hw : qLw G s.heap.size M1 M2 H) (hS : va_S (fun q => s.heap.size ≤ q) s.heap H locs) (hl : lv_has ls 4 [(0, .ref b), (1, .ref (s.heap.size + 0)), (2, .ref (s.heap.size + 75 + 0)), (3, .int (nI i))]) (kk : ∀ (M1 M2 : qM) (H : Heap) (locs : List Loc), R M1 M2 → qLw G s.heap.size M1 M2 H → va_S (fun q => s.heap.size ≤ q) s.heap H locs → W p l e room_1 s m #[Value.ref b] below meth c H locs 600000 7302250 (lw_Z below #[Value.ref b] s) (F0 m 1091 ls [])) : W p l e room_1 s m #[Value.ref b] below meth c H locs 600000 7302250 (lw_Z below #[Value.ref b] s) (F0 m 658 ls []) := by
  obtain ⟨hx, hb, hr, hml, hown, hts, hX, hbl, hlocks, hgv⟩ := C0
  have hown : s.vm.findClass RL = some m.cls := hown
  have htl : ∀ w ∈ wsL_law, w.before #[Value.ref b] s = true := fun w hw => hts w (wsL_law_in w hw)
  have hbA : ¬ (fun q : Nat => s.heap.size ≤ q) b := Nat.not_le.mpr hbl
  have j1 : vp_in (nI i + 1) L := qj_in (k := 1) (by omega) hL
  have j2 : vp_in (nI i + 2) L := qj_in (k := 2) (by omega) hL
  have TT := T M1 M2 hR (xs (nI i + 1).toNatClampNeg) (xs (nI i + 2).toNatClampNeg)
  refine lv_aload_n hx hb dL_law_658 rfl (lv_at hl 1 rfl) ?_
  refine lv_aload_n hx hb dL_law_659 rfl (lv_at hl 0 rfl) ?_
  refine lv_iload_n hx hb dL_law_660 rfl (lv_at hl 3 rfl) ?_
  refine lv_iconst (v := 1) hx hb dL_law_661 (by decide) ?_
  refine lv_iadd hx hb dL_law_662 ?_
  refine va_sld hx hb hX hbl hbA hS j1 dL_law_663 ?_
  refine lv_aload_n hx hb dL_law_664 rfl (lv_at hl 0 rfl) ?_
  refine lv_iload_n hx hb dL_law_665 rfl (lv_at hl 3 rfl) ?_
  refine lv_iconst (v := 2) hx hb dL_law_666 (by decide) ?_
  refine lv_iadd hx hb dL_law_667 ?_
  refine va_sld hx hb hX hbl hbA hS j2 dL_law_668 ?_
  refine yl_p (va_runV (As := [.int (xs (nI i + 1).toNatClampNeg), .int (xs (nI i + 2).toNatClampNeg)]) (rest := []) ⟨hx, hb, hml, hown, htl⟩ (c_X7_fewest l G (fun k => s.heap.size + k) (qI_a1 _) M1 _ (xs (nI i + 1).toNatClampNeg) (xs (nI i + 2).toNatClampNeg) TT) (cwV 2 htl gL_law_X7_fewest rfl rfl rfl (by decide +kernel) ⟨Nat.le_of_ble_eq_true rfl, Nat.le_of_ble_eq_true rfl⟩) ⟨qPre.blind, qrecvL hK hw.1 qOb_7 rfl, qPre.atL hK hw.1⟩ rfl rfl hl.1 rfl (lv_room (Nat.le_of_ble_eq_true rfl)) dL_law_669 ⟨Nat.le_of_ble_eq_true rfl, Nat.le_of_ble_eq_true rfl⟩) (fun r1 hP => ?_)
  refine lv_aload_n hx hb dL_law_672 rfl (lv_at hl 2 rfl) ?_
  refine lv_aload_n hx hb dL_law_673 rfl (lv_at hl 0 rfl) ?_
  refine lv_iload_n hx hb dL_law_674 rfl (lv_at hl 3 rfl) ?_
  refine lv_iconst (v := 1) hx hb dL_law_675 (by decide) ?_
  refine lv_iadd hx hb dL_law_676 ?_
  refine va_sld hx hb hX hbl hbA hS j1 dL_law_677 ?_
  refine lv_aload_n hx hb dL_law_678 rfl (lv_at hl 0 rfl) ?_
  refine lv_iload_n hx hb dL_law_679 rfl (lv_at hl 3 rfl) ?_
  refine lv_iconst (v := 2) hx hb dL_law_680 (by decide) ?_
  refine lv_iadd hx hb dL_law_681 ?_
  refine va_sld hx hb hX hbl hbA hS j2 dL_law_682 ?_
  refine yl_p (va_runV (As := [.int (xs (nI i + 1).toNatClampNeg), .int (xs (nI i + 2).toNatClampNeg)]) (rest := [.int r1]) ⟨hx, hb, hml, hown, htl⟩ (c_X8_fewest l G (fun k => s.heap.size + 75 + k) (qI_a2 _) M2 _ (xs (nI i + 1).toNatClampNeg) (xs (nI i + 2).toNatClampNeg) hP) (cwV 2 htl gL_law_X8_fewest rfl rfl rfl (by decide +kernel) ⟨Nat.le_of_ble_eq_true rfl, Nat.le_of_ble_eq_true rfl⟩) ⟨qPre.blind, qrecvL hK hw.2 qOb_8 rfl, qPre.atL hK hw.2⟩ rfl rfl hl.1 rfl (lv_room (Nat.le_of_ble_eq_true rfl)) dL_law_683 ⟨Nat.le_of_ble_eq_true rfl, Nat.le_of_ble_eq_true rfl⟩) (fun r2 hP => ?_)
  refine lv_icmp_eq (tgt := 1091) hx hb dL_law_686 (by decide) (fun hc => ?_) (fun hc => ?_)
  · exact kk _ _ _ _ hP.2 hw hS
  · exact absurd hP.1.symm hc
def qT_keep (R : qM → qM → Prop) : Prop := ∀ M1 M2, R M1 M2 → ∀ x1 : Int32, qOk (kX7_keep M1 x1) (fun r1 => qOk2 (kX8_keep M2 x1) (fun r2 N2 => r2 = r1 ∧ R M1 N2))
set_option maxHeartbeats 4000000 in
set_option maxRecDepth 100000 in
theorem lc_keep {p : Program} {l : Launch} {e : Env} {s : State} {m : MethodId} {below : List Frame} {meth : Method} {c : Code} {b L : Nat} {xs : Nat → Int32} (hL : L ≤ 384) (C0 : lw_At p s m meth c b L xs) {G : qG} (hK : qK G s) {R : qM → qM → Prop} (T : qT_keep R) {M1 M2 : qM} {H : Heap} {locs : List Loc} {ls : Array Slot} {i : Nat} (hi : i + 6 ≤ L) (hR : R M1 M2) (hw : qLw G s.heap.size M1 M2 H) (hS : va_S (fun q => s.heap.size ≤ q) s.heap H locs) (hl : lv_has ls 4 [(0, .ref b), (1, .ref (s.heap.size + 0)), (2, .ref (s.heap.size + 75 + 0)), (3, .int (nI i))]) (kk : ∀ (M1 M2 : qM) (H : Heap) (locs : List Loc), R M1 M2 → qLw G s.heap.size M1 M2 H → va_S (fun q => s.heap.size ≤ q) s.heap H locs → W p l e room_1 s m #[Value.ref b] below meth c H locs 600000 7302250 (lw_Z below #[Value.ref b] s) (F0 m 1091 ls [])) : W p l e room_1 s m #[Value.ref b] below meth c H locs 600000 7302250 (lw_Z below #[Value.ref b] s) (F0 m 691 ls []) := by
  obtain ⟨hx, hb, hr, hml, hown, hts, hX, hbl, hlocks, hgv⟩ := C0
  have hown : s.vm.findClass RL = some m.cls := hown
  have htl : ∀ w ∈ wsL_law, w.before #[Value.ref b] s = true := fun w hw => hts w (wsL_law_in w hw)
  have hbA : ¬ (fun q : Nat => s.heap.size ≤ q) b := Nat.not_le.mpr hbl
  have j1 : vp_in (nI i + 1) L := qj_in (k := 1) (by omega) hL
  have TT := T M1 M2 hR (xs (nI i + 1).toNatClampNeg)
  refine lv_aload_n hx hb dL_law_691 rfl (lv_at hl 1 rfl) ?_
  refine lv_aload_n hx hb dL_law_692 rfl (lv_at hl 0 rfl) ?_
  refine lv_iload_n hx hb dL_law_693 rfl (lv_at hl 3 rfl) ?_
  refine lv_iconst (v := 1) hx hb dL_law_694 (by decide) ?_
  refine lv_iadd hx hb dL_law_695 ?_
  refine va_sld hx hb hX hbl hbA hS j1 dL_law_696 ?_
  refine yl_p (va_runV (As := [.int (xs (nI i + 1).toNatClampNeg)]) (rest := []) ⟨hx, hb, hml, hown, htl⟩ (c_X7_keep l G (fun k => s.heap.size + k) (qI_a1 _) M1 _ (xs (nI i + 1).toNatClampNeg) TT) (cwV 1 htl gL_law_X7_keep rfl rfl rfl (by decide +kernel) ⟨Nat.le_of_ble_eq_true rfl, Nat.le_of_ble_eq_true rfl⟩) ⟨qPre.blind, qrecvL hK hw.1 qOb_7 rfl, qPre.atL hK hw.1⟩ rfl rfl hl.1 rfl (lv_room (Nat.le_of_ble_eq_true rfl)) dL_law_697 ⟨Nat.le_of_ble_eq_true rfl, Nat.le_of_ble_eq_true rfl⟩) (fun r1 hP => ?_)
  refine lv_aload_n hx hb dL_law_700 rfl (lv_at hl 2 rfl) ?_
  refine lv_aload_n hx hb dL_law_701 rfl (lv_at hl 0 rfl) ?_
  refine lv_iload_n hx hb dL_law_702 rfl (lv_at hl 3 rfl) ?_
  refine lv_iconst (v := 1) hx hb dL_law_703 (by decide) ?_
  refine lv_iadd hx hb dL_law_704 ?_
  refine va_sld hx hb hX hbl hbA hS j1 dL_law_705 ?_
  refine yl_2i hw hS (va_runV (As := [.int (xs (nI i + 1).toNatClampNeg)]) (rest := [.int r1]) ⟨hx, hb, hml, hown, htl⟩ (c_X8_keep l G (fun k => s.heap.size + 75 + k) (qI_a2 _) M2 _ (xs (nI i + 1).toNatClampNeg) hP) (cwV 1 htl gL_law_X8_keep rfl rfl rfl (by decide +kernel) ⟨Nat.le_of_ble_eq_true rfl, Nat.le_of_ble_eq_true rfl⟩) ⟨qPre.blind, qrecvL hK hw.2 qOb_8 rfl, qPre.atL hK hw.2⟩ rfl rfl hl.1 rfl (lv_room (Nat.le_of_ble_eq_true rfl)) dL_law_706 ⟨Nat.le_of_ble_eq_true rfl, Nat.le_of_ble_eq_true rfl⟩) (fun r2 N2 H locs hP hw hS => ?_)
  refine lv_icmp_eq (tgt := 1091) hx hb dL_law_709 (by decide) (fun hc => ?_) (fun hc => ?_)
  · exact kk _ _ _ _ hP.2 hw hS
  · exact absurd hP.1.symm hc
def qT_cut (R : qM → qM → Prop) : Prop := ∀ M1 M2, R M1 M2 → qOk2 (kX7_cut M1) (fun r1 N1 => qOk2 (kX8_cut M2) (fun r2 N2 => r2 = r1 ∧ R N1 N2))
set_option maxHeartbeats 4000000 in
set_option maxRecDepth 100000 in
theorem lc_cut {p : Program} {l : Launch} {e : Env} {s : State} {m : MethodId} {below : List Frame} {meth : Method} {c : Code} {b L : Nat} {xs : Nat → Int32} (hL : L ≤ 384) (C0 : lw_At p s m meth c b L xs) {G : qG} (hK : qK G s) {R : qM → qM → Prop} (T : qT_cut R) {M1 M2 : qM} {H : Heap} {locs : List Loc} {ls : Array Slot} {i : Nat} (hi : i + 6 ≤ L) (hR : R M1 M2) (hw : qLw G s.heap.size M1 M2 H) (hS : va_S (fun q => s.heap.size ≤ q) s.heap H locs) (hl : lv_has ls 4 [(0, .ref b), (1, .ref (s.heap.size + 0)), (2, .ref (s.heap.size + 75 + 0)), (3, .int (nI i))]) (kk : ∀ (M1 M2 : qM) (H : Heap) (locs : List Loc), R M1 M2 → qLw G s.heap.size M1 M2 H → va_S (fun q => s.heap.size ≤ q) s.heap H locs → W p l e room_1 s m #[Value.ref b] below meth c H locs 600000 7302250 (lw_Z below #[Value.ref b] s) (F0 m 1091 ls [])) : W p l e room_1 s m #[Value.ref b] below meth c H locs 600000 7302250 (lw_Z below #[Value.ref b] s) (F0 m 714 ls []) := by
  obtain ⟨hx, hb, hr, hml, hown, hts, hX, hbl, hlocks, hgv⟩ := C0
  have hown : s.vm.findClass RL = some m.cls := hown
  have htl : ∀ w ∈ wsL_law, w.before #[Value.ref b] s = true := fun w hw => hts w (wsL_law_in w hw)
  have hbA : ¬ (fun q : Nat => s.heap.size ≤ q) b := Nat.not_le.mpr hbl
  have TT := T M1 M2 hR
  refine lv_aload_n hx hb dL_law_714 rfl (lv_at hl 1 rfl) ?_
  refine yl_1i hw hS (va_runV (As := []) (rest := []) ⟨hx, hb, hml, hown, htl⟩ (c_X7_cut l G (fun k => s.heap.size + k) (qI_a1 _) M1 _ TT) (cwV 0 htl gL_law_X7_cut rfl rfl rfl (by decide +kernel) ⟨Nat.le_of_ble_eq_true rfl, Nat.le_of_ble_eq_true rfl⟩) ⟨qPre.blind, qrecvL hK hw.1 qOb_7 rfl, qPre.atL hK hw.1⟩ rfl rfl hl.1 rfl (lv_room (Nat.le_of_ble_eq_true rfl)) dL_law_715 ⟨Nat.le_of_ble_eq_true rfl, Nat.le_of_ble_eq_true rfl⟩) (fun r1 N1 H locs hP hw hS => ?_)
  refine lv_aload_n hx hb dL_law_718 rfl (lv_at hl 2 rfl) ?_
  refine yl_2i hw hS (va_runV (As := []) (rest := [.int r1]) ⟨hx, hb, hml, hown, htl⟩ (c_X8_cut l G (fun k => s.heap.size + 75 + k) (qI_a2 _) M2 _ hP) (cwV 0 htl gL_law_X8_cut rfl rfl rfl (by decide +kernel) ⟨Nat.le_of_ble_eq_true rfl, Nat.le_of_ble_eq_true rfl⟩) ⟨qPre.blind, qrecvL hK hw.2 qOb_8 rfl, qPre.atL hK hw.2⟩ rfl rfl hl.1 rfl (lv_room (Nat.le_of_ble_eq_true rfl)) dL_law_719 ⟨Nat.le_of_ble_eq_true rfl, Nat.le_of_ble_eq_true rfl⟩) (fun r2 N2 H locs hP hw hS => ?_)
  refine lv_icmp_eq (tgt := 1091) hx hb dL_law_722 (by decide) (fun hc => ?_) (fun hc => ?_)
  · exact kk _ _ _ _ hP.2 hw hS
  · exact absurd hP.1.symm hc
def qT_hold (R : qM → qM → Prop) : Prop := ∀ M1 M2, R M1 M2 → ∀ x1 x2 x3 : Int32, qOk2 (kX7_hold M1 x1 x2 x3) (fun r1 N1 => qOk2 (kX8_hold M2 x1 x2 x3) (fun r2 N2 => r2 = r1 ∧ R N1 N2))
set_option maxHeartbeats 4000000 in
set_option maxRecDepth 100000 in
theorem lc_hold {p : Program} {l : Launch} {e : Env} {s : State} {m : MethodId} {below : List Frame} {meth : Method} {c : Code} {b L : Nat} {xs : Nat → Int32} (hL : L ≤ 384) (C0 : lw_At p s m meth c b L xs) {G : qG} (hK : qK G s) {R : qM → qM → Prop} (T : qT_hold R) {M1 M2 : qM} {H : Heap} {locs : List Loc} {ls : Array Slot} {i : Nat} (hi : i + 6 ≤ L) (hR : R M1 M2) (hw : qLw G s.heap.size M1 M2 H) (hS : va_S (fun q => s.heap.size ≤ q) s.heap H locs) (hl : lv_has ls 4 [(0, .ref b), (1, .ref (s.heap.size + 0)), (2, .ref (s.heap.size + 75 + 0)), (3, .int (nI i))]) (kk : ∀ (M1 M2 : qM) (H : Heap) (locs : List Loc), R M1 M2 → qLw G s.heap.size M1 M2 H → va_S (fun q => s.heap.size ≤ q) s.heap H locs → W p l e room_1 s m #[Value.ref b] below meth c H locs 600000 7302250 (lw_Z below #[Value.ref b] s) (F0 m 1091 ls [])) : W p l e room_1 s m #[Value.ref b] below meth c H locs 600000 7302250 (lw_Z below #[Value.ref b] s) (F0 m 727 ls []) := by
  obtain ⟨hx, hb, hr, hml, hown, hts, hX, hbl, hlocks, hgv⟩ := C0
  have hown : s.vm.findClass RL = some m.cls := hown
  have htl : ∀ w ∈ wsL_law, w.before #[Value.ref b] s = true := fun w hw => hts w (wsL_law_in w hw)
  have hbA : ¬ (fun q : Nat => s.heap.size ≤ q) b := Nat.not_le.mpr hbl
  have j1 : vp_in (nI i + 1) L := qj_in (k := 1) (by omega) hL
  have j2 : vp_in (nI i + 2) L := qj_in (k := 2) (by omega) hL
  have j3 : vp_in (nI i + 3) L := qj_in (k := 3) (by omega) hL
  have TT := T M1 M2 hR (xs (nI i + 1).toNatClampNeg) (xs (nI i + 2).toNatClampNeg) (xs (nI i + 3).toNatClampNeg)
  refine lv_aload_n hx hb dL_law_727 rfl (lv_at hl 1 rfl) ?_
  refine lv_aload_n hx hb dL_law_728 rfl (lv_at hl 0 rfl) ?_
  refine lv_iload_n hx hb dL_law_729 rfl (lv_at hl 3 rfl) ?_
  refine lv_iconst (v := 1) hx hb dL_law_730 (by decide) ?_
  refine lv_iadd hx hb dL_law_731 ?_
  refine va_sld hx hb hX hbl hbA hS j1 dL_law_732 ?_
  refine lv_aload_n hx hb dL_law_733 rfl (lv_at hl 0 rfl) ?_
  refine lv_iload_n hx hb dL_law_734 rfl (lv_at hl 3 rfl) ?_
  refine lv_iconst (v := 2) hx hb dL_law_735 (by decide) ?_
  refine lv_iadd hx hb dL_law_736 ?_
  refine va_sld hx hb hX hbl hbA hS j2 dL_law_737 ?_
  refine lv_aload_n hx hb dL_law_738 rfl (lv_at hl 0 rfl) ?_
  refine lv_iload_n hx hb dL_law_739 rfl (lv_at hl 3 rfl) ?_
  refine lv_iconst (v := 3) hx hb dL_law_740 (by decide) ?_
  refine lv_iadd hx hb dL_law_741 ?_
  refine va_sld hx hb hX hbl hbA hS j3 dL_law_742 ?_
  refine yl_1i hw hS (va_runV (As := [.int (xs (nI i + 1).toNatClampNeg), .int (xs (nI i + 2).toNatClampNeg), .int (xs (nI i + 3).toNatClampNeg)]) (rest := []) ⟨hx, hb, hml, hown, htl⟩ (c_X7_hold l G (fun k => s.heap.size + k) (qI_a1 _) M1 _ (xs (nI i + 1).toNatClampNeg) (xs (nI i + 2).toNatClampNeg) (xs (nI i + 3).toNatClampNeg) TT) (cwV 3 htl gL_law_X7_hold rfl rfl rfl (by decide +kernel) ⟨Nat.le_of_ble_eq_true rfl, Nat.le_of_ble_eq_true rfl⟩) ⟨qPre.blind, qrecvL hK hw.1 qOb_7 rfl, qPre.atL hK hw.1⟩ rfl rfl hl.1 rfl (lv_room (Nat.le_of_ble_eq_true rfl)) dL_law_743 ⟨Nat.le_of_ble_eq_true rfl, Nat.le_of_ble_eq_true rfl⟩) (fun r1 N1 H locs hP hw hS => ?_)
  refine lv_aload_n hx hb dL_law_746 rfl (lv_at hl 2 rfl) ?_
  refine lv_aload_n hx hb dL_law_747 rfl (lv_at hl 0 rfl) ?_
  refine lv_iload_n hx hb dL_law_748 rfl (lv_at hl 3 rfl) ?_
  refine lv_iconst (v := 1) hx hb dL_law_749 (by decide) ?_
  refine lv_iadd hx hb dL_law_750 ?_
  refine va_sld hx hb hX hbl hbA hS j1 dL_law_751 ?_
  refine lv_aload_n hx hb dL_law_752 rfl (lv_at hl 0 rfl) ?_
  refine lv_iload_n hx hb dL_law_753 rfl (lv_at hl 3 rfl) ?_
  refine lv_iconst (v := 2) hx hb dL_law_754 (by decide) ?_
  refine lv_iadd hx hb dL_law_755 ?_
  refine va_sld hx hb hX hbl hbA hS j2 dL_law_756 ?_
  refine lv_aload_n hx hb dL_law_757 rfl (lv_at hl 0 rfl) ?_
  refine lv_iload_n hx hb dL_law_758 rfl (lv_at hl 3 rfl) ?_
  refine lv_iconst (v := 3) hx hb dL_law_759 (by decide) ?_
  refine lv_iadd hx hb dL_law_760 ?_
  refine va_sld hx hb hX hbl hbA hS j3 dL_law_761 ?_
  refine yl_2i hw hS (va_runV (As := [.int (xs (nI i + 1).toNatClampNeg), .int (xs (nI i + 2).toNatClampNeg), .int (xs (nI i + 3).toNatClampNeg)]) (rest := [.int r1]) ⟨hx, hb, hml, hown, htl⟩ (c_X8_hold l G (fun k => s.heap.size + 75 + k) (qI_a2 _) M2 _ (xs (nI i + 1).toNatClampNeg) (xs (nI i + 2).toNatClampNeg) (xs (nI i + 3).toNatClampNeg) hP) (cwV 3 htl gL_law_X8_hold rfl rfl rfl (by decide +kernel) ⟨Nat.le_of_ble_eq_true rfl, Nat.le_of_ble_eq_true rfl⟩) ⟨qPre.blind, qrecvL hK hw.2 qOb_8 rfl, qPre.atL hK hw.2⟩ rfl rfl hl.1 rfl (lv_room (Nat.le_of_ble_eq_true rfl)) dL_law_762 ⟨Nat.le_of_ble_eq_true rfl, Nat.le_of_ble_eq_true rfl⟩) (fun r2 N2 H locs hP hw hS => ?_)
  refine lv_icmp_eq (tgt := 1091) hx hb dL_law_765 (by decide) (fun hc => ?_) (fun hc => ?_)
  · exact kk _ _ _ _ hP.2 hw hS
  · exact absurd hP.1.symm hc
def qT_round (R : qM → qM → Prop) : Prop := ∀ M1 M2, R M1 M2 → ∀ x1 x2 x3 x4 : Int32, qOk (kX7_round M1 x1 x2 x3 x4) (fun r1 => qOk (kX8_round M2 x1 x2 x3 x4) (fun r2 => r2 = r1 ∧ R M1 M2))
set_option maxHeartbeats 4000000 in
set_option maxRecDepth 100000 in
theorem lc_round {p : Program} {l : Launch} {e : Env} {s : State} {m : MethodId} {below : List Frame} {meth : Method} {c : Code} {b L : Nat} {xs : Nat → Int32} (hL : L ≤ 384) (C0 : lw_At p s m meth c b L xs) {G : qG} (hK : qK G s) {R : qM → qM → Prop} (T : qT_round R) {M1 M2 : qM} {H : Heap} {locs : List Loc} {ls : Array Slot} {i : Nat} (hi : i + 6 ≤ L) (hR : R M1 M2) (hw : qLw G s.heap.size M1 M2 H) (hS : va_S (fun q => s.heap.size ≤ q) s.heap H locs) (hl : lv_has ls 4 [(0, .ref b), (1, .ref (s.heap.size + 0)), (2, .ref (s.heap.size + 75 + 0)), (3, .int (nI i))]) (kk : ∀ (M1 M2 : qM) (H : Heap) (locs : List Loc), R M1 M2 → qLw G s.heap.size M1 M2 H → va_S (fun q => s.heap.size ≤ q) s.heap H locs → W p l e room_1 s m #[Value.ref b] below meth c H locs 600000 7302250 (lw_Z below #[Value.ref b] s) (F0 m 1091 ls [])) : W p l e room_1 s m #[Value.ref b] below meth c H locs 600000 7302250 (lw_Z below #[Value.ref b] s) (F0 m 770 ls []) := by
  obtain ⟨hx, hb, hr, hml, hown, hts, hX, hbl, hlocks, hgv⟩ := C0
  have hown : s.vm.findClass RL = some m.cls := hown
  have htl : ∀ w ∈ wsL_law, w.before #[Value.ref b] s = true := fun w hw => hts w (wsL_law_in w hw)
  have hbA : ¬ (fun q : Nat => s.heap.size ≤ q) b := Nat.not_le.mpr hbl
  have j1 : vp_in (nI i + 1) L := qj_in (k := 1) (by omega) hL
  have j2 : vp_in (nI i + 2) L := qj_in (k := 2) (by omega) hL
  have j3 : vp_in (nI i + 3) L := qj_in (k := 3) (by omega) hL
  have j4 : vp_in (nI i + 4) L := qj_in (k := 4) (by omega) hL
  have TT := T M1 M2 hR (xs (nI i + 1).toNatClampNeg) (xs (nI i + 2).toNatClampNeg) (xs (nI i + 3).toNatClampNeg) (xs (nI i + 4).toNatClampNeg)
  refine lv_aload_n hx hb dL_law_770 rfl (lv_at hl 1 rfl) ?_
  refine lv_aload_n hx hb dL_law_771 rfl (lv_at hl 0 rfl) ?_
  refine lv_iload_n hx hb dL_law_772 rfl (lv_at hl 3 rfl) ?_
  refine lv_iconst (v := 1) hx hb dL_law_773 (by decide) ?_
  refine lv_iadd hx hb dL_law_774 ?_
  refine va_sld hx hb hX hbl hbA hS j1 dL_law_775 ?_
  refine lv_aload_n hx hb dL_law_776 rfl (lv_at hl 0 rfl) ?_
  refine lv_iload_n hx hb dL_law_777 rfl (lv_at hl 3 rfl) ?_
  refine lv_iconst (v := 2) hx hb dL_law_778 (by decide) ?_
  refine lv_iadd hx hb dL_law_779 ?_
  refine va_sld hx hb hX hbl hbA hS j2 dL_law_780 ?_
  refine lv_aload_n hx hb dL_law_781 rfl (lv_at hl 0 rfl) ?_
  refine lv_iload_n hx hb dL_law_782 rfl (lv_at hl 3 rfl) ?_
  refine lv_iconst (v := 3) hx hb dL_law_783 (by decide) ?_
  refine lv_iadd hx hb dL_law_784 ?_
  refine va_sld hx hb hX hbl hbA hS j3 dL_law_785 ?_
  refine lv_aload_n hx hb dL_law_786 rfl (lv_at hl 0 rfl) ?_
  refine lv_iload_n hx hb dL_law_787 rfl (lv_at hl 3 rfl) ?_
  refine lv_iconst (v := 4) hx hb dL_law_788 (by decide) ?_
  refine lv_iadd hx hb dL_law_789 ?_
  refine va_sld hx hb hX hbl hbA hS j4 dL_law_790 ?_
  refine yl_p (va_runV (As := [.int (xs (nI i + 1).toNatClampNeg), .int (xs (nI i + 2).toNatClampNeg), .int (xs (nI i + 3).toNatClampNeg), .int (xs (nI i + 4).toNatClampNeg)]) (rest := []) ⟨hx, hb, hml, hown, htl⟩ (c_X7_round l G (fun k => s.heap.size + k) (qI_a1 _) M1 _ (xs (nI i + 1).toNatClampNeg) (xs (nI i + 2).toNatClampNeg) (xs (nI i + 3).toNatClampNeg) (xs (nI i + 4).toNatClampNeg) TT) (cwV 4 htl gL_law_X7_round rfl rfl rfl (by decide +kernel) ⟨Nat.le_of_ble_eq_true rfl, Nat.le_of_ble_eq_true rfl⟩) ⟨qPre.blind, qrecvL hK hw.1 qOb_7 rfl, qPre.atL hK hw.1⟩ rfl rfl hl.1 rfl (lv_room (Nat.le_of_ble_eq_true rfl)) dL_law_791 ⟨Nat.le_of_ble_eq_true rfl, Nat.le_of_ble_eq_true rfl⟩) (fun r1 hP => ?_)
  refine lv_aload_n hx hb dL_law_794 rfl (lv_at hl 2 rfl) ?_
  refine lv_aload_n hx hb dL_law_795 rfl (lv_at hl 0 rfl) ?_
  refine lv_iload_n hx hb dL_law_796 rfl (lv_at hl 3 rfl) ?_
  refine lv_iconst (v := 1) hx hb dL_law_797 (by decide) ?_
  refine lv_iadd hx hb dL_law_798 ?_
  refine va_sld hx hb hX hbl hbA hS j1 dL_law_799 ?_
  refine lv_aload_n hx hb dL_law_800 rfl (lv_at hl 0 rfl) ?_
  refine lv_iload_n hx hb dL_law_801 rfl (lv_at hl 3 rfl) ?_
  refine lv_iconst (v := 2) hx hb dL_law_802 (by decide) ?_
  refine lv_iadd hx hb dL_law_803 ?_
  refine va_sld hx hb hX hbl hbA hS j2 dL_law_804 ?_
  refine lv_aload_n hx hb dL_law_805 rfl (lv_at hl 0 rfl) ?_
  refine lv_iload_n hx hb dL_law_806 rfl (lv_at hl 3 rfl) ?_
  refine lv_iconst (v := 3) hx hb dL_law_807 (by decide) ?_
  refine lv_iadd hx hb dL_law_808 ?_
  refine va_sld hx hb hX hbl hbA hS j3 dL_law_809 ?_
  refine lv_aload_n hx hb dL_law_810 rfl (lv_at hl 0 rfl) ?_
  refine lv_iload_n hx hb dL_law_811 rfl (lv_at hl 3 rfl) ?_
  refine lv_iconst (v := 4) hx hb dL_law_812 (by decide) ?_
  refine lv_iadd hx hb dL_law_813 ?_
  refine va_sld hx hb hX hbl hbA hS j4 dL_law_814 ?_
  refine yl_p (va_runV (As := [.int (xs (nI i + 1).toNatClampNeg), .int (xs (nI i + 2).toNatClampNeg), .int (xs (nI i + 3).toNatClampNeg), .int (xs (nI i + 4).toNatClampNeg)]) (rest := [.int r1]) ⟨hx, hb, hml, hown, htl⟩ (c_X8_round l G (fun k => s.heap.size + 75 + k) (qI_a2 _) M2 _ (xs (nI i + 1).toNatClampNeg) (xs (nI i + 2).toNatClampNeg) (xs (nI i + 3).toNatClampNeg) (xs (nI i + 4).toNatClampNeg) hP) (cwV 4 htl gL_law_X8_round rfl rfl rfl (by decide +kernel) ⟨Nat.le_of_ble_eq_true rfl, Nat.le_of_ble_eq_true rfl⟩) ⟨qPre.blind, qrecvL hK hw.2 qOb_8 rfl, qPre.atL hK hw.2⟩ rfl rfl hl.1 rfl (lv_room (Nat.le_of_ble_eq_true rfl)) dL_law_815 ⟨Nat.le_of_ble_eq_true rfl, Nat.le_of_ble_eq_true rfl⟩) (fun r2 hP => ?_)
  refine lv_icmp_eq (tgt := 1091) hx hb dL_law_818 (by decide) (fun hc => ?_) (fun hc => ?_)
  · exact kk _ _ _ _ hP.2 hw hS
  · exact absurd hP.1.symm hc
def qT_heard (R : qM → qM → Prop) : Prop := ∀ M1 M2, R M1 M2 → ∀ x1 x2 : Int32, qOk2 (kX7_heard M1 x1 x2) (fun r1 N1 => qOk2 (kX8_heard M2 x1 x2) (fun r2 N2 => r2 = r1 ∧ R N1 N2))
set_option maxHeartbeats 4000000 in
set_option maxRecDepth 100000 in
theorem lc_heard {p : Program} {l : Launch} {e : Env} {s : State} {m : MethodId} {below : List Frame} {meth : Method} {c : Code} {b L : Nat} {xs : Nat → Int32} (hL : L ≤ 384) (C0 : lw_At p s m meth c b L xs) {G : qG} (hK : qK G s) {R : qM → qM → Prop} (T : qT_heard R) {M1 M2 : qM} {H : Heap} {locs : List Loc} {ls : Array Slot} {i : Nat} (hi : i + 6 ≤ L) (hR : R M1 M2) (hw : qLw G s.heap.size M1 M2 H) (hS : va_S (fun q => s.heap.size ≤ q) s.heap H locs) (hl : lv_has ls 4 [(0, .ref b), (1, .ref (s.heap.size + 0)), (2, .ref (s.heap.size + 75 + 0)), (3, .int (nI i))]) (kk : ∀ (M1 M2 : qM) (H : Heap) (locs : List Loc), R M1 M2 → qLw G s.heap.size M1 M2 H → va_S (fun q => s.heap.size ≤ q) s.heap H locs → W p l e room_1 s m #[Value.ref b] below meth c H locs 600000 7302250 (lw_Z below #[Value.ref b] s) (F0 m 1091 ls [])) : W p l e room_1 s m #[Value.ref b] below meth c H locs 600000 7302250 (lw_Z below #[Value.ref b] s) (F0 m 823 ls []) := by
  obtain ⟨hx, hb, hr, hml, hown, hts, hX, hbl, hlocks, hgv⟩ := C0
  have hown : s.vm.findClass RL = some m.cls := hown
  have htl : ∀ w ∈ wsL_law, w.before #[Value.ref b] s = true := fun w hw => hts w (wsL_law_in w hw)
  have hbA : ¬ (fun q : Nat => s.heap.size ≤ q) b := Nat.not_le.mpr hbl
  have j1 : vp_in (nI i + 1) L := qj_in (k := 1) (by omega) hL
  have j2 : vp_in (nI i + 2) L := qj_in (k := 2) (by omega) hL
  have TT := T M1 M2 hR (xs (nI i + 1).toNatClampNeg) (xs (nI i + 2).toNatClampNeg)
  refine lv_aload_n hx hb dL_law_823 rfl (lv_at hl 1 rfl) ?_
  refine lv_aload_n hx hb dL_law_824 rfl (lv_at hl 0 rfl) ?_
  refine lv_iload_n hx hb dL_law_825 rfl (lv_at hl 3 rfl) ?_
  refine lv_iconst (v := 1) hx hb dL_law_826 (by decide) ?_
  refine lv_iadd hx hb dL_law_827 ?_
  refine va_sld hx hb hX hbl hbA hS j1 dL_law_828 ?_
  refine lv_aload_n hx hb dL_law_829 rfl (lv_at hl 0 rfl) ?_
  refine lv_iload_n hx hb dL_law_830 rfl (lv_at hl 3 rfl) ?_
  refine lv_iconst (v := 2) hx hb dL_law_831 (by decide) ?_
  refine lv_iadd hx hb dL_law_832 ?_
  refine va_sld hx hb hX hbl hbA hS j2 dL_law_833 ?_
  refine yl_1i hw hS (va_runV (As := [.int (xs (nI i + 1).toNatClampNeg), .int (xs (nI i + 2).toNatClampNeg)]) (rest := []) ⟨hx, hb, hml, hown, htl⟩ (c_X7_heard l G (fun k => s.heap.size + k) (qI_a1 _) M1 _ (xs (nI i + 1).toNatClampNeg) (xs (nI i + 2).toNatClampNeg) TT) (cwV 2 htl gL_law_X7_heard rfl rfl rfl (by decide +kernel) ⟨Nat.le_of_ble_eq_true rfl, Nat.le_of_ble_eq_true rfl⟩) ⟨qPre.blind, qrecvL hK hw.1 qOb_7 rfl, qPre.atL hK hw.1⟩ rfl rfl hl.1 rfl (lv_room (Nat.le_of_ble_eq_true rfl)) dL_law_834 ⟨Nat.le_of_ble_eq_true rfl, Nat.le_of_ble_eq_true rfl⟩) (fun r1 N1 H locs hP hw hS => ?_)
  refine lv_aload_n hx hb dL_law_837 rfl (lv_at hl 2 rfl) ?_
  refine lv_aload_n hx hb dL_law_838 rfl (lv_at hl 0 rfl) ?_
  refine lv_iload_n hx hb dL_law_839 rfl (lv_at hl 3 rfl) ?_
  refine lv_iconst (v := 1) hx hb dL_law_840 (by decide) ?_
  refine lv_iadd hx hb dL_law_841 ?_
  refine va_sld hx hb hX hbl hbA hS j1 dL_law_842 ?_
  refine lv_aload_n hx hb dL_law_843 rfl (lv_at hl 0 rfl) ?_
  refine lv_iload_n hx hb dL_law_844 rfl (lv_at hl 3 rfl) ?_
  refine lv_iconst (v := 2) hx hb dL_law_845 (by decide) ?_
  refine lv_iadd hx hb dL_law_846 ?_
  refine va_sld hx hb hX hbl hbA hS j2 dL_law_847 ?_
  refine yl_2i hw hS (va_runV (As := [.int (xs (nI i + 1).toNatClampNeg), .int (xs (nI i + 2).toNatClampNeg)]) (rest := [.int r1]) ⟨hx, hb, hml, hown, htl⟩ (c_X8_heard l G (fun k => s.heap.size + 75 + k) (qI_a2 _) M2 _ (xs (nI i + 1).toNatClampNeg) (xs (nI i + 2).toNatClampNeg) hP) (cwV 2 htl gL_law_X8_heard rfl rfl rfl (by decide +kernel) ⟨Nat.le_of_ble_eq_true rfl, Nat.le_of_ble_eq_true rfl⟩) ⟨qPre.blind, qrecvL hK hw.2 qOb_8 rfl, qPre.atL hK hw.2⟩ rfl rfl hl.1 rfl (lv_room (Nat.le_of_ble_eq_true rfl)) dL_law_848 ⟨Nat.le_of_ble_eq_true rfl, Nat.le_of_ble_eq_true rfl⟩) (fun r2 N2 H locs hP hw hS => ?_)
  refine lv_icmp_eq (tgt := 1091) hx hb dL_law_851 (by decide) (fun hc => ?_) (fun hc => ?_)
  · exact kk _ _ _ _ hP.2 hw hS
  · exact absurd hP.1.symm hc
def qT_forget (R : qM → qM → Prop) : Prop := ∀ M1 M2, R M1 M2 → qOk2 (kX7_forget M1) (fun r1 N1 => qOk2 (kX8_forget M2) (fun r2 N2 => r2 = r1 ∧ R N1 N2))
set_option maxHeartbeats 4000000 in
set_option maxRecDepth 100000 in
theorem lc_forget {p : Program} {l : Launch} {e : Env} {s : State} {m : MethodId} {below : List Frame} {meth : Method} {c : Code} {b L : Nat} {xs : Nat → Int32} (hL : L ≤ 384) (C0 : lw_At p s m meth c b L xs) {G : qG} (hK : qK G s) {R : qM → qM → Prop} (T : qT_forget R) {M1 M2 : qM} {H : Heap} {locs : List Loc} {ls : Array Slot} {i : Nat} (hi : i + 6 ≤ L) (hR : R M1 M2) (hw : qLw G s.heap.size M1 M2 H) (hS : va_S (fun q => s.heap.size ≤ q) s.heap H locs) (hl : lv_has ls 4 [(0, .ref b), (1, .ref (s.heap.size + 0)), (2, .ref (s.heap.size + 75 + 0)), (3, .int (nI i))]) (kk : ∀ (M1 M2 : qM) (H : Heap) (locs : List Loc), R M1 M2 → qLw G s.heap.size M1 M2 H → va_S (fun q => s.heap.size ≤ q) s.heap H locs → W p l e room_1 s m #[Value.ref b] below meth c H locs 600000 7302250 (lw_Z below #[Value.ref b] s) (F0 m 1091 ls [])) : W p l e room_1 s m #[Value.ref b] below meth c H locs 600000 7302250 (lw_Z below #[Value.ref b] s) (F0 m 856 ls []) := by
  obtain ⟨hx, hb, hr, hml, hown, hts, hX, hbl, hlocks, hgv⟩ := C0
  have hown : s.vm.findClass RL = some m.cls := hown
  have htl : ∀ w ∈ wsL_law, w.before #[Value.ref b] s = true := fun w hw => hts w (wsL_law_in w hw)
  have hbA : ¬ (fun q : Nat => s.heap.size ≤ q) b := Nat.not_le.mpr hbl
  have TT := T M1 M2 hR
  refine lv_aload_n hx hb dL_law_856 rfl (lv_at hl 1 rfl) ?_
  refine yl_1i hw hS (va_runV (As := []) (rest := []) ⟨hx, hb, hml, hown, htl⟩ (c_X7_forget l G (fun k => s.heap.size + k) (qI_a1 _) M1 _ TT) (cwV 0 htl gL_law_X7_forget rfl rfl rfl (by decide +kernel) ⟨Nat.le_of_ble_eq_true rfl, Nat.le_of_ble_eq_true rfl⟩) ⟨qPre.blind, qrecvL hK hw.1 qOb_7 rfl, qPre.atL hK hw.1⟩ rfl rfl hl.1 rfl (lv_room (Nat.le_of_ble_eq_true rfl)) dL_law_857 ⟨Nat.le_of_ble_eq_true rfl, Nat.le_of_ble_eq_true rfl⟩) (fun r1 N1 H locs hP hw hS => ?_)
  refine lv_aload_n hx hb dL_law_860 rfl (lv_at hl 2 rfl) ?_
  refine yl_2i hw hS (va_runV (As := []) (rest := [.int r1]) ⟨hx, hb, hml, hown, htl⟩ (c_X8_forget l G (fun k => s.heap.size + 75 + k) (qI_a2 _) M2 _ hP) (cwV 0 htl gL_law_X8_forget rfl rfl rfl (by decide +kernel) ⟨Nat.le_of_ble_eq_true rfl, Nat.le_of_ble_eq_true rfl⟩) ⟨qPre.blind, qrecvL hK hw.2 qOb_8 rfl, qPre.atL hK hw.2⟩ rfl rfl hl.1 rfl (lv_room (Nat.le_of_ble_eq_true rfl)) dL_law_861 ⟨Nat.le_of_ble_eq_true rfl, Nat.le_of_ble_eq_true rfl⟩) (fun r2 N2 H locs hP hw hS => ?_)
  refine lv_icmp_eq (tgt := 1091) hx hb dL_law_864 (by decide) (fun hc => ?_) (fun hc => ?_)
  · exact kk _ _ _ _ hP.2 hw hS
  · exact absurd hP.1.symm hc
def qT_losts (R : qM → qM → Prop) : Prop := ∀ M1 M2, R M1 M2 → ∀ x1 : Int32, qOk2 (kX7_losts M1 x1) (fun r1 N1 => qOk2 (kX8_losts M2 x1) (fun r2 N2 => r2 = r1 ∧ R N1 N2))
set_option maxHeartbeats 4000000 in
set_option maxRecDepth 100000 in
theorem lc_losts {p : Program} {l : Launch} {e : Env} {s : State} {m : MethodId} {below : List Frame} {meth : Method} {c : Code} {b L : Nat} {xs : Nat → Int32} (hL : L ≤ 384) (C0 : lw_At p s m meth c b L xs) {G : qG} (hK : qK G s) {R : qM → qM → Prop} (T : qT_losts R) {M1 M2 : qM} {H : Heap} {locs : List Loc} {ls : Array Slot} {i : Nat} (hi : i + 6 ≤ L) (hR : R M1 M2) (hw : qLw G s.heap.size M1 M2 H) (hS : va_S (fun q => s.heap.size ≤ q) s.heap H locs) (hl : lv_has ls 4 [(0, .ref b), (1, .ref (s.heap.size + 0)), (2, .ref (s.heap.size + 75 + 0)), (3, .int (nI i))]) (kk : ∀ (M1 M2 : qM) (H : Heap) (locs : List Loc), R M1 M2 → qLw G s.heap.size M1 M2 H → va_S (fun q => s.heap.size ≤ q) s.heap H locs → W p l e room_1 s m #[Value.ref b] below meth c H locs 600000 7302250 (lw_Z below #[Value.ref b] s) (F0 m 1091 ls [])) : W p l e room_1 s m #[Value.ref b] below meth c H locs 600000 7302250 (lw_Z below #[Value.ref b] s) (F0 m 869 ls []) := by
  obtain ⟨hx, hb, hr, hml, hown, hts, hX, hbl, hlocks, hgv⟩ := C0
  have hown : s.vm.findClass RL = some m.cls := hown
  have htl : ∀ w ∈ wsL_law, w.before #[Value.ref b] s = true := fun w hw => hts w (wsL_law_in w hw)
  have hbA : ¬ (fun q : Nat => s.heap.size ≤ q) b := Nat.not_le.mpr hbl
  have j1 : vp_in (nI i + 1) L := qj_in (k := 1) (by omega) hL
  have TT := T M1 M2 hR (xs (nI i + 1).toNatClampNeg)
  refine lv_aload_n hx hb dL_law_869 rfl (lv_at hl 1 rfl) ?_
  refine lv_aload_n hx hb dL_law_870 rfl (lv_at hl 0 rfl) ?_
  refine lv_iload_n hx hb dL_law_871 rfl (lv_at hl 3 rfl) ?_
  refine lv_iconst (v := 1) hx hb dL_law_872 (by decide) ?_
  refine lv_iadd hx hb dL_law_873 ?_
  refine va_sld hx hb hX hbl hbA hS j1 dL_law_874 ?_
  refine yl_1i hw hS (va_runV (As := [.int (xs (nI i + 1).toNatClampNeg)]) (rest := []) ⟨hx, hb, hml, hown, htl⟩ (c_X7_losts l G (fun k => s.heap.size + k) (qI_a1 _) M1 _ (xs (nI i + 1).toNatClampNeg) TT) (cwV 1 htl gL_law_X7_losts rfl rfl rfl (by decide +kernel) ⟨Nat.le_of_ble_eq_true rfl, Nat.le_of_ble_eq_true rfl⟩) ⟨qPre.blind, qrecvL hK hw.1 qOb_7 rfl, qPre.atL hK hw.1⟩ rfl rfl hl.1 rfl (lv_room (Nat.le_of_ble_eq_true rfl)) dL_law_875 ⟨Nat.le_of_ble_eq_true rfl, Nat.le_of_ble_eq_true rfl⟩) (fun r1 N1 H locs hP hw hS => ?_)
  refine lv_aload_n hx hb dL_law_878 rfl (lv_at hl 2 rfl) ?_
  refine lv_aload_n hx hb dL_law_879 rfl (lv_at hl 0 rfl) ?_
  refine lv_iload_n hx hb dL_law_880 rfl (lv_at hl 3 rfl) ?_
  refine lv_iconst (v := 1) hx hb dL_law_881 (by decide) ?_
  refine lv_iadd hx hb dL_law_882 ?_
  refine va_sld hx hb hX hbl hbA hS j1 dL_law_883 ?_
  refine yl_2i hw hS (va_runV (As := [.int (xs (nI i + 1).toNatClampNeg)]) (rest := [.int r1]) ⟨hx, hb, hml, hown, htl⟩ (c_X8_losts l G (fun k => s.heap.size + 75 + k) (qI_a2 _) M2 _ (xs (nI i + 1).toNatClampNeg) hP) (cwV 1 htl gL_law_X8_losts rfl rfl rfl (by decide +kernel) ⟨Nat.le_of_ble_eq_true rfl, Nat.le_of_ble_eq_true rfl⟩) ⟨qPre.blind, qrecvL hK hw.2 qOb_8 rfl, qPre.atL hK hw.2⟩ rfl rfl hl.1 rfl (lv_room (Nat.le_of_ble_eq_true rfl)) dL_law_884 ⟨Nat.le_of_ble_eq_true rfl, Nat.le_of_ble_eq_true rfl⟩) (fun r2 N2 H locs hP hw hS => ?_)
  refine lv_icmp_eq (tgt := 1091) hx hb dL_law_887 (by decide) (fun hc => ?_) (fun hc => ?_)
  · exact kk _ _ _ _ hP.2 hw hS
  · exact absurd hP.1.symm hc
def qT_listen (R : qM → qM → Prop) : Prop := ∀ M1 M2, R M1 M2 → ∀ x1 : Int32, qOk2 (kX7_listen M1 x1) (fun r1 N1 => qOk2 (kX8_listen M2 x1) (fun r2 N2 => r2 = r1 ∧ R N1 N2))
set_option maxHeartbeats 4000000 in
set_option maxRecDepth 100000 in
theorem lc_listen {p : Program} {l : Launch} {e : Env} {s : State} {m : MethodId} {below : List Frame} {meth : Method} {c : Code} {b L : Nat} {xs : Nat → Int32} (hL : L ≤ 384) (C0 : lw_At p s m meth c b L xs) {G : qG} (hK : qK G s) {R : qM → qM → Prop} (T : qT_listen R) {M1 M2 : qM} {H : Heap} {locs : List Loc} {ls : Array Slot} {i : Nat} (hi : i + 6 ≤ L) (hR : R M1 M2) (hw : qLw G s.heap.size M1 M2 H) (hS : va_S (fun q => s.heap.size ≤ q) s.heap H locs) (hl : lv_has ls 4 [(0, .ref b), (1, .ref (s.heap.size + 0)), (2, .ref (s.heap.size + 75 + 0)), (3, .int (nI i))]) (kk : ∀ (M1 M2 : qM) (H : Heap) (locs : List Loc), R M1 M2 → qLw G s.heap.size M1 M2 H → va_S (fun q => s.heap.size ≤ q) s.heap H locs → W p l e room_1 s m #[Value.ref b] below meth c H locs 600000 7302250 (lw_Z below #[Value.ref b] s) (F0 m 1091 ls [])) : W p l e room_1 s m #[Value.ref b] below meth c H locs 600000 7302250 (lw_Z below #[Value.ref b] s) (F0 m 892 ls []) := by
  obtain ⟨hx, hb, hr, hml, hown, hts, hX, hbl, hlocks, hgv⟩ := C0
  have hown : s.vm.findClass RL = some m.cls := hown
  have htl : ∀ w ∈ wsL_law, w.before #[Value.ref b] s = true := fun w hw => hts w (wsL_law_in w hw)
  have hbA : ¬ (fun q : Nat => s.heap.size ≤ q) b := Nat.not_le.mpr hbl
  have j1 : vp_in (nI i + 1) L := qj_in (k := 1) (by omega) hL
  have TT := T M1 M2 hR (xs (nI i + 1).toNatClampNeg)
  refine lv_aload_n hx hb dL_law_892 rfl (lv_at hl 1 rfl) ?_
  refine lv_aload_n hx hb dL_law_893 rfl (lv_at hl 0 rfl) ?_
  refine lv_iload_n hx hb dL_law_894 rfl (lv_at hl 3 rfl) ?_
  refine lv_iconst (v := 1) hx hb dL_law_895 (by decide) ?_
  refine lv_iadd hx hb dL_law_896 ?_
  refine va_sld hx hb hX hbl hbA hS j1 dL_law_897 ?_
  refine yl_1i hw hS (va_runV (As := [.int (xs (nI i + 1).toNatClampNeg)]) (rest := []) ⟨hx, hb, hml, hown, htl⟩ (c_X7_listen l G (fun k => s.heap.size + k) (qI_a1 _) M1 _ (xs (nI i + 1).toNatClampNeg) TT) (cwV 1 htl gL_law_X7_listen rfl rfl rfl (by decide +kernel) ⟨Nat.le_of_ble_eq_true rfl, Nat.le_of_ble_eq_true rfl⟩) ⟨qPre.blind, qrecvL hK hw.1 qOb_7 rfl, qPre.atL hK hw.1⟩ rfl rfl hl.1 rfl (lv_room (Nat.le_of_ble_eq_true rfl)) dL_law_898 ⟨Nat.le_of_ble_eq_true rfl, Nat.le_of_ble_eq_true rfl⟩) (fun r1 N1 H locs hP hw hS => ?_)
  refine lv_aload_n hx hb dL_law_901 rfl (lv_at hl 2 rfl) ?_
  refine lv_aload_n hx hb dL_law_902 rfl (lv_at hl 0 rfl) ?_
  refine lv_iload_n hx hb dL_law_903 rfl (lv_at hl 3 rfl) ?_
  refine lv_iconst (v := 1) hx hb dL_law_904 (by decide) ?_
  refine lv_iadd hx hb dL_law_905 ?_
  refine va_sld hx hb hX hbl hbA hS j1 dL_law_906 ?_
  refine yl_2i hw hS (va_runV (As := [.int (xs (nI i + 1).toNatClampNeg)]) (rest := [.int r1]) ⟨hx, hb, hml, hown, htl⟩ (c_X8_listen l G (fun k => s.heap.size + 75 + k) (qI_a2 _) M2 _ (xs (nI i + 1).toNatClampNeg) hP) (cwV 1 htl gL_law_X8_listen rfl rfl rfl (by decide +kernel) ⟨Nat.le_of_ble_eq_true rfl, Nat.le_of_ble_eq_true rfl⟩) ⟨qPre.blind, qrecvL hK hw.2 qOb_8 rfl, qPre.atL hK hw.2⟩ rfl rfl hl.1 rfl (lv_room (Nat.le_of_ble_eq_true rfl)) dL_law_907 ⟨Nat.le_of_ble_eq_true rfl, Nat.le_of_ble_eq_true rfl⟩) (fun r2 N2 H locs hP hw hS => ?_)
  refine lv_icmp_eq (tgt := 1091) hx hb dL_law_910 (by decide) (fun hc => ?_) (fun hc => ?_)
  · exact kk _ _ _ _ hP.2 hw hS
  · exact absurd hP.1.symm hc
def qT_cold (R : qM → qM → Prop) : Prop := ∀ M1 M2, R M1 M2 → ∀ x1 x2 x3 x4 x5 : Int32, qOk (kX7_cold M1 x1 x2 x3 x4 x5) (fun r1 => qOk2 (kX8_cold M2 x1 x2 x3 x4 x5) (fun r2 N2 => r2 = r1 ∧ R M1 N2))
set_option maxHeartbeats 4000000 in
set_option maxRecDepth 100000 in
theorem lc_cold {p : Program} {l : Launch} {e : Env} {s : State} {m : MethodId} {below : List Frame} {meth : Method} {c : Code} {b L : Nat} {xs : Nat → Int32} (hL : L ≤ 384) (C0 : lw_At p s m meth c b L xs) {G : qG} (hK : qK G s) {R : qM → qM → Prop} (T : qT_cold R) {M1 M2 : qM} {H : Heap} {locs : List Loc} {ls : Array Slot} {i : Nat} (hi : i + 6 ≤ L) (hR : R M1 M2) (hw : qLw G s.heap.size M1 M2 H) (hS : va_S (fun q => s.heap.size ≤ q) s.heap H locs) (hl : lv_has ls 4 [(0, .ref b), (1, .ref (s.heap.size + 0)), (2, .ref (s.heap.size + 75 + 0)), (3, .int (nI i))]) (kk : ∀ (M1 M2 : qM) (H : Heap) (locs : List Loc), R M1 M2 → qLw G s.heap.size M1 M2 H → va_S (fun q => s.heap.size ≤ q) s.heap H locs → W p l e room_1 s m #[Value.ref b] below meth c H locs 600000 7302250 (lw_Z below #[Value.ref b] s) (F0 m 1091 ls [])) : W p l e room_1 s m #[Value.ref b] below meth c H locs 600000 7302250 (lw_Z below #[Value.ref b] s) (F0 m 915 ls []) := by
  obtain ⟨hx, hb, hr, hml, hown, hts, hX, hbl, hlocks, hgv⟩ := C0
  have hown : s.vm.findClass RL = some m.cls := hown
  have htl : ∀ w ∈ wsL_law, w.before #[Value.ref b] s = true := fun w hw => hts w (wsL_law_in w hw)
  have hbA : ¬ (fun q : Nat => s.heap.size ≤ q) b := Nat.not_le.mpr hbl
  have j1 : vp_in (nI i + 1) L := qj_in (k := 1) (by omega) hL
  have j2 : vp_in (nI i + 2) L := qj_in (k := 2) (by omega) hL
  have j3 : vp_in (nI i + 3) L := qj_in (k := 3) (by omega) hL
  have j4 : vp_in (nI i + 4) L := qj_in (k := 4) (by omega) hL
  have j5 : vp_in (nI i + 5) L := qj_in (k := 5) (by omega) hL
  have TT := T M1 M2 hR (xs (nI i + 1).toNatClampNeg) (xs (nI i + 2).toNatClampNeg) (xs (nI i + 3).toNatClampNeg) (xs (nI i + 4).toNatClampNeg) (xs (nI i + 5).toNatClampNeg)
  refine lv_aload_n hx hb dL_law_915 rfl (lv_at hl 1 rfl) ?_
  refine lv_aload_n hx hb dL_law_916 rfl (lv_at hl 0 rfl) ?_
  refine lv_iload_n hx hb dL_law_917 rfl (lv_at hl 3 rfl) ?_
  refine lv_iconst (v := 1) hx hb dL_law_918 (by decide) ?_
  refine lv_iadd hx hb dL_law_919 ?_
  refine va_sld hx hb hX hbl hbA hS j1 dL_law_920 ?_
  refine lv_aload_n hx hb dL_law_921 rfl (lv_at hl 0 rfl) ?_
  refine lv_iload_n hx hb dL_law_922 rfl (lv_at hl 3 rfl) ?_
  refine lv_iconst (v := 2) hx hb dL_law_923 (by decide) ?_
  refine lv_iadd hx hb dL_law_924 ?_
  refine va_sld hx hb hX hbl hbA hS j2 dL_law_925 ?_
  refine lv_aload_n hx hb dL_law_926 rfl (lv_at hl 0 rfl) ?_
  refine lv_iload_n hx hb dL_law_927 rfl (lv_at hl 3 rfl) ?_
  refine lv_iconst (v := 3) hx hb dL_law_928 (by decide) ?_
  refine lv_iadd hx hb dL_law_929 ?_
  refine va_sld hx hb hX hbl hbA hS j3 dL_law_930 ?_
  refine lv_aload_n hx hb dL_law_931 rfl (lv_at hl 0 rfl) ?_
  refine lv_iload_n hx hb dL_law_932 rfl (lv_at hl 3 rfl) ?_
  refine lv_iconst (v := 4) hx hb dL_law_933 (by decide) ?_
  refine lv_iadd hx hb dL_law_934 ?_
  refine va_sld hx hb hX hbl hbA hS j4 dL_law_935 ?_
  refine lv_aload_n hx hb dL_law_936 rfl (lv_at hl 0 rfl) ?_
  refine lv_iload_n hx hb dL_law_937 rfl (lv_at hl 3 rfl) ?_
  refine lv_iconst (v := 5) hx hb dL_law_938 (by decide) ?_
  refine lv_iadd hx hb dL_law_939 ?_
  refine va_sld hx hb hX hbl hbA hS j5 dL_law_940 ?_
  refine yl_pl (va_runV (As := [.int (xs (nI i + 1).toNatClampNeg), .int (xs (nI i + 2).toNatClampNeg), .int (xs (nI i + 3).toNatClampNeg), .int (xs (nI i + 4).toNatClampNeg), .int (xs (nI i + 5).toNatClampNeg)]) (rest := []) ⟨hx, hb, hml, hown, htl⟩ (c_X7_cold l G (fun k => s.heap.size + k) (qI_a1 _) M1 _ (xs (nI i + 1).toNatClampNeg) (xs (nI i + 2).toNatClampNeg) (xs (nI i + 3).toNatClampNeg) (xs (nI i + 4).toNatClampNeg) (xs (nI i + 5).toNatClampNeg) TT) (cwV 5 htl gL_law_X7_cold rfl rfl rfl (by decide +kernel) ⟨Nat.le_of_ble_eq_true rfl, Nat.le_of_ble_eq_true rfl⟩) ⟨qPre.blind, qrecvL hK hw.1 qOb_7 rfl, qPre.atL hK hw.1⟩ rfl rfl hl.1 rfl (lv_room (Nat.le_of_ble_eq_true rfl)) dL_law_941 ⟨Nat.le_of_ble_eq_true rfl, Nat.le_of_ble_eq_true rfl⟩) (fun r1 hP => ?_)
  refine lv_aload_n hx hb dL_law_944 rfl (lv_at hl 2 rfl) ?_
  refine lv_aload_n hx hb dL_law_945 rfl (lv_at hl 0 rfl) ?_
  refine lv_iload_n hx hb dL_law_946 rfl (lv_at hl 3 rfl) ?_
  refine lv_iconst (v := 1) hx hb dL_law_947 (by decide) ?_
  refine lv_iadd hx hb dL_law_948 ?_
  refine va_sld hx hb hX hbl hbA hS j1 dL_law_949 ?_
  refine lv_aload_n hx hb dL_law_950 rfl (lv_at hl 0 rfl) ?_
  refine lv_iload_n hx hb dL_law_951 rfl (lv_at hl 3 rfl) ?_
  refine lv_iconst (v := 2) hx hb dL_law_952 (by decide) ?_
  refine lv_iadd hx hb dL_law_953 ?_
  refine va_sld hx hb hX hbl hbA hS j2 dL_law_954 ?_
  refine lv_aload_n hx hb dL_law_955 rfl (lv_at hl 0 rfl) ?_
  refine lv_iload_n hx hb dL_law_956 rfl (lv_at hl 3 rfl) ?_
  refine lv_iconst (v := 3) hx hb dL_law_957 (by decide) ?_
  refine lv_iadd hx hb dL_law_958 ?_
  refine va_sld hx hb hX hbl hbA hS j3 dL_law_959 ?_
  refine lv_aload_n hx hb dL_law_960 rfl (lv_at hl 0 rfl) ?_
  refine lv_iload_n hx hb dL_law_961 rfl (lv_at hl 3 rfl) ?_
  refine lv_iconst (v := 4) hx hb dL_law_962 (by decide) ?_
  refine lv_iadd hx hb dL_law_963 ?_
  refine va_sld hx hb hX hbl hbA hS j4 dL_law_964 ?_
  refine lv_aload_n hx hb dL_law_965 rfl (lv_at hl 0 rfl) ?_
  refine lv_iload_n hx hb dL_law_966 rfl (lv_at hl 3 rfl) ?_
  refine lv_iconst (v := 5) hx hb dL_law_967 (by decide) ?_
  refine lv_iadd hx hb dL_law_968 ?_
  refine va_sld hx hb hX hbl hbA hS j5 dL_law_969 ?_
  refine yl_2l hw hS (va_runV (As := [.int (xs (nI i + 1).toNatClampNeg), .int (xs (nI i + 2).toNatClampNeg), .int (xs (nI i + 3).toNatClampNeg), .int (xs (nI i + 4).toNatClampNeg), .int (xs (nI i + 5).toNatClampNeg)]) (rest := [.long r1]) ⟨hx, hb, hml, hown, htl⟩ (c_X8_cold l G (fun k => s.heap.size + 75 + k) (qI_a2 _) M2 _ (xs (nI i + 1).toNatClampNeg) (xs (nI i + 2).toNatClampNeg) (xs (nI i + 3).toNatClampNeg) (xs (nI i + 4).toNatClampNeg) (xs (nI i + 5).toNatClampNeg) hP) (cwV 5 htl gL_law_X8_cold rfl rfl rfl (by decide +kernel) ⟨Nat.le_of_ble_eq_true rfl, Nat.le_of_ble_eq_true rfl⟩) ⟨qPre.blind, qrecvL hK hw.2 qOb_8 rfl, qPre.atL hK hw.2⟩ rfl rfl hl.1 rfl (lv_room (Nat.le_of_ble_eq_true rfl)) dL_law_970 ⟨Nat.le_of_ble_eq_true rfl, Nat.le_of_ble_eq_true rfl⟩) (fun r2 N2 H locs hP hw hS => ?_)
  refine W.lcmp hx hb dL_law_973 ?_
  refine lv_if_eq (tgt := 1091) hx hb dL_law_974 (by decide) (fun hc => ?_) (fun hc => ?_)
  · exact kk _ _ _ _ hP.2 hw hS
  · exact absurd (by rw [hP.1]; exact qlg_self r1) hc
def qT_year (R : qM → qM → Prop) : Prop := ∀ M1 M2, R M1 M2 → ∀ x1 x2 x3 : Int32, qOk2 (kX7_year M1 x1 x2 x3) (fun r1 N1 => qOk2 (kX8_year M2 x1 x2 x3) (fun r2 N2 => r2 = r1 ∧ R N1 N2))
set_option maxHeartbeats 4000000 in
set_option maxRecDepth 100000 in
theorem lc_year {p : Program} {l : Launch} {e : Env} {s : State} {m : MethodId} {below : List Frame} {meth : Method} {c : Code} {b L : Nat} {xs : Nat → Int32} (hL : L ≤ 384) (C0 : lw_At p s m meth c b L xs) {G : qG} (hK : qK G s) {R : qM → qM → Prop} (T : qT_year R) {M1 M2 : qM} {H : Heap} {locs : List Loc} {ls : Array Slot} {i : Nat} (hi : i + 6 ≤ L) (hR : R M1 M2) (hw : qLw G s.heap.size M1 M2 H) (hS : va_S (fun q => s.heap.size ≤ q) s.heap H locs) (hl : lv_has ls 4 [(0, .ref b), (1, .ref (s.heap.size + 0)), (2, .ref (s.heap.size + 75 + 0)), (3, .int (nI i))]) (kk : ∀ (M1 M2 : qM) (H : Heap) (locs : List Loc), R M1 M2 → qLw G s.heap.size M1 M2 H → va_S (fun q => s.heap.size ≤ q) s.heap H locs → W p l e room_1 s m #[Value.ref b] below meth c H locs 600000 7302250 (lw_Z below #[Value.ref b] s) (F0 m 1091 ls [])) : W p l e room_1 s m #[Value.ref b] below meth c H locs 600000 7302250 (lw_Z below #[Value.ref b] s) (F0 m 979 ls []) := by
  obtain ⟨hx, hb, hr, hml, hown, hts, hX, hbl, hlocks, hgv⟩ := C0
  have hown : s.vm.findClass RL = some m.cls := hown
  have htl : ∀ w ∈ wsL_law, w.before #[Value.ref b] s = true := fun w hw => hts w (wsL_law_in w hw)
  have hbA : ¬ (fun q : Nat => s.heap.size ≤ q) b := Nat.not_le.mpr hbl
  have j1 : vp_in (nI i + 1) L := qj_in (k := 1) (by omega) hL
  have j2 : vp_in (nI i + 2) L := qj_in (k := 2) (by omega) hL
  have j3 : vp_in (nI i + 3) L := qj_in (k := 3) (by omega) hL
  have TT := T M1 M2 hR (xs (nI i + 1).toNatClampNeg) (xs (nI i + 2).toNatClampNeg) (xs (nI i + 3).toNatClampNeg)
  refine lv_aload_n hx hb dL_law_979 rfl (lv_at hl 1 rfl) ?_
  refine lv_aload_n hx hb dL_law_980 rfl (lv_at hl 0 rfl) ?_
  refine lv_iload_n hx hb dL_law_981 rfl (lv_at hl 3 rfl) ?_
  refine lv_iconst (v := 1) hx hb dL_law_982 (by decide) ?_
  refine lv_iadd hx hb dL_law_983 ?_
  refine va_sld hx hb hX hbl hbA hS j1 dL_law_984 ?_
  refine lv_aload_n hx hb dL_law_985 rfl (lv_at hl 0 rfl) ?_
  refine lv_iload_n hx hb dL_law_986 rfl (lv_at hl 3 rfl) ?_
  refine lv_iconst (v := 2) hx hb dL_law_987 (by decide) ?_
  refine lv_iadd hx hb dL_law_988 ?_
  refine va_sld hx hb hX hbl hbA hS j2 dL_law_989 ?_
  refine lv_aload_n hx hb dL_law_990 rfl (lv_at hl 0 rfl) ?_
  refine lv_iload_n hx hb dL_law_991 rfl (lv_at hl 3 rfl) ?_
  refine lv_iconst (v := 3) hx hb dL_law_992 (by decide) ?_
  refine lv_iadd hx hb dL_law_993 ?_
  refine va_sld hx hb hX hbl hbA hS j3 dL_law_994 ?_
  refine yl_1i hw hS (va_runV (As := [.int (xs (nI i + 1).toNatClampNeg), .int (xs (nI i + 2).toNatClampNeg), .int (xs (nI i + 3).toNatClampNeg)]) (rest := []) ⟨hx, hb, hml, hown, htl⟩ (c_X7_year l G (fun k => s.heap.size + k) (qI_a1 _) M1 _ (xs (nI i + 1).toNatClampNeg) (xs (nI i + 2).toNatClampNeg) (xs (nI i + 3).toNatClampNeg) TT) (cwV 3 htl gL_law_X7_year rfl rfl rfl (by decide +kernel) ⟨Nat.le_of_ble_eq_true rfl, Nat.le_of_ble_eq_true rfl⟩) ⟨qPre.blind, qrecvL hK hw.1 qOb_7 rfl, qPre.atL hK hw.1⟩ rfl rfl hl.1 rfl (lv_room (Nat.le_of_ble_eq_true rfl)) dL_law_995 ⟨Nat.le_of_ble_eq_true rfl, Nat.le_of_ble_eq_true rfl⟩) (fun r1 N1 H locs hP hw hS => ?_)
  refine lv_aload_n hx hb dL_law_998 rfl (lv_at hl 2 rfl) ?_
  refine lv_aload_n hx hb dL_law_999 rfl (lv_at hl 0 rfl) ?_
  refine lv_iload_n hx hb dL_law_1000 rfl (lv_at hl 3 rfl) ?_
  refine lv_iconst (v := 1) hx hb dL_law_1001 (by decide) ?_
  refine lv_iadd hx hb dL_law_1002 ?_
  refine va_sld hx hb hX hbl hbA hS j1 dL_law_1003 ?_
  refine lv_aload_n hx hb dL_law_1004 rfl (lv_at hl 0 rfl) ?_
  refine lv_iload_n hx hb dL_law_1005 rfl (lv_at hl 3 rfl) ?_
  refine lv_iconst (v := 2) hx hb dL_law_1006 (by decide) ?_
  refine lv_iadd hx hb dL_law_1007 ?_
  refine va_sld hx hb hX hbl hbA hS j2 dL_law_1008 ?_
  refine lv_aload_n hx hb dL_law_1009 rfl (lv_at hl 0 rfl) ?_
  refine lv_iload_n hx hb dL_law_1010 rfl (lv_at hl 3 rfl) ?_
  refine lv_iconst (v := 3) hx hb dL_law_1011 (by decide) ?_
  refine lv_iadd hx hb dL_law_1012 ?_
  refine va_sld hx hb hX hbl hbA hS j3 dL_law_1013 ?_
  refine yl_2i hw hS (va_runV (As := [.int (xs (nI i + 1).toNatClampNeg), .int (xs (nI i + 2).toNatClampNeg), .int (xs (nI i + 3).toNatClampNeg)]) (rest := [.int r1]) ⟨hx, hb, hml, hown, htl⟩ (c_X8_year l G (fun k => s.heap.size + 75 + k) (qI_a2 _) M2 _ (xs (nI i + 1).toNatClampNeg) (xs (nI i + 2).toNatClampNeg) (xs (nI i + 3).toNatClampNeg) hP) (cwV 3 htl gL_law_X8_year rfl rfl rfl (by decide +kernel) ⟨Nat.le_of_ble_eq_true rfl, Nat.le_of_ble_eq_true rfl⟩) ⟨qPre.blind, qrecvL hK hw.2 qOb_8 rfl, qPre.atL hK hw.2⟩ rfl rfl hl.1 rfl (lv_room (Nat.le_of_ble_eq_true rfl)) dL_law_1014 ⟨Nat.le_of_ble_eq_true rfl, Nat.le_of_ble_eq_true rfl⟩) (fun r2 N2 H locs hP hw hS => ?_)
  refine lv_icmp_eq (tgt := 1091) hx hb dL_law_1017 (by decide) (fun hc => ?_) (fun hc => ?_)
  · exact kk _ _ _ _ hP.2 hw hS
  · exact absurd hP.1.symm hc
def qT_image (R : qM → qM → Prop) : Prop := ∀ M1 M2, R M1 M2 → ∀ x1 : Int32, qOk2 (kX7_image M1 x1) (fun r1 N1 => qOk2 (kX8_image M2 x1) (fun r2 N2 => r2 = r1 ∧ R N1 N2))
set_option maxHeartbeats 4000000 in
set_option maxRecDepth 100000 in
theorem lc_image {p : Program} {l : Launch} {e : Env} {s : State} {m : MethodId} {below : List Frame} {meth : Method} {c : Code} {b L : Nat} {xs : Nat → Int32} (hL : L ≤ 384) (C0 : lw_At p s m meth c b L xs) {G : qG} (hK : qK G s) {R : qM → qM → Prop} (T : qT_image R) {M1 M2 : qM} {H : Heap} {locs : List Loc} {ls : Array Slot} {i : Nat} (hi : i + 6 ≤ L) (hR : R M1 M2) (hw : qLw G s.heap.size M1 M2 H) (hS : va_S (fun q => s.heap.size ≤ q) s.heap H locs) (hl : lv_has ls 4 [(0, .ref b), (1, .ref (s.heap.size + 0)), (2, .ref (s.heap.size + 75 + 0)), (3, .int (nI i))]) (kk : ∀ (M1 M2 : qM) (H : Heap) (locs : List Loc), R M1 M2 → qLw G s.heap.size M1 M2 H → va_S (fun q => s.heap.size ≤ q) s.heap H locs → W p l e room_1 s m #[Value.ref b] below meth c H locs 600000 7302250 (lw_Z below #[Value.ref b] s) (F0 m 1091 ls [])) : W p l e room_1 s m #[Value.ref b] below meth c H locs 600000 7302250 (lw_Z below #[Value.ref b] s) (F0 m 1022 ls []) := by
  obtain ⟨hx, hb, hr, hml, hown, hts, hX, hbl, hlocks, hgv⟩ := C0
  have hown : s.vm.findClass RL = some m.cls := hown
  have htl : ∀ w ∈ wsL_law, w.before #[Value.ref b] s = true := fun w hw => hts w (wsL_law_in w hw)
  have hbA : ¬ (fun q : Nat => s.heap.size ≤ q) b := Nat.not_le.mpr hbl
  have j1 : vp_in (nI i + 1) L := qj_in (k := 1) (by omega) hL
  have TT := T M1 M2 hR (xs (nI i + 1).toNatClampNeg)
  refine lv_aload_n hx hb dL_law_1022 rfl (lv_at hl 1 rfl) ?_
  refine lv_aload_n hx hb dL_law_1023 rfl (lv_at hl 0 rfl) ?_
  refine lv_iload_n hx hb dL_law_1024 rfl (lv_at hl 3 rfl) ?_
  refine lv_iconst (v := 1) hx hb dL_law_1025 (by decide) ?_
  refine lv_iadd hx hb dL_law_1026 ?_
  refine va_sld hx hb hX hbl hbA hS j1 dL_law_1027 ?_
  refine yl_1i hw hS (va_runV (As := [.int (xs (nI i + 1).toNatClampNeg)]) (rest := []) ⟨hx, hb, hml, hown, htl⟩ (c_X7_image l G (fun k => s.heap.size + k) (qI_a1 _) M1 _ (xs (nI i + 1).toNatClampNeg) TT) (cwV 1 htl gL_law_X7_image rfl rfl rfl (by decide +kernel) ⟨Nat.le_of_ble_eq_true rfl, Nat.le_of_ble_eq_true rfl⟩) ⟨qPre.blind, qrecvL hK hw.1 qOb_7 rfl, qPre.atL hK hw.1⟩ rfl rfl hl.1 rfl (lv_room (Nat.le_of_ble_eq_true rfl)) dL_law_1028 ⟨Nat.le_of_ble_eq_true rfl, Nat.le_of_ble_eq_true rfl⟩) (fun r1 N1 H locs hP hw hS => ?_)
  refine lv_aload_n hx hb dL_law_1031 rfl (lv_at hl 2 rfl) ?_
  refine lv_aload_n hx hb dL_law_1032 rfl (lv_at hl 0 rfl) ?_
  refine lv_iload_n hx hb dL_law_1033 rfl (lv_at hl 3 rfl) ?_
  refine lv_iconst (v := 1) hx hb dL_law_1034 (by decide) ?_
  refine lv_iadd hx hb dL_law_1035 ?_
  refine va_sld hx hb hX hbl hbA hS j1 dL_law_1036 ?_
  refine yl_2i hw hS (va_runV (As := [.int (xs (nI i + 1).toNatClampNeg)]) (rest := [.int r1]) ⟨hx, hb, hml, hown, htl⟩ (c_X8_image l G (fun k => s.heap.size + 75 + k) (qI_a2 _) M2 _ (xs (nI i + 1).toNatClampNeg) hP) (cwV 1 htl gL_law_X8_image rfl rfl rfl (by decide +kernel) ⟨Nat.le_of_ble_eq_true rfl, Nat.le_of_ble_eq_true rfl⟩) ⟨qPre.blind, qrecvL hK hw.2 qOb_8 rfl, qPre.atL hK hw.2⟩ rfl rfl hl.1 rfl (lv_room (Nat.le_of_ble_eq_true rfl)) dL_law_1037 ⟨Nat.le_of_ble_eq_true rfl, Nat.le_of_ble_eq_true rfl⟩) (fun r2 N2 H locs hP hw hS => ?_)
  refine lv_icmp_eq (tgt := 1091) hx hb dL_law_1040 (by decide) (fun hc => ?_) (fun hc => ?_)
  · exact kk _ _ _ _ hP.2 hw hS
  · exact absurd hP.1.symm hc
def qT_restore (R : qM → qM → Prop) : Prop := ∀ M1 M2, R M1 M2 → ∀ x1 : Int32, qOk2 (kX7_restore M1 x1) (fun r1 N1 => qOk2 (kX8_restore M2 x1) (fun r2 N2 => r2 = r1 ∧ R N1 N2))
set_option maxHeartbeats 4000000 in
set_option maxRecDepth 100000 in
theorem lc_restore {p : Program} {l : Launch} {e : Env} {s : State} {m : MethodId} {below : List Frame} {meth : Method} {c : Code} {b L : Nat} {xs : Nat → Int32} (hL : L ≤ 384) (C0 : lw_At p s m meth c b L xs) {G : qG} (hK : qK G s) {R : qM → qM → Prop} (T : qT_restore R) {M1 M2 : qM} {H : Heap} {locs : List Loc} {ls : Array Slot} {i : Nat} (hi : i + 6 ≤ L) (hR : R M1 M2) (hw : qLw G s.heap.size M1 M2 H) (hS : va_S (fun q => s.heap.size ≤ q) s.heap H locs) (hl : lv_has ls 4 [(0, .ref b), (1, .ref (s.heap.size + 0)), (2, .ref (s.heap.size + 75 + 0)), (3, .int (nI i))]) (kk : ∀ (M1 M2 : qM) (H : Heap) (locs : List Loc), R M1 M2 → qLw G s.heap.size M1 M2 H → va_S (fun q => s.heap.size ≤ q) s.heap H locs → W p l e room_1 s m #[Value.ref b] below meth c H locs 600000 7302250 (lw_Z below #[Value.ref b] s) (F0 m 1091 ls [])) : W p l e room_1 s m #[Value.ref b] below meth c H locs 600000 7302250 (lw_Z below #[Value.ref b] s) (F0 m 1045 ls []) := by
  obtain ⟨hx, hb, hr, hml, hown, hts, hX, hbl, hlocks, hgv⟩ := C0
  have hown : s.vm.findClass RL = some m.cls := hown
  have htl : ∀ w ∈ wsL_law, w.before #[Value.ref b] s = true := fun w hw => hts w (wsL_law_in w hw)
  have hbA : ¬ (fun q : Nat => s.heap.size ≤ q) b := Nat.not_le.mpr hbl
  have j1 : vp_in (nI i + 1) L := qj_in (k := 1) (by omega) hL
  have TT := T M1 M2 hR (xs (nI i + 1).toNatClampNeg)
  refine lv_aload_n hx hb dL_law_1045 rfl (lv_at hl 1 rfl) ?_
  refine lv_aload_n hx hb dL_law_1046 rfl (lv_at hl 0 rfl) ?_
  refine lv_iload_n hx hb dL_law_1047 rfl (lv_at hl 3 rfl) ?_
  refine lv_iconst (v := 1) hx hb dL_law_1048 (by decide) ?_
  refine lv_iadd hx hb dL_law_1049 ?_
  refine va_sld hx hb hX hbl hbA hS j1 dL_law_1050 ?_
  refine yl_1i hw hS (va_runV (As := [.int (xs (nI i + 1).toNatClampNeg)]) (rest := []) ⟨hx, hb, hml, hown, htl⟩ (c_X7_restore l G (fun k => s.heap.size + k) (qI_a1 _) M1 _ (xs (nI i + 1).toNatClampNeg) TT) (cwV 1 htl gL_law_X7_restore rfl rfl rfl (by decide +kernel) ⟨Nat.le_of_ble_eq_true rfl, Nat.le_of_ble_eq_true rfl⟩) ⟨qPre.blind, qrecvL hK hw.1 qOb_7 rfl, qPre.atL hK hw.1⟩ rfl rfl hl.1 rfl (lv_room (Nat.le_of_ble_eq_true rfl)) dL_law_1051 ⟨Nat.le_of_ble_eq_true rfl, Nat.le_of_ble_eq_true rfl⟩) (fun r1 N1 H locs hP hw hS => ?_)
  refine lv_aload_n hx hb dL_law_1054 rfl (lv_at hl 2 rfl) ?_
  refine lv_aload_n hx hb dL_law_1055 rfl (lv_at hl 0 rfl) ?_
  refine lv_iload_n hx hb dL_law_1056 rfl (lv_at hl 3 rfl) ?_
  refine lv_iconst (v := 1) hx hb dL_law_1057 (by decide) ?_
  refine lv_iadd hx hb dL_law_1058 ?_
  refine va_sld hx hb hX hbl hbA hS j1 dL_law_1059 ?_
  refine yl_2i hw hS (va_runV (As := [.int (xs (nI i + 1).toNatClampNeg)]) (rest := [.int r1]) ⟨hx, hb, hml, hown, htl⟩ (c_X8_restore l G (fun k => s.heap.size + 75 + k) (qI_a2 _) M2 _ (xs (nI i + 1).toNatClampNeg) hP) (cwV 1 htl gL_law_X8_restore rfl rfl rfl (by decide +kernel) ⟨Nat.le_of_ble_eq_true rfl, Nat.le_of_ble_eq_true rfl⟩) ⟨qPre.blind, qrecvL hK hw.2 qOb_8 rfl, qPre.atL hK hw.2⟩ rfl rfl hl.1 rfl (lv_room (Nat.le_of_ble_eq_true rfl)) dL_law_1060 ⟨Nat.le_of_ble_eq_true rfl, Nat.le_of_ble_eq_true rfl⟩) (fun r2 N2 H locs hP hw hS => ?_)
  refine lv_icmp_eq (tgt := 1091) hx hb dL_law_1063 (by decide) (fun hc => ?_) (fun hc => ?_)
  · exact kk _ _ _ _ hP.2 hw hS
  · exact absurd hP.1.symm hc
def qT_told (R : qM → qM → Prop) : Prop := ∀ M1 M2, R M1 M2 → ∀ x1 : Int32, qOk2 (kX7_told M1 x1) (fun r1 N1 => qOk2 (kX8_told M2 x1) (fun r2 N2 => r2 = r1 ∧ R N1 N2))
set_option maxHeartbeats 4000000 in
set_option maxRecDepth 100000 in
theorem lc_told {p : Program} {l : Launch} {e : Env} {s : State} {m : MethodId} {below : List Frame} {meth : Method} {c : Code} {b L : Nat} {xs : Nat → Int32} (hL : L ≤ 384) (C0 : lw_At p s m meth c b L xs) {G : qG} (hK : qK G s) {R : qM → qM → Prop} (T : qT_told R) {M1 M2 : qM} {H : Heap} {locs : List Loc} {ls : Array Slot} {i : Nat} (hi : i + 6 ≤ L) (hR : R M1 M2) (hw : qLw G s.heap.size M1 M2 H) (hS : va_S (fun q => s.heap.size ≤ q) s.heap H locs) (hl : lv_has ls 4 [(0, .ref b), (1, .ref (s.heap.size + 0)), (2, .ref (s.heap.size + 75 + 0)), (3, .int (nI i))]) (kk : ∀ (M1 M2 : qM) (H : Heap) (locs : List Loc), R M1 M2 → qLw G s.heap.size M1 M2 H → va_S (fun q => s.heap.size ≤ q) s.heap H locs → W p l e room_1 s m #[Value.ref b] below meth c H locs 600000 7302250 (lw_Z below #[Value.ref b] s) (F0 m 1091 ls [])) : W p l e room_1 s m #[Value.ref b] below meth c H locs 600000 7302250 (lw_Z below #[Value.ref b] s) (F0 m 1068 ls []) := by
  obtain ⟨hx, hb, hr, hml, hown, hts, hX, hbl, hlocks, hgv⟩ := C0
  have hown : s.vm.findClass RL = some m.cls := hown
  have htl : ∀ w ∈ wsL_law, w.before #[Value.ref b] s = true := fun w hw => hts w (wsL_law_in w hw)
  have hbA : ¬ (fun q : Nat => s.heap.size ≤ q) b := Nat.not_le.mpr hbl
  have j1 : vp_in (nI i + 1) L := qj_in (k := 1) (by omega) hL
  have TT := T M1 M2 hR (xs (nI i + 1).toNatClampNeg)
  refine lv_aload_n hx hb dL_law_1068 rfl (lv_at hl 1 rfl) ?_
  refine lv_aload_n hx hb dL_law_1069 rfl (lv_at hl 0 rfl) ?_
  refine lv_iload_n hx hb dL_law_1070 rfl (lv_at hl 3 rfl) ?_
  refine lv_iconst (v := 1) hx hb dL_law_1071 (by decide) ?_
  refine lv_iadd hx hb dL_law_1072 ?_
  refine va_sld hx hb hX hbl hbA hS j1 dL_law_1073 ?_
  refine yl_1i hw hS (va_runV (As := [.int (xs (nI i + 1).toNatClampNeg)]) (rest := []) ⟨hx, hb, hml, hown, htl⟩ (c_X7_told l G (fun k => s.heap.size + k) (qI_a1 _) M1 _ (xs (nI i + 1).toNatClampNeg) TT) (cwV 1 htl gL_law_X7_told rfl rfl rfl (by decide +kernel) ⟨Nat.le_of_ble_eq_true rfl, Nat.le_of_ble_eq_true rfl⟩) ⟨qPre.blind, qrecvL hK hw.1 qOb_7 rfl, qPre.atL hK hw.1⟩ rfl rfl hl.1 rfl (lv_room (Nat.le_of_ble_eq_true rfl)) dL_law_1074 ⟨Nat.le_of_ble_eq_true rfl, Nat.le_of_ble_eq_true rfl⟩) (fun r1 N1 H locs hP hw hS => ?_)
  refine lv_aload_n hx hb dL_law_1077 rfl (lv_at hl 2 rfl) ?_
  refine lv_aload_n hx hb dL_law_1078 rfl (lv_at hl 0 rfl) ?_
  refine lv_iload_n hx hb dL_law_1079 rfl (lv_at hl 3 rfl) ?_
  refine lv_iconst (v := 1) hx hb dL_law_1080 (by decide) ?_
  refine lv_iadd hx hb dL_law_1081 ?_
  refine va_sld hx hb hX hbl hbA hS j1 dL_law_1082 ?_
  refine yl_2i hw hS (va_runV (As := [.int (xs (nI i + 1).toNatClampNeg)]) (rest := [.int r1]) ⟨hx, hb, hml, hown, htl⟩ (c_X8_told l G (fun k => s.heap.size + 75 + k) (qI_a2 _) M2 _ (xs (nI i + 1).toNatClampNeg) hP) (cwV 1 htl gL_law_X8_told rfl rfl rfl (by decide +kernel) ⟨Nat.le_of_ble_eq_true rfl, Nat.le_of_ble_eq_true rfl⟩) ⟨qPre.blind, qrecvL hK hw.2 qOb_8 rfl, qPre.atL hK hw.2⟩ rfl rfl hl.1 rfl (lv_room (Nat.le_of_ble_eq_true rfl)) dL_law_1083 ⟨Nat.le_of_ble_eq_true rfl, Nat.le_of_ble_eq_true rfl⟩) (fun r2 N2 H locs hP hw hS => ?_)
  refine lv_icmp_eq (tgt := 1091) hx hb dL_law_1086 (by decide) (fun hc => ?_) (fun hc => ?_)
  · exact kk _ _ _ _ hP.2 hw hS
  · exact absurd hP.1.symm hc
set_option maxHeartbeats 4000000 in
set_option maxRecDepth 100000 in
theorem law_loop {p : Program} {l : Launch} {e : Env} {s : State} {m : MethodId} {below : List Frame} {meth : Method} {c : Code} {b L : Nat} {xs : Nat → Int32} (hL : L ≤ 384) (C0 : lw_At p s m meth c b L xs) {G : qG} (hK : qK G s) {R : qM → qM → Prop} (T_passage : qT_passage R) (T_gallery : qT_gallery R) (T_voice : qT_voice R) (T_breath : qT_breath R) (T_leave : qT_leave R) (T_say : qT_say R) (T_wipe : qT_wipe R) (T_fault : qT_fault R) (T_judge : qT_judge R) (T_done : qT_done R) (T_behind : qT_behind R) (T_seam : qT_seam R) (T_then : qT_then R) (T_light : qT_light R) (T_shakes : qT_shakes R) (T_way : qT_way R) (T_fewest : qT_fewest R) (T_keep : qT_keep R) (T_cut : qT_cut R) (T_hold : qT_hold R) (T_round : qT_round R) (T_heard : qT_heard R) (T_forget : qT_forget R) (T_losts : qT_losts R) (T_listen : qT_listen R) (T_cold : qT_cold R) (T_year : qT_year R) (T_image : qT_image R) (T_restore : qT_restore R) (T_told : qT_told R) : ∀ (n i : Nat), i ≤ L + 6 → L + 6 < i + n → ∀ (M1 M2 : qM) (H : Heap) (locs : List Loc) (ls : Array Slot), R M1 M2 → qLw G s.heap.size M1 M2 H → va_S (fun q => s.heap.size ≤ q) s.heap H locs → lv_has ls 4 [(0, .ref b), (1, .ref (s.heap.size + 0)), (2, .ref (s.heap.size + 75 + 0)), (3, .int (nI i))] → W p l e room_1 s m #[Value.ref b] below meth c H locs 600000 7302250 (lw_Z below #[Value.ref b] s) (F0 m 18 ls []) := by
  have C1 := C0
  obtain ⟨hx, hb, hr, hml, hown, hts, hX, hbl, hlocks, hgv⟩ := C0
  have hbA : ¬ (fun q : Nat => s.heap.size ≤ q) b := Nat.not_le.mpr hbl
  intro n
  induction n with
  | zero => intro i h1 h2; omega
  | succ n ih =>
    intro i h1 h2 M1 M2 H locs ls hR hw hS hl
    refine lv_iload_n hx hb dL_law_18 rfl (lv_at hl 3 rfl) ?_
    refine lv_aload_n hx hb dL_law_19 rfl (lv_at hl 0 rfl) ?_
    refine va_slen hx hb hX hbl hbA hS dL_law_20 ?_
    refine lv_bipush (v := 6) hx hb dL_law_21 (by decide) ?_
    refine lv_isub hx hb dL_law_23 ?_
    refine lv_icmp_gt (tgt := 1097) hx hb dL_law_24 (by decide) (fun hc => ?_) (fun hc => ?_)
    · refine lv_iconst (v := 1) hx hb dL_law_1097 (by decide) ?_
      refine va_forget (fun q hq => hS.2.2 q hq) ?_
      exact lw_ret hx hb hr hlocks dL_law_1098
    · have hi : i + 6 ≤ L := qj_le hL (by omega) hc
      have j0 : vp_in (nI i) L := vp_in_nI (by omega) (by omega)
      have kk : ∀ (M1 M2 : qM) (H : Heap) (locs : List Loc), R M1 M2 → qLw G s.heap.size M1 M2 H → va_S (fun q => s.heap.size ≤ q) s.heap H locs → W p l e room_1 s m #[Value.ref b] below meth c H locs 600000 7302250 (lw_Z below #[Value.ref b] s) (F0 m 1091 ls []) := by
        intro M1 M2 H locs hR hw hS
        refine lv_iinc (v := nI (i + 6)) (lv' := [(3, .int (nI (i + 6))), (0, .ref b), (1, .ref (s.heap.size + 0)), (2, .ref (s.heap.size + 75 + 0))]) hx hb dL_law_1091 hl (k := 3) rfl (nI_add i 6) (by decide) rfl (fun ls hl => ?_)
        refine lv_goto (tgt := 18) hx hb dL_law_1094 (by decide) ?_
        exact ih (i + 6) (by omega) (by omega) M1 M2 H locs ls hR hw hS (lv_sub hl [1, 2, 3, 0] rfl)
      refine lv_aload_n hx hb dL_law_27 rfl (lv_at hl 0 rfl) ?_
      refine lv_iload_n hx hb dL_law_28 rfl (lv_at hl 3 rfl) ?_
      refine va_sld hx hb hX hbl hbA hS j0 dL_law_29 ?_
      refine lv_bipush (v := 31) hx hb dL_law_30 (by decide) ?_
      refine lv_iand hx hb dL_law_32 ?_
      refine lv_topi (fun y ey => ?_)
      by_cases c0 : y = 0
      · refine lv_tableIn (tgt := 168) hx hb dL_law_33 (by rw [c0]; decide) (by rw [c0]; decide) (by rw [c0]; rfl) (by decide) ?_
        exact lc_passage hL C1 hK T_passage hi hR hw hS hl kk
      by_cases c1 : y = 1
      · refine lv_tableIn (tgt := 227) hx hb dL_law_33 (by rw [c1]; decide) (by rw [c1]; decide) (by rw [c1]; rfl) (by decide) ?_
        exact lc_gallery hL C1 hK T_gallery hi hR hw hS hl kk
      by_cases c2 : y = 2
      · refine lv_tableIn (tgt := 286) hx hb dL_law_33 (by rw [c2]; decide) (by rw [c2]; decide) (by rw [c2]; rfl) (by decide) ?_
        exact lc_voice hL C1 hK T_voice hi hR hw hS hl kk
      by_cases c3 : y = 3
      · refine lv_tableIn (tgt := 349) hx hb dL_law_33 (by rw [c3]; decide) (by rw [c3]; decide) (by rw [c3]; rfl) (by decide) ?_
        exact lc_breath hL C1 hK T_breath hi hR hw hS hl kk
      by_cases c4 : y = 4
      · refine lv_tableIn (tgt := 382) hx hb dL_law_33 (by rw [c4]; decide) (by rw [c4]; decide) (by rw [c4]; rfl) (by decide) ?_
        exact lc_leave hL C1 hK T_leave hi hR hw hS hl kk
      by_cases c5 : y = 5
      · refine lv_tableIn (tgt := 405) hx hb dL_law_33 (by rw [c5]; decide) (by rw [c5]; decide) (by rw [c5]; rfl) (by decide) ?_
        exact lc_say hL C1 hK T_say hi hR hw hS hl kk
      by_cases c6 : y = 6
      · refine lv_tableIn (tgt := 428) hx hb dL_law_33 (by rw [c6]; decide) (by rw [c6]; decide) (by rw [c6]; rfl) (by decide) ?_
        exact lc_wipe hL C1 hK T_wipe hi hR hw hS hl kk
      by_cases c7 : y = 7
      · refine lv_tableIn (tgt := 441) hx hb dL_law_33 (by rw [c7]; decide) (by rw [c7]; decide) (by rw [c7]; rfl) (by decide) ?_
        exact lc_fault hL C1 hK T_fault hi hR hw hS hl kk
      by_cases c8 : y = 8
      · refine lv_tableIn (tgt := 454) hx hb dL_law_33 (by rw [c8]; decide) (by rw [c8]; decide) (by rw [c8]; rfl) (by decide) ?_
        exact lc_judge hL C1 hK T_judge hi hR hw hS hl kk
      by_cases c9 : y = 9
      · refine lv_tableIn (tgt := 477) hx hb dL_law_33 (by rw [c9]; decide) (by rw [c9]; decide) (by rw [c9]; rfl) (by decide) ?_
        exact lc_done hL C1 hK T_done hi hR hw hS hl kk
      by_cases c10 : y = 10
      · refine lv_tableIn (tgt := 490) hx hb dL_law_33 (by rw [c10]; decide) (by rw [c10]; decide) (by rw [c10]; rfl) (by decide) ?_
        exact lc_behind hL C1 hK T_behind hi hR hw hS hl kk
      by_cases c11 : y = 11
      · refine lv_tableIn (tgt := 523) hx hb dL_law_33 (by rw [c11]; decide) (by rw [c11]; decide) (by rw [c11]; rfl) (by decide) ?_
        exact lc_seam hL C1 hK T_seam hi hR hw hS hl kk
      by_cases c12 : y = 12
      · refine lv_tableIn (tgt := 556) hx hb dL_law_33 (by rw [c12]; decide) (by rw [c12]; decide) (by rw [c12]; rfl) (by decide) ?_
        exact lc_then hL C1 hK T_then hi hR hw hS hl kk
      by_cases c13 : y = 13
      · refine lv_tableIn (tgt := 579) hx hb dL_law_33 (by rw [c13]; decide) (by rw [c13]; decide) (by rw [c13]; rfl) (by decide) ?_
        exact lc_light hL C1 hK T_light hi hR hw hS hl kk
      by_cases c14 : y = 14
      · refine lv_tableIn (tgt := 602) hx hb dL_law_33 (by rw [c14]; decide) (by rw [c14]; decide) (by rw [c14]; rfl) (by decide) ?_
        exact lc_shakes hL C1 hK T_shakes hi hR hw hS hl kk
      by_cases c15 : y = 15
      · refine lv_tableIn (tgt := 615) hx hb dL_law_33 (by rw [c15]; decide) (by rw [c15]; decide) (by rw [c15]; rfl) (by decide) ?_
        exact lc_way hL C1 hK T_way hi hR hw hS hl kk
      by_cases c16 : y = 16
      · refine lv_tableIn (tgt := 658) hx hb dL_law_33 (by rw [c16]; decide) (by rw [c16]; decide) (by rw [c16]; rfl) (by decide) ?_
        exact lc_fewest hL C1 hK T_fewest hi hR hw hS hl kk
      by_cases c17 : y = 17
      · refine lv_tableIn (tgt := 691) hx hb dL_law_33 (by rw [c17]; decide) (by rw [c17]; decide) (by rw [c17]; rfl) (by decide) ?_
        exact lc_keep hL C1 hK T_keep hi hR hw hS hl kk
      by_cases c18 : y = 18
      · refine lv_tableIn (tgt := 714) hx hb dL_law_33 (by rw [c18]; decide) (by rw [c18]; decide) (by rw [c18]; rfl) (by decide) ?_
        exact lc_cut hL C1 hK T_cut hi hR hw hS hl kk
      by_cases c19 : y = 19
      · refine lv_tableIn (tgt := 727) hx hb dL_law_33 (by rw [c19]; decide) (by rw [c19]; decide) (by rw [c19]; rfl) (by decide) ?_
        exact lc_hold hL C1 hK T_hold hi hR hw hS hl kk
      by_cases c20 : y = 20
      · refine lv_tableIn (tgt := 770) hx hb dL_law_33 (by rw [c20]; decide) (by rw [c20]; decide) (by rw [c20]; rfl) (by decide) ?_
        exact lc_round hL C1 hK T_round hi hR hw hS hl kk
      by_cases c21 : y = 21
      · refine lv_tableIn (tgt := 823) hx hb dL_law_33 (by rw [c21]; decide) (by rw [c21]; decide) (by rw [c21]; rfl) (by decide) ?_
        exact lc_heard hL C1 hK T_heard hi hR hw hS hl kk
      by_cases c22 : y = 22
      · refine lv_tableIn (tgt := 856) hx hb dL_law_33 (by rw [c22]; decide) (by rw [c22]; decide) (by rw [c22]; rfl) (by decide) ?_
        exact lc_forget hL C1 hK T_forget hi hR hw hS hl kk
      by_cases c23 : y = 23
      · refine lv_tableIn (tgt := 869) hx hb dL_law_33 (by rw [c23]; decide) (by rw [c23]; decide) (by rw [c23]; rfl) (by decide) ?_
        exact lc_losts hL C1 hK T_losts hi hR hw hS hl kk
      by_cases c24 : y = 24
      · refine lv_tableIn (tgt := 892) hx hb dL_law_33 (by rw [c24]; decide) (by rw [c24]; decide) (by rw [c24]; rfl) (by decide) ?_
        exact lc_listen hL C1 hK T_listen hi hR hw hS hl kk
      by_cases c25 : y = 25
      · refine lv_tableIn (tgt := 915) hx hb dL_law_33 (by rw [c25]; decide) (by rw [c25]; decide) (by rw [c25]; rfl) (by decide) ?_
        exact lc_cold hL C1 hK T_cold hi hR hw hS hl kk
      by_cases c26 : y = 26
      · refine lv_tableIn (tgt := 979) hx hb dL_law_33 (by rw [c26]; decide) (by rw [c26]; decide) (by rw [c26]; rfl) (by decide) ?_
        exact lc_year hL C1 hK T_year hi hR hw hS hl kk
      by_cases c27 : y = 27
      · refine lv_tableIn (tgt := 1022) hx hb dL_law_33 (by rw [c27]; decide) (by rw [c27]; decide) (by rw [c27]; rfl) (by decide) ?_
        exact lc_image hL C1 hK T_image hi hR hw hS hl kk
      by_cases c28 : y = 28
      · refine lv_tableIn (tgt := 1045) hx hb dL_law_33 (by rw [c28]; decide) (by rw [c28]; decide) (by rw [c28]; rfl) (by decide) ?_
        exact lc_restore hL C1 hK T_restore hi hR hw hS hl kk
      by_cases c29 : y = 29
      · refine lv_tableIn (tgt := 1068) hx hb dL_law_33 (by rw [c29]; decide) (by rw [c29]; decide) (by rw [c29]; rfl) (by decide) ?_
        exact lc_told hL C1 hK T_told hi hR hw hS hl kk
      have n0 := lv_neT c0 (a := 0) rfl
      have n1 := lv_neT c1 (a := 1) rfl
      have n2 := lv_neT c2 (a := 2) rfl
      have n3 := lv_neT c3 (a := 3) rfl
      have n4 := lv_neT c4 (a := 4) rfl
      have n5 := lv_neT c5 (a := 5) rfl
      have n6 := lv_neT c6 (a := 6) rfl
      have n7 := lv_neT c7 (a := 7) rfl
      have n8 := lv_neT c8 (a := 8) rfl
      have n9 := lv_neT c9 (a := 9) rfl
      have n10 := lv_neT c10 (a := 10) rfl
      have n11 := lv_neT c11 (a := 11) rfl
      have n12 := lv_neT c12 (a := 12) rfl
      have n13 := lv_neT c13 (a := 13) rfl
      have n14 := lv_neT c14 (a := 14) rfl
      have n15 := lv_neT c15 (a := 15) rfl
      have n16 := lv_neT c16 (a := 16) rfl
      have n17 := lv_neT c17 (a := 17) rfl
      have n18 := lv_neT c18 (a := 18) rfl
      have n19 := lv_neT c19 (a := 19) rfl
      have n20 := lv_neT c20 (a := 20) rfl
      have n21 := lv_neT c21 (a := 21) rfl
      have n22 := lv_neT c22 (a := 22) rfl
      have n23 := lv_neT c23 (a := 23) rfl
      have n24 := lv_neT c24 (a := 24) rfl
      have n25 := lv_neT c25 (a := 25) rfl
      have n26 := lv_neT c26 (a := 26) rfl
      have n27 := lv_neT c27 (a := 27) rfl
      have n28 := lv_neT c28 (a := 28) rfl
      have n29 := lv_neT c29 (a := 29) rfl
      refine lv_tableOut (tgt := 1091) hx hb dL_law_33 (by omega) (by decide) ?_
      exact kk M1 M2 H locs hR hw hS
