abbrev rm_X1_init : Room := { frames := 1, cells := 11, slots := 94, locals := 23 }
set_option maxHeartbeats 4000000 in
set_option maxRecDepth 100000 in
theorem c_X1_init (l : Launch) (G : qG) (h0 : Nat) (M : qM) {b0 : Nat} (w0 : qMi b0) {P : qM → Prop} (h : qOk (kX1_init b0 M) P) : Met l yX1_init wsX1_init rm_X1_init (va_Pc [.ref (h0 + b0)] (qPrC (b0 + 1) c1 G h0 M)) (va_Qv P (fun u t => qHp (b0 + 12) c1 G (fun k => h0 + k) u t.heap) (fun q => h0 ≤ q)) 11 94 (fun q => h0 ≤ q) := by
  refine Met.ofW (cc := cX1_init) (maxL := 2) (ret := none) (by decide) rfl ?_
  intro p e s m args below meth c s₁ B hml hv
  obtain ⟨rfl, hsz0, hK, hAO, hP⟩ := hv
  have hx := B.exec
  have hb := B.bytes
  have hr := B.returns
  have hts := atoms_spec (ws := wsX1_init) B.pre
  have hown : s.vm.findClass RX1 = some m.cls := findClass_of_methodNamed B.named
  have hlocks := B.notSynchronized
  have hin2 : meth.name = "<init>" := (name_of_methodNamed B.named B.method).1
  have h0s : h0 ≤ s.heap.size := by omega
  have hC : qHC (b0 + 1) c1 G h0 M s.heap s.heap [] := ⟨hP, va_S.rf⟩
  have ol : (Cond.methodLink RX1 3 objectInit).before [.ref (h0 + b0)].toArray s = true := hts _ (by decide +kernel)
  have oi : (Cond.instanceMethod objectInit).before [.ref (h0 + b0)].toArray s = true := hts _ (by decide +kernel)
  have oc : (Cond.code objectInit ⟨#[0xb1]⟩ 1 none).before [.ref (h0 + b0)].toArray s = true := hts _ (by decide +kernel)
  have ac_int : (Cond.arrayClass .int).before [.ref (h0 + b0)].toArray s = true := hts _ (by decide +kernel)
  have f9 : (Cond.fieldLink RX1 9 "SongLamps$Mine" "passages" "[I").before [.ref (h0 + b0)].toArray s = true := hts _ (by decide +kernel)
  have i_X1 : ∀ w ∈ wsX10, w ∈ wsX1_init := fun w hw => List.mem_cons_of_mem _ ((List.mem_append_right _ hw))
  have f15 : (Cond.fieldLink RX1 15 "SongLamps$Mine" "echo" "[I").before [.ref (h0 + b0)].toArray s = true := hts _ (by decide +kernel)
  have f18 : (Cond.fieldLink RX1 18 "SongLamps$Mine" "coal" "[I").before [.ref (h0 + b0)].toArray s = true := hts _ (by decide +kernel)
  have f21 : (Cond.fieldLink RX1 21 "SongLamps$Mine" "low" "[I").before [.ref (h0 + b0)].toArray s = true := hts _ (by decide +kernel)
  have f24 : (Cond.fieldLink RX1 24 "SongLamps$Mine" "high" "[I").before [.ref (h0 + b0)].toArray s = true := hts _ (by decide +kernel)
  have f27 : (Cond.fieldLink RX1 27 "SongLamps$Mine" "lungs" "[I").before [.ref (h0 + b0)].toArray s = true := hts _ (by decide +kernel)
  have f30 : (Cond.fieldLink RX1 30 "SongLamps$Mine" "breath" "[I").before [.ref (h0 + b0)].toArray s = true := hts _ (by decide +kernel)
  have f33 : (Cond.fieldLink RX1 33 "SongLamps$Mine" "place" "[I").before [.ref (h0 + b0)].toArray s = true := hts _ (by decide +kernel)
  have f36 : (Cond.fieldLink RX1 36 "SongLamps$Mine" "note" "[I").before [.ref (h0 + b0)].toArray s = true := hts _ (by decide +kernel)
  have f39 : (Cond.fieldLink RX1 39 "SongLamps$Mine" "sightPlace" "[I").before [.ref (h0 + b0)].toArray s = true := hts _ (by decide +kernel)
  have f42 : (Cond.fieldLink RX1 42 "SongLamps$Mine" "sightNote" "[I").before [.ref (h0 + b0)].toArray s = true := hts _ (by decide +kernel)
  have hl := lv_entry ([.ref (h0 + b0)]) (n := 2) (Nat.le_of_ble_eq_true rfl)
  rw [lg_entry_eq]
  generalize (lg_sl ([.ref (h0 + b0)]) ++ List.replicate (2 - (lg_sl ([.ref (h0 + b0)])).length) Slot.unset).toArray = ls at hl ⊢
  have hl : lv_has ls 2 [(0, .ref (h0 + b0))] := hl
  unfold kX1_init at h
  refine lv_aload_n hx hb dX1_init_0 rfl (lv_at hl 0 rfl) ?_
  refine W.objInit hx hb hown ol oi oc rfl (by rw [hml]; exact hl.1) rfl dX1_init_1 (Nat.le_of_ble_eq_true rfl) (Nat.le_of_ble_eq_true rfl) ?_
  refine W.eq (g2 := F0 m 4 ls []) rfl ?_
  refine lv_aload_n hx hb dX1_init_4 rfl (lv_at hl 0 rfl) ?_
  refine lv_bipush (v := 10) hx hb dX1_init_5 (by decide) ?_
  refine yc_newa (n := b0 + 1) (atype := .int) (len := 10) hx hb ac_int rfl hK hC h0s (by omega) (fun _ => rfl) (by decide) (by decide) (by decide) (Nat.le_of_ble_eq_true rfl) (Nat.le_of_ble_eq_true rfl) (fun a cB b => Option.some.inj (b.symm.trans a)) (hK.1.2 0 _ rfl).2 ((qMi_c1 w0) _ _ _) h dX1_init_7 (fun M1 H hC h => ?_)
  refine yc_putr (n := b0 + 2) (k := b0) (ty := (.array .int)) hx hb hts i_X1 tyX1 tyX1_ok nmX1 hown hin2 hK hC (by omega) (fun g => qMi_c w0 G _ g) rfl 0 (by decide) f9 rfl rfl (by decide +kernel) rfl rfl (Nat.le_of_ble_eq_true rfl) (fun _ => rfl) h dX1_init_9 (fun M2 H locs hC h => ?_)
  refine lv_aload_n hx hb dX1_init_12 rfl (lv_at hl 0 rfl) ?_
  refine lv_bipush (v := 10) hx hb dX1_init_13 (by decide) ?_
  refine yc_newa (n := b0 + 2) (atype := .int) (len := 10) hx hb ac_int rfl hK hC h0s (by omega) (fun _ => rfl) (by decide) (by decide) (by decide) (Nat.le_of_ble_eq_true rfl) (Nat.le_of_ble_eq_true rfl) (fun a cB b => Option.some.inj (b.symm.trans a)) (hK.1.2 0 _ rfl).2 ((qMi_c2 w0) _ _ _) h dX1_init_15 (fun M3 H hC h => ?_)
  refine yc_putr (n := b0 + 3) (k := b0) (ty := (.array .int)) hx hb hts i_X1 tyX1 tyX1_ok nmX1 hown hin2 hK hC (by omega) (fun g => qMi_c w0 G _ g) rfl 1 (by decide) f15 rfl rfl (by decide +kernel) rfl rfl (Nat.le_of_ble_eq_true rfl) (fun _ => rfl) h dX1_init_17 (fun M4 H locs hC h => ?_)
  refine lv_aload_n hx hb dX1_init_20 rfl (lv_at hl 0 rfl) ?_
  refine lv_bipush (v := 10) hx hb dX1_init_21 (by decide) ?_
  refine yc_newa (n := b0 + 3) (atype := .int) (len := 10) hx hb ac_int rfl hK hC h0s (by omega) (fun _ => rfl) (by decide) (by decide) (by decide) (Nat.le_of_ble_eq_true rfl) (Nat.le_of_ble_eq_true rfl) (fun a cB b => Option.some.inj (b.symm.trans a)) (hK.1.2 0 _ rfl).2 ((qMi_c3 w0) _ _ _) h dX1_init_23 (fun M5 H hC h => ?_)
  refine yc_putr (n := b0 + 4) (k := b0) (ty := (.array .int)) hx hb hts i_X1 tyX1 tyX1_ok nmX1 hown hin2 hK hC (by omega) (fun g => qMi_c w0 G _ g) rfl 2 (by decide) f18 rfl rfl (by decide +kernel) rfl rfl (Nat.le_of_ble_eq_true rfl) (fun _ => rfl) h dX1_init_25 (fun M6 H locs hC h => ?_)
  refine lv_aload_n hx hb dX1_init_28 rfl (lv_at hl 0 rfl) ?_
  refine lv_bipush (v := 8) hx hb dX1_init_29 (by decide) ?_
  refine yc_newa (n := b0 + 4) (atype := .int) (len := 8) hx hb ac_int rfl hK hC h0s (by omega) (fun _ => rfl) (by decide) (by decide) (by decide) (Nat.le_of_ble_eq_true rfl) (Nat.le_of_ble_eq_true rfl) (fun a cB b => Option.some.inj (b.symm.trans a)) (hK.1.2 0 _ rfl).2 ((qMi_c4 w0) _ _ _) h dX1_init_31 (fun M7 H hC h => ?_)
  refine yc_putr (n := b0 + 5) (k := b0) (ty := (.array .int)) hx hb hts i_X1 tyX1 tyX1_ok nmX1 hown hin2 hK hC (by omega) (fun g => qMi_c w0 G _ g) rfl 8 (by decide) f21 rfl rfl (by decide +kernel) rfl rfl (Nat.le_of_ble_eq_true rfl) (fun _ => rfl) h dX1_init_33 (fun M8 H locs hC h => ?_)
  refine lv_aload_n hx hb dX1_init_36 rfl (lv_at hl 0 rfl) ?_
  refine lv_bipush (v := 8) hx hb dX1_init_37 (by decide) ?_
  refine yc_newa (n := b0 + 5) (atype := .int) (len := 8) hx hb ac_int rfl hK hC h0s (by omega) (fun _ => rfl) (by decide) (by decide) (by decide) (Nat.le_of_ble_eq_true rfl) (Nat.le_of_ble_eq_true rfl) (fun a cB b => Option.some.inj (b.symm.trans a)) (hK.1.2 0 _ rfl).2 ((qMi_c5 w0) _ _ _) h dX1_init_39 (fun M9 H hC h => ?_)
  refine yc_putr (n := b0 + 6) (k := b0) (ty := (.array .int)) hx hb hts i_X1 tyX1 tyX1_ok nmX1 hown hin2 hK hC (by omega) (fun g => qMi_c w0 G _ g) rfl 9 (by decide) f24 rfl rfl (by decide +kernel) rfl rfl (Nat.le_of_ble_eq_true rfl) (fun _ => rfl) h dX1_init_41 (fun M10 H locs hC h => ?_)
  refine lv_aload_n hx hb dX1_init_44 rfl (lv_at hl 0 rfl) ?_
  refine lv_bipush (v := 8) hx hb dX1_init_45 (by decide) ?_
  refine yc_newa (n := b0 + 6) (atype := .int) (len := 8) hx hb ac_int rfl hK hC h0s (by omega) (fun _ => rfl) (by decide) (by decide) (by decide) (Nat.le_of_ble_eq_true rfl) (Nat.le_of_ble_eq_true rfl) (fun a cB b => Option.some.inj (b.symm.trans a)) (hK.1.2 0 _ rfl).2 ((qMi_c6 w0) _ _ _) h dX1_init_47 (fun M11 H hC h => ?_)
  refine yc_putr (n := b0 + 7) (k := b0) (ty := (.array .int)) hx hb hts i_X1 tyX1 tyX1_ok nmX1 hown hin2 hK hC (by omega) (fun g => qMi_c w0 G _ g) rfl 10 (by decide) f27 rfl rfl (by decide +kernel) rfl rfl (Nat.le_of_ble_eq_true rfl) (fun _ => rfl) h dX1_init_49 (fun M12 H locs hC h => ?_)
  refine lv_aload_n hx hb dX1_init_52 rfl (lv_at hl 0 rfl) ?_
  refine lv_bipush (v := 8) hx hb dX1_init_53 (by decide) ?_
  refine yc_newa (n := b0 + 7) (atype := .int) (len := 8) hx hb ac_int rfl hK hC h0s (by omega) (fun _ => rfl) (by decide) (by decide) (by decide) (Nat.le_of_ble_eq_true rfl) (Nat.le_of_ble_eq_true rfl) (fun a cB b => Option.some.inj (b.symm.trans a)) (hK.1.2 0 _ rfl).2 ((qMi_c7 w0) _ _ _) h dX1_init_55 (fun M13 H hC h => ?_)
  refine yc_putr (n := b0 + 8) (k := b0) (ty := (.array .int)) hx hb hts i_X1 tyX1 tyX1_ok nmX1 hown hin2 hK hC (by omega) (fun g => qMi_c w0 G _ g) rfl 11 (by decide) f30 rfl rfl (by decide +kernel) rfl rfl (Nat.le_of_ble_eq_true rfl) (fun _ => rfl) h dX1_init_57 (fun M14 H locs hC h => ?_)
  refine lv_aload_n hx hb dX1_init_60 rfl (lv_at hl 0 rfl) ?_
  refine lv_bipush (v := 8) hx hb dX1_init_61 (by decide) ?_
  refine yc_newa (n := b0 + 8) (atype := .int) (len := 8) hx hb ac_int rfl hK hC h0s (by omega) (fun _ => rfl) (by decide) (by decide) (by decide) (Nat.le_of_ble_eq_true rfl) (Nat.le_of_ble_eq_true rfl) (fun a cB b => Option.some.inj (b.symm.trans a)) (hK.1.2 0 _ rfl).2 ((qMi_c8 w0) _ _ _) h dX1_init_63 (fun M15 H hC h => ?_)
  refine yc_putr (n := b0 + 9) (k := b0) (ty := (.array .int)) hx hb hts i_X1 tyX1 tyX1_ok nmX1 hown hin2 hK hC (by omega) (fun g => qMi_c w0 G _ g) rfl 12 (by decide) f33 rfl rfl (by decide +kernel) rfl rfl (Nat.le_of_ble_eq_true rfl) (fun _ => rfl) h dX1_init_65 (fun M16 H locs hC h => ?_)
  refine lv_aload_n hx hb dX1_init_68 rfl (lv_at hl 0 rfl) ?_
  refine lv_bipush (v := 8) hx hb dX1_init_69 (by decide) ?_
  refine yc_newa (n := b0 + 9) (atype := .int) (len := 8) hx hb ac_int rfl hK hC h0s (by omega) (fun _ => rfl) (by decide) (by decide) (by decide) (Nat.le_of_ble_eq_true rfl) (Nat.le_of_ble_eq_true rfl) (fun a cB b => Option.some.inj (b.symm.trans a)) (hK.1.2 0 _ rfl).2 ((qMi_c9 w0) _ _ _) h dX1_init_71 (fun M17 H hC h => ?_)
  refine yc_putr (n := b0 + 10) (k := b0) (ty := (.array .int)) hx hb hts i_X1 tyX1 tyX1_ok nmX1 hown hin2 hK hC (by omega) (fun g => qMi_c w0 G _ g) rfl 13 (by decide) f36 rfl rfl (by decide +kernel) rfl rfl (Nat.le_of_ble_eq_true rfl) (fun _ => rfl) h dX1_init_73 (fun M18 H locs hC h => ?_)
  refine lv_aload_n hx hb dX1_init_76 rfl (lv_at hl 0 rfl) ?_
  refine lv_bipush (v := 8) hx hb dX1_init_77 (by decide) ?_
  refine yc_newa (n := b0 + 10) (atype := .int) (len := 8) hx hb ac_int rfl hK hC h0s (by omega) (fun _ => rfl) (by decide) (by decide) (by decide) (Nat.le_of_ble_eq_true rfl) (Nat.le_of_ble_eq_true rfl) (fun a cB b => Option.some.inj (b.symm.trans a)) (hK.1.2 0 _ rfl).2 ((qMi_c10 w0) _ _ _) h dX1_init_79 (fun M19 H hC h => ?_)
  refine yc_putr (n := b0 + 11) (k := b0) (ty := (.array .int)) hx hb hts i_X1 tyX1 tyX1_ok nmX1 hown hin2 hK hC (by omega) (fun g => qMi_c w0 G _ g) rfl 14 (by decide) f39 rfl rfl (by decide +kernel) rfl rfl (Nat.le_of_ble_eq_true rfl) (fun _ => rfl) h dX1_init_81 (fun M20 H locs hC h => ?_)
  refine lv_aload_n hx hb dX1_init_84 rfl (lv_at hl 0 rfl) ?_
  refine lv_bipush (v := 8) hx hb dX1_init_85 (by decide) ?_
  refine yc_newa (n := b0 + 11) (atype := .int) (len := 8) hx hb ac_int rfl hK hC h0s (by omega) (fun _ => rfl) (by decide) (by decide) (by decide) (Nat.le_of_ble_eq_true rfl) (Nat.le_of_ble_eq_true rfl) (fun a cB b => Option.some.inj (b.symm.trans a)) (hK.1.2 0 _ rfl).2 ((qMi_c11 w0) _ _ _) h dX1_init_87 (fun M21 H hC h => ?_)
  refine yc_putr (n := b0 + 12) (k := b0) (ty := (.array .int)) hx hb hts i_X1 tyX1 tyX1_ok nmX1 hown hin2 hK hC (by omega) (fun g => qMi_c w0 G _ g) rfl 15 (by decide) f42 rfl rfl (by decide +kernel) rfl rfl (Nat.le_of_ble_eq_true rfl) (fun _ => rfl) h dX1_init_89 (fun M22 H locs hC h => ?_)
  refine lv_iconst (v := 0) hx hb dX1_init_92 (by decide) ?_
  refine lv_istore_n (lv' := [(1, .int 0), (0, .ref (h0 + b0))]) hx hb dX1_init_93 rfl hl (by decide) rfl (fun ls hl => ?_)
  refine lv_iload_n hx hb dX1_init_94 rfl (lv_at hl 0 rfl) ?_
  refine lv_bipush (v := 10) hx hb dX1_init_95 (by decide) ?_
  refine lv_icmp_ge (tgt := 113) hx hb dX1_init_97 (by decide) (fun c => absurd c (by decide)) (fun _ => ?_)
  refine lv_aload_n hx hb dX1_init_100 rfl (lv_at hl 1 rfl) ?_
  refine yc_getr (n := b0 + 12) (k := b0) (a := h0 + (b0 + 2)) hx hb hts i_X1 hown hK hC (by omega) (fun g => qMi_c w0 G _ g) rfl 1 (by decide) f15 rfl h dX1_init_101 (fun h => ?_)
  refine lv_iload_n hx hb dX1_init_104 rfl (lv_at hl 0 rfl) ?_
  refine lv_iload_n hx hb dX1_init_105 rfl (lv_at hl 0 rfl) ?_
  refine yc_iast (n := b0 + 12) (k := b0 + 2) hx hb hK hC ⟨by omega, (qMi_c2 w0)⟩ h dX1_init_106 (fun M23 H locs hC h => ?_)
  refine lv_iinc (v := 1) (lv' := [(1, .int 1), (0, .ref (h0 + b0))]) hx hb dX1_init_107 hl (k := 0) rfl (by decide) (by decide) rfl (fun ls hl => ?_)
  refine lv_goto (tgt := 94) hx hb dX1_init_110 (by decide) ?_
  refine lv_iload_n hx hb dX1_init_94 rfl (lv_at hl 0 rfl) ?_
  refine lv_bipush (v := 10) hx hb dX1_init_95 (by decide) ?_
  refine lv_icmp_ge (tgt := 113) hx hb dX1_init_97 (by decide) (fun c => absurd c (by decide)) (fun _ => ?_)
  refine lv_aload_n hx hb dX1_init_100 rfl (lv_at hl 1 rfl) ?_
  refine yc_getr (n := b0 + 12) (k := b0) (a := h0 + (b0 + 2)) hx hb hts i_X1 hown hK hC (by omega) (fun g => qMi_c w0 G _ g) rfl 1 (by decide) f15 rfl h dX1_init_101 (fun h => ?_)
  refine lv_iload_n hx hb dX1_init_104 rfl (lv_at hl 0 rfl) ?_
  refine lv_iload_n hx hb dX1_init_105 rfl (lv_at hl 0 rfl) ?_
  refine yc_iast (n := b0 + 12) (k := b0 + 2) hx hb hK hC ⟨by omega, (qMi_c2 w0)⟩ h dX1_init_106 (fun M24 H locs hC h => ?_)
  refine lv_iinc (v := 2) (lv' := [(1, .int 2), (0, .ref (h0 + b0))]) hx hb dX1_init_107 hl (k := 0) rfl (by decide) (by decide) rfl (fun ls hl => ?_)
  refine lv_goto (tgt := 94) hx hb dX1_init_110 (by decide) ?_
  refine lv_iload_n hx hb dX1_init_94 rfl (lv_at hl 0 rfl) ?_
  refine lv_bipush (v := 10) hx hb dX1_init_95 (by decide) ?_
  refine lv_icmp_ge (tgt := 113) hx hb dX1_init_97 (by decide) (fun c => absurd c (by decide)) (fun _ => ?_)
  refine lv_aload_n hx hb dX1_init_100 rfl (lv_at hl 1 rfl) ?_
  refine yc_getr (n := b0 + 12) (k := b0) (a := h0 + (b0 + 2)) hx hb hts i_X1 hown hK hC (by omega) (fun g => qMi_c w0 G _ g) rfl 1 (by decide) f15 rfl h dX1_init_101 (fun h => ?_)
  refine lv_iload_n hx hb dX1_init_104 rfl (lv_at hl 0 rfl) ?_
  refine lv_iload_n hx hb dX1_init_105 rfl (lv_at hl 0 rfl) ?_
  refine yc_iast (n := b0 + 12) (k := b0 + 2) hx hb hK hC ⟨by omega, (qMi_c2 w0)⟩ h dX1_init_106 (fun M25 H locs hC h => ?_)
  refine lv_iinc (v := 3) (lv' := [(1, .int 3), (0, .ref (h0 + b0))]) hx hb dX1_init_107 hl (k := 0) rfl (by decide) (by decide) rfl (fun ls hl => ?_)
  refine lv_goto (tgt := 94) hx hb dX1_init_110 (by decide) ?_
  refine lv_iload_n hx hb dX1_init_94 rfl (lv_at hl 0 rfl) ?_
  refine lv_bipush (v := 10) hx hb dX1_init_95 (by decide) ?_
  refine lv_icmp_ge (tgt := 113) hx hb dX1_init_97 (by decide) (fun c => absurd c (by decide)) (fun _ => ?_)
  refine lv_aload_n hx hb dX1_init_100 rfl (lv_at hl 1 rfl) ?_
  refine yc_getr (n := b0 + 12) (k := b0) (a := h0 + (b0 + 2)) hx hb hts i_X1 hown hK hC (by omega) (fun g => qMi_c w0 G _ g) rfl 1 (by decide) f15 rfl h dX1_init_101 (fun h => ?_)
  refine lv_iload_n hx hb dX1_init_104 rfl (lv_at hl 0 rfl) ?_
  refine lv_iload_n hx hb dX1_init_105 rfl (lv_at hl 0 rfl) ?_
  refine yc_iast (n := b0 + 12) (k := b0 + 2) hx hb hK hC ⟨by omega, (qMi_c2 w0)⟩ h dX1_init_106 (fun M26 H locs hC h => ?_)
  refine lv_iinc (v := 4) (lv' := [(1, .int 4), (0, .ref (h0 + b0))]) hx hb dX1_init_107 hl (k := 0) rfl (by decide) (by decide) rfl (fun ls hl => ?_)
  refine lv_goto (tgt := 94) hx hb dX1_init_110 (by decide) ?_
  refine lv_iload_n hx hb dX1_init_94 rfl (lv_at hl 0 rfl) ?_
  refine lv_bipush (v := 10) hx hb dX1_init_95 (by decide) ?_
  refine lv_icmp_ge (tgt := 113) hx hb dX1_init_97 (by decide) (fun c => absurd c (by decide)) (fun _ => ?_)
  refine lv_aload_n hx hb dX1_init_100 rfl (lv_at hl 1 rfl) ?_
  refine yc_getr (n := b0 + 12) (k := b0) (a := h0 + (b0 + 2)) hx hb hts i_X1 hown hK hC (by omega) (fun g => qMi_c w0 G _ g) rfl 1 (by decide) f15 rfl h dX1_init_101 (fun h => ?_)
  refine lv_iload_n hx hb dX1_init_104 rfl (lv_at hl 0 rfl) ?_
  refine lv_iload_n hx hb dX1_init_105 rfl (lv_at hl 0 rfl) ?_
  refine yc_iast (n := b0 + 12) (k := b0 + 2) hx hb hK hC ⟨by omega, (qMi_c2 w0)⟩ h dX1_init_106 (fun M27 H locs hC h => ?_)
  refine lv_iinc (v := 5) (lv' := [(1, .int 5), (0, .ref (h0 + b0))]) hx hb dX1_init_107 hl (k := 0) rfl (by decide) (by decide) rfl (fun ls hl => ?_)
  refine lv_goto (tgt := 94) hx hb dX1_init_110 (by decide) ?_
  refine lv_iload_n hx hb dX1_init_94 rfl (lv_at hl 0 rfl) ?_
  refine lv_bipush (v := 10) hx hb dX1_init_95 (by decide) ?_
  refine lv_icmp_ge (tgt := 113) hx hb dX1_init_97 (by decide) (fun c => absurd c (by decide)) (fun _ => ?_)
  refine lv_aload_n hx hb dX1_init_100 rfl (lv_at hl 1 rfl) ?_
  refine yc_getr (n := b0 + 12) (k := b0) (a := h0 + (b0 + 2)) hx hb hts i_X1 hown hK hC (by omega) (fun g => qMi_c w0 G _ g) rfl 1 (by decide) f15 rfl h dX1_init_101 (fun h => ?_)
  refine lv_iload_n hx hb dX1_init_104 rfl (lv_at hl 0 rfl) ?_
  refine lv_iload_n hx hb dX1_init_105 rfl (lv_at hl 0 rfl) ?_
  refine yc_iast (n := b0 + 12) (k := b0 + 2) hx hb hK hC ⟨by omega, (qMi_c2 w0)⟩ h dX1_init_106 (fun M28 H locs hC h => ?_)
  refine lv_iinc (v := 6) (lv' := [(1, .int 6), (0, .ref (h0 + b0))]) hx hb dX1_init_107 hl (k := 0) rfl (by decide) (by decide) rfl (fun ls hl => ?_)
  refine lv_goto (tgt := 94) hx hb dX1_init_110 (by decide) ?_
  refine lv_iload_n hx hb dX1_init_94 rfl (lv_at hl 0 rfl) ?_
  refine lv_bipush (v := 10) hx hb dX1_init_95 (by decide) ?_
  refine lv_icmp_ge (tgt := 113) hx hb dX1_init_97 (by decide) (fun c => absurd c (by decide)) (fun _ => ?_)
  refine lv_aload_n hx hb dX1_init_100 rfl (lv_at hl 1 rfl) ?_
  refine yc_getr (n := b0 + 12) (k := b0) (a := h0 + (b0 + 2)) hx hb hts i_X1 hown hK hC (by omega) (fun g => qMi_c w0 G _ g) rfl 1 (by decide) f15 rfl h dX1_init_101 (fun h => ?_)
  refine lv_iload_n hx hb dX1_init_104 rfl (lv_at hl 0 rfl) ?_
  refine lv_iload_n hx hb dX1_init_105 rfl (lv_at hl 0 rfl) ?_
  refine yc_iast (n := b0 + 12) (k := b0 + 2) hx hb hK hC ⟨by omega, (qMi_c2 w0)⟩ h dX1_init_106 (fun M29 H locs hC h => ?_)
  refine lv_iinc (v := 7) (lv' := [(1, .int 7), (0, .ref (h0 + b0))]) hx hb dX1_init_107 hl (k := 0) rfl (by decide) (by decide) rfl (fun ls hl => ?_)
  refine lv_goto (tgt := 94) hx hb dX1_init_110 (by decide) ?_
  refine lv_iload_n hx hb dX1_init_94 rfl (lv_at hl 0 rfl) ?_
  refine lv_bipush (v := 10) hx hb dX1_init_95 (by decide) ?_
  refine lv_icmp_ge (tgt := 113) hx hb dX1_init_97 (by decide) (fun c => absurd c (by decide)) (fun _ => ?_)
  refine lv_aload_n hx hb dX1_init_100 rfl (lv_at hl 1 rfl) ?_
  refine yc_getr (n := b0 + 12) (k := b0) (a := h0 + (b0 + 2)) hx hb hts i_X1 hown hK hC (by omega) (fun g => qMi_c w0 G _ g) rfl 1 (by decide) f15 rfl h dX1_init_101 (fun h => ?_)
  refine lv_iload_n hx hb dX1_init_104 rfl (lv_at hl 0 rfl) ?_
  refine lv_iload_n hx hb dX1_init_105 rfl (lv_at hl 0 rfl) ?_
  refine yc_iast (n := b0 + 12) (k := b0 + 2) hx hb hK hC ⟨by omega, (qMi_c2 w0)⟩ h dX1_init_106 (fun M30 H locs hC h => ?_)
  refine lv_iinc (v := 8) (lv' := [(1, .int 8), (0, .ref (h0 + b0))]) hx hb dX1_init_107 hl (k := 0) rfl (by decide) (by decide) rfl (fun ls hl => ?_)
  refine lv_goto (tgt := 94) hx hb dX1_init_110 (by decide) ?_
  refine lv_iload_n hx hb dX1_init_94 rfl (lv_at hl 0 rfl) ?_
  refine lv_bipush (v := 10) hx hb dX1_init_95 (by decide) ?_
  refine lv_icmp_ge (tgt := 113) hx hb dX1_init_97 (by decide) (fun c => absurd c (by decide)) (fun _ => ?_)
  refine lv_aload_n hx hb dX1_init_100 rfl (lv_at hl 1 rfl) ?_
  refine yc_getr (n := b0 + 12) (k := b0) (a := h0 + (b0 + 2)) hx hb hts i_X1 hown hK hC (by omega) (fun g => qMi_c w0 G _ g) rfl 1 (by decide) f15 rfl h dX1_init_101 (fun h => ?_)
  refine lv_iload_n hx hb dX1_init_104 rfl (lv_at hl 0 rfl) ?_
  refine lv_iload_n hx hb dX1_init_105 rfl (lv_at hl 0 rfl) ?_
  refine yc_iast (n := b0 + 12) (k := b0 + 2) hx hb hK hC ⟨by omega, (qMi_c2 w0)⟩ h dX1_init_106 (fun M31 H locs hC h => ?_)
  refine lv_iinc (v := 9) (lv' := [(1, .int 9), (0, .ref (h0 + b0))]) hx hb dX1_init_107 hl (k := 0) rfl (by decide) (by decide) rfl (fun ls hl => ?_)
  refine lv_goto (tgt := 94) hx hb dX1_init_110 (by decide) ?_
  refine lv_iload_n hx hb dX1_init_94 rfl (lv_at hl 0 rfl) ?_
  refine lv_bipush (v := 10) hx hb dX1_init_95 (by decide) ?_
  refine lv_icmp_ge (tgt := 113) hx hb dX1_init_97 (by decide) (fun c => absurd c (by decide)) (fun _ => ?_)
  refine lv_aload_n hx hb dX1_init_100 rfl (lv_at hl 1 rfl) ?_
  refine yc_getr (n := b0 + 12) (k := b0) (a := h0 + (b0 + 2)) hx hb hts i_X1 hown hK hC (by omega) (fun g => qMi_c w0 G _ g) rfl 1 (by decide) f15 rfl h dX1_init_101 (fun h => ?_)
  refine lv_iload_n hx hb dX1_init_104 rfl (lv_at hl 0 rfl) ?_
  refine lv_iload_n hx hb dX1_init_105 rfl (lv_at hl 0 rfl) ?_
  refine yc_iast (n := b0 + 12) (k := b0 + 2) hx hb hK hC ⟨by omega, (qMi_c2 w0)⟩ h dX1_init_106 (fun M32 H locs hC h => ?_)
  refine lv_iinc (v := 10) (lv' := [(1, .int 10), (0, .ref (h0 + b0))]) hx hb dX1_init_107 hl (k := 0) rfl (by decide) (by decide) rfl (fun ls hl => ?_)
  refine lv_goto (tgt := 94) hx hb dX1_init_110 (by decide) ?_
  refine lv_iload_n hx hb dX1_init_94 rfl (lv_at hl 0 rfl) ?_
  refine lv_bipush (v := 10) hx hb dX1_init_95 (by decide) ?_
  refine lv_icmp_ge (tgt := 113) hx hb dX1_init_97 (by decide) (fun _ => ?_) (fun c => absurd (by decide) c)
  refine lv_aload_n hx hb dX1_init_113 rfl (lv_at hl 1 rfl) ?_
  refine yc_getr (n := b0 + 12) (k := b0) (a := h0 + (b0 + 9)) hx hb hts i_X1 hown hK hC (by omega) (fun g => qMi_c w0 G _ g) rfl 13 (by decide) f36 rfl h dX1_init_114 (fun h => ?_)
  refine lv_iconst (v := (-1)) hx hb dX1_init_117 (by decide) ?_
  refine yc_cv (n := b0 + 12) (n' := b0 + 12) (mc := 0) (ms := 0) hC (fun q h => qA_h0 hC h0s q h) (fun q h => qA_h0 hC h0s q h) (va_runS (As := [.ref (h0 + (b0 + 9)), .int (-1)]) (rest := []) ⟨hx, hb, hml, hown, hts⟩ (c_J7_fill_53178 (N1 := b0 + 12) (E1 := c1) l G (fun k => h0 + k) (qI_add _ h0) M32 _ ⟨by omega, (qMi_c9 w0)⟩ (-1) (qOk.b1 h)) (va_cwS 2 hts gX1_init_J7_fill_53178 rfl rfl rfl (by decide +kernel) ⟨Nat.le_of_ble_eq_true rfl, Nat.le_of_ble_eq_true rfl⟩) ⟨qPre.blind, qPre.atC hK hC⟩ rfl rfl hl.1 rfl (lv_room (Nat.le_of_ble_eq_true rfl)) dX1_init_118 ⟨Nat.le_of_ble_eq_true rfl, Nat.le_of_ble_eq_true rfl⟩) (fun M33 H locs hC h => ?_)
  refine W.widen (k := 11) (n := 94) (Nat.le_of_ble_eq_true rfl) (Nat.le_of_ble_eq_true rfl) ?_
  exact W.vret hx hb hr (fun t ht _ => ⟨⟨_, rfl, qOk.s h, qHpt ht hC.1⟩, hC.2.F ht⟩) hC.2.2.2 dX1_init_121
abbrev rm_X0_init : Room := { frames := 1, cells := 2, slots := 20, locals := 12 }
set_option maxHeartbeats 4000000 in
set_option maxRecDepth 100000 in
theorem c_X0_init (l : Launch) (G : qG) (h0 : Nat) (M : qM) {b0 : Nat} (w0 : qLa b0) {P : qM → Prop} (h : qOk (kX0_init b0 M) P) : Met l yX0_init wsX0_init rm_X0_init (va_Pc [.ref (h0 + b0)] (qPrC (b0 + 1) c1 G h0 M)) (va_Qv P (fun u t => qHp (b0 + 3) c1 G (fun k => h0 + k) u t.heap) (fun q => h0 ≤ q)) 2 20 (fun q => h0 ≤ q) := by
  refine Met.ofW (cc := cX0_init) (maxL := 1) (ret := none) (by decide) rfl ?_
  intro p e s m args below meth c s₁ B hml hv
  obtain ⟨rfl, hsz0, hK, hAO, hP⟩ := hv
  have hx := B.exec
  have hb := B.bytes
  have hr := B.returns
  have hts := atoms_spec (ws := wsX0_init) B.pre
  have hown : s.vm.findClass RX0 = some m.cls := findClass_of_methodNamed B.named
  have hlocks := B.notSynchronized
  have hin2 : meth.name = "<init>" := (name_of_methodNamed B.named B.method).1
  have h0s : h0 ≤ s.heap.size := by omega
  have hC : qHC (b0 + 1) c1 G h0 M s.heap s.heap [] := ⟨hP, va_S.rf⟩
  have ol : (Cond.methodLink RX0 3 objectInit).before [.ref (h0 + b0)].toArray s = true := hts _ (by decide +kernel)
  have oi : (Cond.instanceMethod objectInit).before [.ref (h0 + b0)].toArray s = true := hts _ (by decide +kernel)
  have oc : (Cond.code objectInit ⟨#[0xb1]⟩ 1 none).before [.ref (h0 + b0)].toArray s = true := hts _ (by decide +kernel)
  have ac_int : (Cond.arrayClass .int).before [.ref (h0 + b0)].toArray s = true := hts _ (by decide +kernel)
  have f9 : (Cond.fieldLink RX0 9 "SongLamps$Lamps" "plain" "[I").before [.ref (h0 + b0)].toArray s = true := hts _ (by decide +kernel)
  have i_X0 : ∀ w ∈ wsX00, w ∈ wsX0_init := fun w hw => List.mem_cons_of_mem _ ((List.mem_append_right _ hw))
  have f15 : (Cond.fieldLink RX0 15 "SongLamps$Lamps" "full" "[I").before [.ref (h0 + b0)].toArray s = true := hts _ (by decide +kernel)
  have hl := lv_entry ([.ref (h0 + b0)]) (n := 1) (Nat.le_of_ble_eq_true rfl)
  rw [lg_entry_eq]
  generalize (lg_sl ([.ref (h0 + b0)]) ++ List.replicate (1 - (lg_sl ([.ref (h0 + b0)])).length) Slot.unset).toArray = ls at hl ⊢
  have hl : lv_has ls 1 [(0, .ref (h0 + b0))] := hl
  unfold kX0_init at h
  refine lv_aload_n hx hb dX0_init_0 rfl (lv_at hl 0 rfl) ?_
  refine W.objInit hx hb hown ol oi oc rfl (by rw [hml]; exact hl.1) rfl dX0_init_1 (Nat.le_of_ble_eq_true rfl) (Nat.le_of_ble_eq_true rfl) ?_
  refine W.eq (g2 := F0 m 4 ls []) rfl ?_
  refine lv_aload_n hx hb dX0_init_4 rfl (lv_at hl 0 rfl) ?_
  refine lv_bipush (v := 10) hx hb dX0_init_5 (by decide) ?_
  refine yc_newa (n := b0 + 1) (atype := .int) (len := 10) hx hb ac_int rfl hK hC h0s (by omega) (fun _ => rfl) (by decide) (by decide) (by decide) (Nat.le_of_ble_eq_true rfl) (Nat.le_of_ble_eq_true rfl) (fun a cB b => Option.some.inj (b.symm.trans a)) (hK.1.2 0 _ rfl).2 ((qLa_c1 w0) _ _ _) h dX0_init_7 (fun M1 H hC h => ?_)
  refine yc_putr (n := b0 + 2) (k := b0) (ty := (.array .int)) hx hb hts i_X0 tyX0 tyX0_ok nmX0 hown hin2 hK hC (by omega) (fun g => qLa_c w0 G _ g) rfl 0 (by decide) f9 rfl rfl (by decide +kernel) rfl rfl (Nat.le_of_ble_eq_true rfl) (fun _ => rfl) h dX0_init_9 (fun M2 H locs hC h => ?_)
  refine lv_aload_n hx hb dX0_init_12 rfl (lv_at hl 0 rfl) ?_
  refine lv_bipush (v := 10) hx hb dX0_init_13 (by decide) ?_
  refine yc_newa (n := b0 + 2) (atype := .int) (len := 10) hx hb ac_int rfl hK hC h0s (by omega) (fun _ => rfl) (by decide) (by decide) (by decide) (Nat.le_of_ble_eq_true rfl) (Nat.le_of_ble_eq_true rfl) (fun a cB b => Option.some.inj (b.symm.trans a)) (hK.1.2 0 _ rfl).2 ((qLa_c2 w0) _ _ _) h dX0_init_15 (fun M3 H hC h => ?_)
  refine yc_putr (n := b0 + 3) (k := b0) (ty := (.array .int)) hx hb hts i_X0 tyX0 tyX0_ok nmX0 hown hin2 hK hC (by omega) (fun g => qLa_c w0 G _ g) rfl 1 (by decide) f15 rfl rfl (by decide +kernel) rfl rfl (Nat.le_of_ble_eq_true rfl) (fun _ => rfl) h dX0_init_17 (fun M4 H locs hC h => ?_)
  refine W.widen (k := 2) (n := 20) (Nat.le_of_ble_eq_true rfl) (Nat.le_of_ble_eq_true rfl) ?_
  exact W.vret hx hb hr (fun t ht _ => ⟨⟨_, rfl, qOk.s h, qHpt ht hC.1⟩, hC.2.F ht⟩) hC.2.2.2 dX0_init_20
abbrev rm_X6_init : Room := { frames := 1, cells := 1, slots := 10, locals := 12 }
set_option maxHeartbeats 4000000 in
set_option maxRecDepth 100000 in
theorem c_X6_init (l : Launch) (G : qG) (h0 : Nat) (M : qM) {b0 : Nat} (w0 : qWy b0) {P : qM → Prop} (h : qOk (kX6_init b0 M) P) : Met l yX6_init wsX6_init rm_X6_init (va_Pc [.ref (h0 + b0)] (qPrC (b0 + 1) c1 G h0 M)) (va_Qv P (fun u t => qHp (b0 + 2) c1 G (fun k => h0 + k) u t.heap) (fun q => h0 ≤ q)) 1 10 (fun q => h0 ≤ q) := by
  refine Met.ofW (cc := cX6_init) (maxL := 1) (ret := none) (by decide) rfl ?_
  intro p e s m args below meth c s₁ B hml hv
  obtain ⟨rfl, hsz0, hK, hAO, hP⟩ := hv
  have hx := B.exec
  have hb := B.bytes
  have hr := B.returns
  have hts := atoms_spec (ws := wsX6_init) B.pre
  have hown : s.vm.findClass RX6 = some m.cls := findClass_of_methodNamed B.named
  have hlocks := B.notSynchronized
  have hin2 : meth.name = "<init>" := (name_of_methodNamed B.named B.method).1
  have h0s : h0 ≤ s.heap.size := by omega
  have hC : qHC (b0 + 1) c1 G h0 M s.heap s.heap [] := ⟨hP, va_S.rf⟩
  have ol : (Cond.methodLink RX6 3 objectInit).before [.ref (h0 + b0)].toArray s = true := hts _ (by decide +kernel)
  have oi : (Cond.instanceMethod objectInit).before [.ref (h0 + b0)].toArray s = true := hts _ (by decide +kernel)
  have oc : (Cond.code objectInit ⟨#[0xb1]⟩ 1 none).before [.ref (h0 + b0)].toArray s = true := hts _ (by decide +kernel)
  have ac_int : (Cond.arrayClass .int).before [.ref (h0 + b0)].toArray s = true := hts _ (by decide +kernel)
  have f9 : (Cond.fieldLink RX6 9 "SongLamps$Ways" "far" "[I").before [.ref (h0 + b0)].toArray s = true := hts _ (by decide +kernel)
  have i_X6 : ∀ w ∈ wsX60, w ∈ wsX6_init := fun w hw => List.mem_cons_of_mem _ ((List.mem_append_right _ hw))
  have hl := lv_entry ([.ref (h0 + b0)]) (n := 1) (Nat.le_of_ble_eq_true rfl)
  rw [lg_entry_eq]
  generalize (lg_sl ([.ref (h0 + b0)]) ++ List.replicate (1 - (lg_sl ([.ref (h0 + b0)])).length) Slot.unset).toArray = ls at hl ⊢
  have hl : lv_has ls 1 [(0, .ref (h0 + b0))] := hl
  unfold kX6_init at h
  refine lv_aload_n hx hb dX6_init_0 rfl (lv_at hl 0 rfl) ?_
  refine W.objInit hx hb hown ol oi oc rfl (by rw [hml]; exact hl.1) rfl dX6_init_1 (Nat.le_of_ble_eq_true rfl) (Nat.le_of_ble_eq_true rfl) ?_
  refine W.eq (g2 := F0 m 4 ls []) rfl ?_
  refine lv_aload_n hx hb dX6_init_4 rfl (lv_at hl 0 rfl) ?_
  refine lv_bipush (v := 10) hx hb dX6_init_5 (by decide) ?_
  refine yc_newa (n := b0 + 1) (atype := .int) (len := 10) hx hb ac_int rfl hK hC h0s (by omega) (fun _ => rfl) (by decide) (by decide) (by decide) (Nat.le_of_ble_eq_true rfl) (Nat.le_of_ble_eq_true rfl) (fun a cB b => Option.some.inj (b.symm.trans a)) (hK.1.2 0 _ rfl).2 ((qWy_c1 w0) _ _ _) h dX6_init_7 (fun M1 H hC h => ?_)
  refine yc_putr (n := b0 + 2) (k := b0) (ty := (.array .int)) hx hb hts i_X6 tyX6 tyX6_ok nmX6 hown hin2 hK hC (by omega) (fun g => qWy_c w0 G _ g) rfl 0 (by decide) f9 rfl rfl (by decide +kernel) rfl rfl (Nat.le_of_ble_eq_true rfl) (fun _ => rfl) h dX6_init_9 (fun M2 H locs hC h => ?_)
  refine W.widen (k := 1) (n := 10) (Nat.le_of_ble_eq_true rfl) (Nat.le_of_ble_eq_true rfl) ?_
  exact W.vret hx hb hr (fun t ht _ => ⟨⟨_, rfl, qOk.s h, qHpt ht hC.1⟩, hC.2.F ht⟩) hC.2.2.2 dX6_init_12
abbrev rm_X2_init : Room := { frames := 1, cells := 4, slots := 240, locals := 12 }
set_option maxHeartbeats 4000000 in
set_option maxRecDepth 100000 in
theorem c_X2_init (l : Launch) (G : qG) (h0 : Nat) (M : qM) {P : qM → Prop} (h : qOk (kX2_init M) P) : Met l yX2_init wsX2_init rm_X2_init (va_Pc [.ref (h0 + 39)] (qPrC (40) c1 G h0 M)) (va_Qv P (fun u t => qHp (44) c1 G (fun k => h0 + k) u t.heap) (fun q => h0 ≤ q)) 4 240 (fun q => h0 ≤ q) := by
  refine Met.ofW (cc := cX2_init) (maxL := 1) (ret := none) (by decide) rfl ?_
  intro p e s m args below meth c s₁ B hml hv
  obtain ⟨rfl, hsz0, hK, hAO, hP⟩ := hv
  have hx := B.exec
  have hb := B.bytes
  have hr := B.returns
  have hts := atoms_spec (ws := wsX2_init) B.pre
  have hown : s.vm.findClass RX2 = some m.cls := findClass_of_methodNamed B.named
  have hlocks := B.notSynchronized
  have hin2 : meth.name = "<init>" := (name_of_methodNamed B.named B.method).1
  have h0s : h0 ≤ s.heap.size := by omega
  have hC : qHC (40) c1 G h0 M s.heap s.heap [] := ⟨hP, va_S.rf⟩
  have ol : (Cond.methodLink RX2 3 objectInit).before [.ref (h0 + 39)].toArray s = true := hts _ (by decide +kernel)
  have oi : (Cond.instanceMethod objectInit).before [.ref (h0 + 39)].toArray s = true := hts _ (by decide +kernel)
  have oc : (Cond.code objectInit ⟨#[0xb1]⟩ 1 none).before [.ref (h0 + 39)].toArray s = true := hts _ (by decide +kernel)
  have ac_int : (Cond.arrayClass .int).before [.ref (h0 + 39)].toArray s = true := hts _ (by decide +kernel)
  have f9 : (Cond.fieldLink RX2 9 "SongLamps$Pad" "signs" "[I").before [.ref (h0 + 39)].toArray s = true := hts _ (by decide +kernel)
  have i_X2 : ∀ w ∈ wsX20, w ∈ wsX2_init := fun w hw => List.mem_cons_of_mem _ ((List.mem_append_right _ hw))
  have f15 : (Cond.fieldLink RX2 15 "SongLamps$Pad" "kind" "[I").before [.ref (h0 + 39)].toArray s = true := hts _ (by decide +kernel)
  have f18 : (Cond.fieldLink RX2 18 "SongLamps$Pad" "who" "[I").before [.ref (h0 + 39)].toArray s = true := hts _ (by decide +kernel)
  have f21 : (Cond.fieldLink RX2 21 "SongLamps$Pad" "number" "[I").before [.ref (h0 + 39)].toArray s = true := hts _ (by decide +kernel)
  have hl := lv_entry ([.ref (h0 + 39)]) (n := 1) (Nat.le_of_ble_eq_true rfl)
  rw [lg_entry_eq]
  generalize (lg_sl ([.ref (h0 + 39)]) ++ List.replicate (1 - (lg_sl ([.ref (h0 + 39)])).length) Slot.unset).toArray = ls at hl ⊢
  have hl : lv_has ls 1 [(0, .ref (h0 + 39))] := hl
  unfold kX2_init at h
  refine lv_aload_n hx hb dX2_init_0 rfl (lv_at hl 0 rfl) ?_
  refine W.objInit hx hb hown ol oi oc rfl (by rw [hml]; exact hl.1) rfl dX2_init_1 (Nat.le_of_ble_eq_true rfl) (Nat.le_of_ble_eq_true rfl) ?_
  refine W.eq (g2 := F0 m 4 ls []) rfl ?_
  refine lv_aload_n hx hb dX2_init_4 rfl (lv_at hl 0 rfl) ?_
  refine lv_bipush (v := 60) hx hb dX2_init_5 (by decide) ?_
  refine yc_newa (n := 40) (atype := .int) (len := 60) hx hb ac_int rfl hK hC h0s (by omega) (fun _ => rfl) (by decide) (by decide) (by decide) (Nat.le_of_ble_eq_true rfl) (Nat.le_of_ble_eq_true rfl) (fun a cB b => Option.some.inj (b.symm.trans a)) (hK.1.2 0 _ rfl).2 rfl h dX2_init_7 (fun M1 H hC h => ?_)
  refine yc_putr (n := 41) (k := 39) (ty := (.array .int)) hx hb hts i_X2 tyX2 tyX2_ok nmX2 hown hin2 hK hC (by omega) (fun _ => rfl) rfl 0 (by decide) f9 rfl rfl (by decide +kernel) rfl rfl (Nat.le_of_ble_eq_true rfl) (fun _ => rfl) h dX2_init_9 (fun M2 H locs hC h => ?_)
  refine lv_aload_n hx hb dX2_init_12 rfl (lv_at hl 0 rfl) ?_
  refine lv_bipush (v := 60) hx hb dX2_init_13 (by decide) ?_
  refine yc_newa (n := 41) (atype := .int) (len := 60) hx hb ac_int rfl hK hC h0s (by omega) (fun _ => rfl) (by decide) (by decide) (by decide) (Nat.le_of_ble_eq_true rfl) (Nat.le_of_ble_eq_true rfl) (fun a cB b => Option.some.inj (b.symm.trans a)) (hK.1.2 0 _ rfl).2 rfl h dX2_init_15 (fun M3 H hC h => ?_)
  refine yc_putr (n := 42) (k := 39) (ty := (.array .int)) hx hb hts i_X2 tyX2 tyX2_ok nmX2 hown hin2 hK hC (by omega) (fun _ => rfl) rfl 2 (by decide) f15 rfl rfl (by decide +kernel) rfl rfl (Nat.le_of_ble_eq_true rfl) (fun _ => rfl) h dX2_init_17 (fun M4 H locs hC h => ?_)
  refine lv_aload_n hx hb dX2_init_20 rfl (lv_at hl 0 rfl) ?_
  refine lv_bipush (v := 60) hx hb dX2_init_21 (by decide) ?_
  refine yc_newa (n := 42) (atype := .int) (len := 60) hx hb ac_int rfl hK hC h0s (by omega) (fun _ => rfl) (by decide) (by decide) (by decide) (Nat.le_of_ble_eq_true rfl) (Nat.le_of_ble_eq_true rfl) (fun a cB b => Option.some.inj (b.symm.trans a)) (hK.1.2 0 _ rfl).2 rfl h dX2_init_23 (fun M5 H hC h => ?_)
  refine yc_putr (n := 43) (k := 39) (ty := (.array .int)) hx hb hts i_X2 tyX2 tyX2_ok nmX2 hown hin2 hK hC (by omega) (fun _ => rfl) rfl 3 (by decide) f18 rfl rfl (by decide +kernel) rfl rfl (Nat.le_of_ble_eq_true rfl) (fun _ => rfl) h dX2_init_25 (fun M6 H locs hC h => ?_)
  refine lv_aload_n hx hb dX2_init_28 rfl (lv_at hl 0 rfl) ?_
  refine lv_bipush (v := 60) hx hb dX2_init_29 (by decide) ?_
  refine yc_newa (n := 43) (atype := .int) (len := 60) hx hb ac_int rfl hK hC h0s (by omega) (fun _ => rfl) (by decide) (by decide) (by decide) (Nat.le_of_ble_eq_true rfl) (Nat.le_of_ble_eq_true rfl) (fun a cB b => Option.some.inj (b.symm.trans a)) (hK.1.2 0 _ rfl).2 rfl h dX2_init_31 (fun M7 H hC h => ?_)
  refine yc_putr (n := 44) (k := 39) (ty := (.array .int)) hx hb hts i_X2 tyX2 tyX2_ok nmX2 hown hin2 hK hC (by omega) (fun _ => rfl) rfl 4 (by decide) f21 rfl rfl (by decide +kernel) rfl rfl (Nat.le_of_ble_eq_true rfl) (fun _ => rfl) h dX2_init_33 (fun M8 H locs hC h => ?_)
  refine W.widen (k := 4) (n := 240) (Nat.le_of_ble_eq_true rfl) (Nat.le_of_ble_eq_true rfl) ?_
  exact W.vret hx hb hr (fun t ht _ => ⟨⟨_, rfl, qOk.s h, qHpt ht hC.1⟩, hC.2.F ht⟩) hC.2.2.2 dX2_init_36
abbrev rm_X3_init : Room := { frames := 2, cells := 4, slots := 46, locals := 32 }
set_option maxHeartbeats 4000000 in
set_option maxRecDepth 100000 in
theorem c_X3_init (l : Launch) (G : qG) (h0 : Nat) (M : qM) {P : qM → Prop} (h : qOk (kX3_init M) P) : Met l yX3_init wsX3_init rm_X3_init (va_Pc [.ref (h0 + 65)] (qPrC (66) c1 G h0 M)) (va_Qv P (fun u t => qHp (70) c1 G (fun k => h0 + k) u t.heap) (fun q => h0 ≤ q)) 4 46 (fun q => h0 ≤ q) := by
  refine Met.ofW (cc := cX3_init) (maxL := 1) (ret := none) (by decide) rfl ?_
  intro p e s m args below meth c s₁ B hml hv
  obtain ⟨rfl, hsz0, hK, hAO, hP⟩ := hv
  have hx := B.exec
  have hb := B.bytes
  have hr := B.returns
  have hts := atoms_spec (ws := wsX3_init) B.pre
  have hown : s.vm.findClass RX3 = some m.cls := findClass_of_methodNamed B.named
  have hlocks := B.notSynchronized
  have hin2 : meth.name = "<init>" := (name_of_methodNamed B.named B.method).1
  have h0s : h0 ≤ s.heap.size := by omega
  have hC : qHC (66) c1 G h0 M s.heap s.heap [] := ⟨hP, va_S.rf⟩
  have ol : (Cond.methodLink RX3 3 objectInit).before [.ref (h0 + 65)].toArray s = true := hts _ (by decide +kernel)
  have oi : (Cond.instanceMethod objectInit).before [.ref (h0 + 65)].toArray s = true := hts _ (by decide +kernel)
  have oc : (Cond.code objectInit ⟨#[0xb1]⟩ 1 none).before [.ref (h0 + 65)].toArray s = true := hts _ (by decide +kernel)
  have cl9 : (Cond.classLink RX3 9 RX6).before [.ref (h0 + 65)].toArray s = true := hts _ (by decide +kernel)
  have inX6 : (Cond.instantiable RX6 1).before [.ref (h0 + 65)].toArray s = true := hts _ (by decide +kernel)
  have iiX6 : (Cond.initialized RX6).before [.ref (h0 + 65)].toArray s = true := hts _ (by decide +kernel)
  have i_X6 : ∀ w ∈ wsX60, w ∈ wsX3_init := fun w hw => List.mem_cons_of_mem _ ((List.mem_append_left _ (List.mem_append_right _ hw)))
  have imX6 : (Cond.instanceMethod yX6_init).before [.ref (h0 + 65)].toArray s = true := hts _ (by decide +kernel)
  have f12 : (Cond.fieldLink RX3 12 "SongLamps$Search" "ways" "LSongLamps$Ways;").before [.ref (h0 + 65)].toArray s = true := hts _ (by decide +kernel)
  have i_X3 : ∀ w ∈ wsX30, w ∈ wsX3_init := fun w hw => List.mem_cons_of_mem _ ((List.mem_append_right _ hw))
  have ac_int : (Cond.arrayClass .int).before [.ref (h0 + 65)].toArray s = true := hts _ (by decide +kernel)
  have f18 : (Cond.fieldLink RX3 18 "SongLamps$Search" "fits" "[I").before [.ref (h0 + 65)].toArray s = true := hts _ (by decide +kernel)
  have f22 : (Cond.fieldLink RX3 22 "SongLamps$Search" "left" "[I").before [.ref (h0 + 65)].toArray s = true := hts _ (by decide +kernel)
  have f25 : (Cond.fieldLink RX3 25 "SongLamps$Search" "listenAt" "I").before [.ref (h0 + 65)].toArray s = true := hts _ (by decide +kernel)
  have f29 : (Cond.fieldLink RX3 29 "SongLamps$Search" "mostLeft" "I").before [.ref (h0 + 65)].toArray s = true := hts _ (by decide +kernel)
  have hl := lv_entry ([.ref (h0 + 65)]) (n := 1) (Nat.le_of_ble_eq_true rfl)
  rw [lg_entry_eq]
  generalize (lg_sl ([.ref (h0 + 65)]) ++ List.replicate (1 - (lg_sl ([.ref (h0 + 65)])).length) Slot.unset).toArray = ls at hl ⊢
  have hl : lv_has ls 1 [(0, .ref (h0 + 65))] := hl
  unfold kX3_init at h
  refine lv_aload_n hx hb dX3_init_0 rfl (lv_at hl 0 rfl) ?_
  refine W.objInit hx hb hown ol oi oc rfl (by rw [hml]; exact hl.1) rfl dX3_init_1 (Nat.le_of_ble_eq_true rfl) (Nat.le_of_ble_eq_true rfl) ?_
  refine W.eq (g2 := F0 m 4 ls []) rfl ?_
  refine lv_aload_n hx hb dX3_init_4 rfl (lv_at hl 0 rfl) ?_
  refine yc_new (n := 66) (ci := 6) (fs := [.null]) hx hb hts i_X6 tyX6 tyX6_ok hown cl9 inX6 iiX6 hK hC h0s (by omega) rfl rfl (by decide +kernel) (Nat.le_of_ble_eq_true rfl) (Nat.le_of_ble_eq_true rfl) h dX3_init_5 (fun M1 H hC h => ?_)
  refine lv_dup hx hb dX3_init_8 rfl ?_
  refine qW_size (fun hsz => ?_)
  have hsz : H.size = h0 + 67 := qC_size hC (by omega) (by omega) hsz
  refine yc_cv (n := 67) (n' := 68) (mc := 1) (ms := 10) hC (fun _ h => h) (fun _ h => h) (va_runIN (host := "SongLamps") (As := []) (rest := [.ref (h0 + 66), .ref (h0 + 65)]) ⟨hx, hb, hml, hown, hts⟩ (c_X6_init l G h0 M1 qWy_66 (qOk.b1 h)) ⟨va_cnB 0 hts gX3_init_X6_init_n11 rfl rfl rfl (hK.2 (RX3, 11, yX6_init, "SongLamps") (List.mem_of_getElem? (i := 2) rfl)) iiX6 (by decide +kernel) ⟨Nat.le_of_ble_eq_true rfl, Nat.le_of_ble_eq_true rfl⟩, rfl, imX6⟩ ⟨qPrC.blind, qPrC.at hK hAO hC hsz⟩ rfl rfl hl.1 rfl (lv_room (Nat.le_of_ble_eq_true rfl)) dX3_init_9 ⟨Nat.le_of_ble_eq_true rfl, Nat.le_of_ble_eq_true rfl⟩) (fun M2 H locs hC h => ?_)
  refine yc_putr (n := 68) (k := 65) (ty := (.object "SongLamps$Ways")) hx hb hts i_X3 tyX3 tyX3_ok nmX3 hown hin2 hK hC (by omega) (fun _ => rfl) rfl 0 (by decide) f12 rfl rfl (by decide +kernel) rfl rfl (Nat.le_of_ble_eq_true rfl) (fun _ => rfl) h dX3_init_12 (fun M3 H locs hC h => ?_)
  refine lv_aload_n hx hb dX3_init_15 rfl (lv_at hl 0 rfl) ?_
  refine lv_bipush (v := 10) hx hb dX3_init_16 (by decide) ?_
  refine yc_newa (n := 68) (atype := .int) (len := 10) hx hb ac_int rfl hK hC h0s (by omega) (fun _ => rfl) (by decide) (by decide) (by decide) (Nat.le_of_ble_eq_true rfl) (Nat.le_of_ble_eq_true rfl) (fun a cB b => Option.some.inj (b.symm.trans a)) (hK.1.2 0 _ rfl).2 rfl h dX3_init_18 (fun M4 H hC h => ?_)
  refine yc_putr (n := 69) (k := 65) (ty := (.array .int)) hx hb hts i_X3 tyX3 tyX3_ok nmX3 hown hin2 hK hC (by omega) (fun _ => rfl) rfl 1 (by decide) f18 rfl rfl (by decide +kernel) rfl rfl (Nat.le_of_ble_eq_true rfl) (fun _ => rfl) h dX3_init_20 (fun M5 H locs hC h => ?_)
  refine lv_aload_n hx hb dX3_init_23 rfl (lv_at hl 0 rfl) ?_
  refine lv_bipush (v := 25) hx hb dX3_init_24 (by decide) ?_
  refine yc_newa (n := 69) (atype := .int) (len := 25) hx hb ac_int rfl hK hC h0s (by omega) (fun _ => rfl) (by decide) (by decide) (by decide) (Nat.le_of_ble_eq_true rfl) (Nat.le_of_ble_eq_true rfl) (fun a cB b => Option.some.inj (b.symm.trans a)) (hK.1.2 0 _ rfl).2 rfl h dX3_init_26 (fun M6 H hC h => ?_)
  refine yc_putr (n := 70) (k := 65) (ty := (.array .int)) hx hb hts i_X3 tyX3 tyX3_ok nmX3 hown hin2 hK hC (by omega) (fun _ => rfl) rfl 2 (by decide) f22 rfl rfl (by decide +kernel) rfl rfl (Nat.le_of_ble_eq_true rfl) (fun _ => rfl) h dX3_init_28 (fun M7 H locs hC h => ?_)
  refine lv_aload_n hx hb dX3_init_31 rfl (lv_at hl 0 rfl) ?_
  refine lv_bipush (v := (-6)) hx hb dX3_init_32 (by decide) ?_
  refine yc_puti (n := 70) (k := 65) hx hb hts i_X3 tyX3 tyX3_ok nmX3 hown hK hC (by omega) (fun _ => rfl) rfl 3 (by decide) f25 rfl (by decide +kernel) (Nat.le_of_ble_eq_true rfl) (fun _ => rfl) h dX3_init_34 (fun M8 H locs hC h => ?_)
  refine lv_aload_n hx hb dX3_init_37 rfl (lv_at hl 0 rfl) ?_
  refine lv_bipush (v := (-6)) hx hb dX3_init_38 (by decide) ?_
  refine yc_puti (n := 70) (k := 65) hx hb hts i_X3 tyX3 tyX3_ok nmX3 hown hK hC (by omega) (fun _ => rfl) rfl 4 (by decide) f29 rfl (by decide +kernel) (Nat.le_of_ble_eq_true rfl) (fun _ => rfl) h dX3_init_40 (fun M9 H locs hC h => ?_)
  refine W.widen (k := 4) (n := 46) (Nat.le_of_ble_eq_true rfl) (Nat.le_of_ble_eq_true rfl) ?_
  exact W.vret hx hb hr (fun t ht _ => ⟨⟨_, rfl, qOk.s h, qHpt ht hC.1⟩, hC.2.F ht⟩) hC.2.2.2 dX3_init_43
abbrev rm_X5_init : Room := { frames := 1, cells := 4, slots := 606, locals := 12 }
set_option maxHeartbeats 4000000 in
set_option maxRecDepth 100000 in
theorem c_X5_init (l : Launch) (G : qG) (h0 : Nat) (M : qM) {P : qM → Prop} (h : qOk (kX5_init M) P) : Met l yX5_init wsX5_init rm_X5_init (va_Pc [.ref (h0 + 70)] (qPrC (71) c1 G h0 M)) (va_Qv P (fun u t => qHp (75) c1 G (fun k => h0 + k) u t.heap) (fun q => h0 ≤ q)) 4 606 (fun q => h0 ≤ q) := by
  refine Met.ofW (cc := cX5_init) (maxL := 1) (ret := none) (by decide) rfl ?_
  intro p e s m args below meth c s₁ B hml hv
  obtain ⟨rfl, hsz0, hK, hAO, hP⟩ := hv
  have hx := B.exec
  have hb := B.bytes
  have hr := B.returns
  have hts := atoms_spec (ws := wsX5_init) B.pre
  have hown : s.vm.findClass RX5 = some m.cls := findClass_of_methodNamed B.named
  have hlocks := B.notSynchronized
  have hin2 : meth.name = "<init>" := (name_of_methodNamed B.named B.method).1
  have h0s : h0 ≤ s.heap.size := by omega
  have hC : qHC (71) c1 G h0 M s.heap s.heap [] := ⟨hP, va_S.rf⟩
  have ol : (Cond.methodLink RX5 3 objectInit).before [.ref (h0 + 70)].toArray s = true := hts _ (by decide +kernel)
  have oi : (Cond.instanceMethod objectInit).before [.ref (h0 + 70)].toArray s = true := hts _ (by decide +kernel)
  have oc : (Cond.code objectInit ⟨#[0xb1]⟩ 1 none).before [.ref (h0 + 70)].toArray s = true := hts _ (by decide +kernel)
  have ac_int : (Cond.arrayClass .int).before [.ref (h0 + 70)].toArray s = true := hts _ (by decide +kernel)
  have f11 : (Cond.fieldLink RX5 11 "SongLamps$Turns" "song" "[I").before [.ref (h0 + 70)].toArray s = true := hts _ (by decide +kernel)
  have i_X5 : ∀ w ∈ wsX50, w ∈ wsX5_init := fun w hw => List.mem_cons_of_mem _ ((List.mem_append_right _ hw))
  have f15 : (Cond.fieldLink RX5 15 "SongLamps$Turns" "rest" "[I").before [.ref (h0 + 70)].toArray s = true := hts _ (by decide +kernel)
  have f18 : (Cond.fieldLink RX5 18 "SongLamps$Turns" "further" "[I").before [.ref (h0 + 70)].toArray s = true := hts _ (by decide +kernel)
  have f21 : (Cond.fieldLink RX5 21 "SongLamps$Turns" "met" "[I").before [.ref (h0 + 70)].toArray s = true := hts _ (by decide +kernel)
  have hl := lv_entry ([.ref (h0 + 70)]) (n := 1) (Nat.le_of_ble_eq_true rfl)
  rw [lg_entry_eq]
  generalize (lg_sl ([.ref (h0 + 70)]) ++ List.replicate (1 - (lg_sl ([.ref (h0 + 70)])).length) Slot.unset).toArray = ls at hl ⊢
  have hl : lv_has ls 1 [(0, .ref (h0 + 70))] := hl
  unfold kX5_init at h
  refine lv_aload_n hx hb dX5_init_0 rfl (lv_at hl 0 rfl) ?_
  refine W.objInit hx hb hown ol oi oc rfl (by rw [hml]; exact hl.1) rfl dX5_init_1 (Nat.le_of_ble_eq_true rfl) (Nat.le_of_ble_eq_true rfl) ?_
  refine W.eq (g2 := F0 m 4 ls []) rfl ?_
  refine lv_aload_n hx hb dX5_init_4 rfl (lv_at hl 0 rfl) ?_
  refine lv_iconst (v := 3) hx hb dX5_init_5 (by decide) ?_
  refine yc_newa (n := 71) (atype := .int) (len := 3) hx hb ac_int rfl hK hC h0s (by omega) (fun _ => rfl) (by decide) (by decide) (by decide) (Nat.le_of_ble_eq_true rfl) (Nat.le_of_ble_eq_true rfl) (fun a cB b => Option.some.inj (b.symm.trans a)) (hK.1.2 0 _ rfl).2 rfl h dX5_init_6 (fun M1 H hC h => ?_)
  refine yc_putr (n := 72) (k := 70) (ty := (.array .int)) hx hb hts i_X5 tyX5 tyX5_ok nmX5 hown hin2 hK hC (by omega) (fun _ => rfl) rfl 0 (by decide) f11 rfl rfl (by decide +kernel) rfl rfl (Nat.le_of_ble_eq_true rfl) (fun _ => rfl) h dX5_init_8 (fun M2 H locs hC h => ?_)
  refine lv_aload_n hx hb dX5_init_11 rfl (lv_at hl 0 rfl) ?_
  refine lv_iconst (v := 3) hx hb dX5_init_12 (by decide) ?_
  refine yc_newa (n := 72) (atype := .int) (len := 3) hx hb ac_int rfl hK hC h0s (by omega) (fun _ => rfl) (by decide) (by decide) (by decide) (Nat.le_of_ble_eq_true rfl) (Nat.le_of_ble_eq_true rfl) (fun a cB b => Option.some.inj (b.symm.trans a)) (hK.1.2 0 _ rfl).2 rfl h dX5_init_13 (fun M3 H hC h => ?_)
  refine yc_putr (n := 73) (k := 70) (ty := (.array .int)) hx hb hts i_X5 tyX5 tyX5_ok nmX5 hown hin2 hK hC (by omega) (fun _ => rfl) rfl 1 (by decide) f15 rfl rfl (by decide +kernel) rfl rfl (Nat.le_of_ble_eq_true rfl) (fun _ => rfl) h dX5_init_15 (fun M4 H locs hC h => ?_)
  refine lv_aload_n hx hb dX5_init_18 rfl (lv_at hl 0 rfl) ?_
  refine lv_sipush (v := 300) hx hb dX5_init_19 (by decide) ?_
  refine yc_newa (n := 73) (atype := .int) (len := 300) hx hb ac_int rfl hK hC h0s (by omega) (fun _ => rfl) (by decide) (by decide) (by decide) (Nat.le_of_ble_eq_true rfl) (Nat.le_of_ble_eq_true rfl) (fun a cB b => Option.some.inj (b.symm.trans a)) (hK.1.2 0 _ rfl).2 rfl h dX5_init_22 (fun M5 H hC h => ?_)
  refine yc_putr (n := 74) (k := 70) (ty := (.array .int)) hx hb hts i_X5 tyX5 tyX5_ok nmX5 hown hin2 hK hC (by omega) (fun _ => rfl) rfl 2 (by decide) f18 rfl rfl (by decide +kernel) rfl rfl (Nat.le_of_ble_eq_true rfl) (fun _ => rfl) h dX5_init_24 (fun M6 H locs hC h => ?_)
  refine lv_aload_n hx hb dX5_init_27 rfl (lv_at hl 0 rfl) ?_
  refine lv_sipush (v := 300) hx hb dX5_init_28 (by decide) ?_
  refine yc_newa (n := 74) (atype := .int) (len := 300) hx hb ac_int rfl hK hC h0s (by omega) (fun _ => rfl) (by decide) (by decide) (by decide) (Nat.le_of_ble_eq_true rfl) (Nat.le_of_ble_eq_true rfl) (fun a cB b => Option.some.inj (b.symm.trans a)) (hK.1.2 0 _ rfl).2 rfl h dX5_init_31 (fun M7 H hC h => ?_)
  refine yc_putr (n := 75) (k := 70) (ty := (.array .int)) hx hb hts i_X5 tyX5 tyX5_ok nmX5 hown hin2 hK hC (by omega) (fun _ => rfl) rfl 3 (by decide) f21 rfl rfl (by decide +kernel) rfl rfl (Nat.le_of_ble_eq_true rfl) (fun _ => rfl) h dX5_init_33 (fun M8 H locs hC h => ?_)
  refine W.widen (k := 4) (n := 606) (Nat.le_of_ble_eq_true rfl) (Nat.le_of_ble_eq_true rfl) ?_
  exact W.vret hx hb hr (fun t ht _ => ⟨⟨_, rfl, qOk.s h, qHpt ht hC.1⟩, hC.2.F ht⟩) hC.2.2.2 dX5_init_36
abbrev rm_X4_init : Room := { frames := 2, cells := 15, slots := 133, locals := 44 }
set_option maxHeartbeats 4000000 in
set_option maxRecDepth 100000 in
theorem c_X4_init (l : Launch) (G : qG) (h0 : Nat) (M : qM) {P : qM → Prop} (h : qOk (kX4_init M) P) : Met l yX4_init wsX4_init rm_X4_init (va_Pc [.ref (h0 + 47)] (qPrC (48) c1 G h0 M)) (va_Qv P (fun u t => qHp (63) c1 G (fun k => h0 + k) u t.heap) (fun q => h0 ≤ q)) 15 133 (fun q => h0 ≤ q) := by
  refine Met.ofW (cc := cX4_init) (maxL := 1) (ret := none) (by decide) rfl ?_
  intro p e s m args below meth c s₁ B hml hv
  obtain ⟨rfl, hsz0, hK, hAO, hP⟩ := hv
  have hx := B.exec
  have hb := B.bytes
  have hr := B.returns
  have hts := atoms_spec (ws := wsX4_init) B.pre
  have hown : s.vm.findClass RX4 = some m.cls := findClass_of_methodNamed B.named
  have hlocks := B.notSynchronized
  have hin2 : meth.name = "<init>" := (name_of_methodNamed B.named B.method).1
  have h0s : h0 ≤ s.heap.size := by omega
  have hC : qHC (48) c1 G h0 M s.heap s.heap [] := ⟨hP, va_S.rf⟩
  have ol : (Cond.methodLink RX4 3 objectInit).before [.ref (h0 + 47)].toArray s = true := hts _ (by decide +kernel)
  have oi : (Cond.instanceMethod objectInit).before [.ref (h0 + 47)].toArray s = true := hts _ (by decide +kernel)
  have oc : (Cond.code objectInit ⟨#[0xb1]⟩ 1 none).before [.ref (h0 + 47)].toArray s = true := hts _ (by decide +kernel)
  have cl9 : (Cond.classLink RX4 9 RX1).before [.ref (h0 + 47)].toArray s = true := hts _ (by decide +kernel)
  have inX1 : (Cond.instantiable RX1 16).before [.ref (h0 + 47)].toArray s = true := hts _ (by decide +kernel)
  have iiX1 : (Cond.initialized RX1).before [.ref (h0 + 47)].toArray s = true := hts _ (by decide +kernel)
  have i_X1 : ∀ w ∈ wsX10, w ∈ wsX4_init := fun w hw => List.mem_cons_of_mem _ ((List.mem_append_left _ (List.mem_append_left _ (List.mem_append_right _ hw))))
  have imX1 : (Cond.instanceMethod yX1_init).before [.ref (h0 + 47)].toArray s = true := hts _ (by decide +kernel)
  have ml11 : (Cond.methodLink RX4 11 yX1_init).before [.ref (h0 + 47)].toArray s = true := hts _ (by decide +kernel)
  have f12 : (Cond.fieldLink RX4 12 "SongLamps$Trial" "mine" "LSongLamps$Mine;").before [.ref (h0 + 47)].toArray s = true := hts _ (by decide +kernel)
  have i_X4 : ∀ w ∈ wsX40, w ∈ wsX4_init := fun w hw => List.mem_cons_of_mem _ ((List.mem_append_left _ (List.mem_append_right _ hw)))
  have f18 : (Cond.fieldLink RX4 18 "SongLamps$Trial" "stoppedAt" "I").before [.ref (h0 + 47)].toArray s = true := hts _ (by decide +kernel)
  have f22 : (Cond.fieldLink RX4 22 "SongLamps$Trial" "why" "I").before [.ref (h0 + 47)].toArray s = true := hts _ (by decide +kernel)
  have f25 : (Cond.fieldLink RX4 25 "SongLamps$Trial" "darkAct" "I").before [.ref (h0 + 47)].toArray s = true := hts _ (by decide +kernel)
  have f28 : (Cond.fieldLink RX4 28 "SongLamps$Trial" "darkGallery" "I").before [.ref (h0 + 47)].toArray s = true := hts _ (by decide +kernel)
  have cl31 : (Cond.classLink RX4 31 RX0).before [.ref (h0 + 47)].toArray s = true := hts _ (by decide +kernel)
  have inX0 : (Cond.instantiable RX0 3).before [.ref (h0 + 47)].toArray s = true := hts _ (by decide +kernel)
  have iiX0 : (Cond.initialized RX0).before [.ref (h0 + 47)].toArray s = true := hts _ (by decide +kernel)
  have i_X0 : ∀ w ∈ wsX00, w ∈ wsX4_init := fun w hw => List.mem_cons_of_mem _ ((List.mem_append_right _ hw))
  have imX0 : (Cond.instanceMethod yX0_init).before [.ref (h0 + 47)].toArray s = true := hts _ (by decide +kernel)
  have f34 : (Cond.fieldLink RX4 34 "SongLamps$Trial" "lamps" "LSongLamps$Lamps;").before [.ref (h0 + 47)].toArray s = true := hts _ (by decide +kernel)
  have hl := lv_entry ([.ref (h0 + 47)]) (n := 1) (Nat.le_of_ble_eq_true rfl)
  rw [lg_entry_eq]
  generalize (lg_sl ([.ref (h0 + 47)]) ++ List.replicate (1 - (lg_sl ([.ref (h0 + 47)])).length) Slot.unset).toArray = ls at hl ⊢
  have hl : lv_has ls 1 [(0, .ref (h0 + 47))] := hl
  unfold kX4_init at h
  refine lv_aload_n hx hb dX4_init_0 rfl (lv_at hl 0 rfl) ?_
  refine W.objInit hx hb hown ol oi oc rfl (by rw [hml]; exact hl.1) rfl dX4_init_1 (Nat.le_of_ble_eq_true rfl) (Nat.le_of_ble_eq_true rfl) ?_
  refine W.eq (g2 := F0 m 4 ls []) rfl ?_
  refine lv_aload_n hx hb dX4_init_4 rfl (lv_at hl 0 rfl) ?_
  refine yc_new (n := 48) (ci := 1) (fs := [.null, .null, .null, .int 0, .int 0, .int 0, .int 0, .int 0, .null, .null, .null, .null, .null, .null, .null, .null]) hx hb hts i_X1 tyX1 tyX1_ok hown cl9 inX1 iiX1 hK hC h0s (by omega) rfl rfl (by decide +kernel) (Nat.le_of_ble_eq_true rfl) (Nat.le_of_ble_eq_true rfl) h dX4_init_5 (fun M1 H hC h => ?_)
  refine lv_dup hx hb dX4_init_8 rfl ?_
  refine qW_size (fun hsz => ?_)
  have hsz : H.size = h0 + 49 := qC_size hC (by omega) (by omega) hsz
  refine yc_cv (n := 49) (n' := 60) (mc := 11) (ms := 94) hC (fun _ h => h) (fun _ h => h) (va_runI (As := []) (rest := [.ref (h0 + 48), .ref (h0 + 47)]) ⟨hx, hb, hml, hown, hts⟩ (c_X1_init l G h0 M1 qMi_48 (qOk.b1 h)) (cwI 0 hts gX4_init_X1_init rfl rfl rfl iiX1 ml11 imX1 rfl (by decide +kernel) ⟨Nat.le_of_ble_eq_true rfl, Nat.le_of_ble_eq_true rfl⟩) ⟨qPrC.blind, qPrC.at hK hAO hC hsz⟩ rfl rfl hl.1 rfl (lv_room (Nat.le_of_ble_eq_true rfl)) dX4_init_9 ⟨Nat.le_of_ble_eq_true rfl, Nat.le_of_ble_eq_true rfl⟩) (fun M2 H locs hC h => ?_)
  refine yc_putr (n := 60) (k := 47) (ty := (.object "SongLamps$Mine")) hx hb hts i_X4 tyX4 tyX4_ok nmX4 hown hin2 hK hC (by omega) (fun _ => rfl) rfl 0 (by decide) f12 rfl rfl (by decide +kernel) rfl rfl (Nat.le_of_ble_eq_true rfl) (fun _ => rfl) h dX4_init_12 (fun M3 H locs hC h => ?_)
  refine lv_aload_n hx hb dX4_init_15 rfl (lv_at hl 0 rfl) ?_
  refine lv_bipush (v := (-6)) hx hb dX4_init_16 (by decide) ?_
  refine yc_puti (n := 60) (k := 47) hx hb hts i_X4 tyX4 tyX4_ok nmX4 hown hK hC (by omega) (fun _ => rfl) rfl 1 (by decide) f18 rfl (by decide +kernel) (Nat.le_of_ble_eq_true rfl) (fun _ => rfl) h dX4_init_18 (fun M4 H locs hC h => ?_)
  refine lv_aload_n hx hb dX4_init_21 rfl (lv_at hl 0 rfl) ?_
  refine lv_bipush (v := (-6)) hx hb dX4_init_22 (by decide) ?_
  refine yc_puti (n := 60) (k := 47) hx hb hts i_X4 tyX4 tyX4_ok nmX4 hown hK hC (by omega) (fun _ => rfl) rfl 2 (by decide) f22 rfl (by decide +kernel) (Nat.le_of_ble_eq_true rfl) (fun _ => rfl) h dX4_init_24 (fun M5 H locs hC h => ?_)
  refine lv_aload_n hx hb dX4_init_27 rfl (lv_at hl 0 rfl) ?_
  refine lv_bipush (v := (-6)) hx hb dX4_init_28 (by decide) ?_
  refine yc_puti (n := 60) (k := 47) hx hb hts i_X4 tyX4 tyX4_ok nmX4 hown hK hC (by omega) (fun _ => rfl) rfl 3 (by decide) f25 rfl (by decide +kernel) (Nat.le_of_ble_eq_true rfl) (fun _ => rfl) h dX4_init_30 (fun M6 H locs hC h => ?_)
  refine lv_aload_n hx hb dX4_init_33 rfl (lv_at hl 0 rfl) ?_
  refine lv_bipush (v := (-6)) hx hb dX4_init_34 (by decide) ?_
  refine yc_puti (n := 60) (k := 47) hx hb hts i_X4 tyX4 tyX4_ok nmX4 hown hK hC (by omega) (fun _ => rfl) rfl 4 (by decide) f28 rfl (by decide +kernel) (Nat.le_of_ble_eq_true rfl) (fun _ => rfl) h dX4_init_36 (fun M7 H locs hC h => ?_)
  refine lv_aload_n hx hb dX4_init_39 rfl (lv_at hl 0 rfl) ?_
  refine yc_new (n := 60) (ci := 0) (fs := [.null, .null, .int 0]) hx hb hts i_X0 tyX0 tyX0_ok hown cl31 inX0 iiX0 hK hC h0s (by omega) rfl rfl (by decide +kernel) (Nat.le_of_ble_eq_true rfl) (Nat.le_of_ble_eq_true rfl) h dX4_init_40 (fun M8 H hC h => ?_)
  refine lv_dup hx hb dX4_init_43 rfl ?_
  refine qW_size (fun hsz => ?_)
  have hsz : H.size = h0 + 61 := qC_size hC (by omega) (by omega) hsz
  refine yc_cv (n := 61) (n' := 63) (mc := 2) (ms := 20) hC (fun _ h => h) (fun _ h => h) (va_runIN (host := "SongLamps") (As := []) (rest := [.ref (h0 + 60), .ref (h0 + 47)]) ⟨hx, hb, hml, hown, hts⟩ (c_X0_init l G h0 M8 qLa_60 (qOk.b1 h)) ⟨va_cnB 0 hts gX4_init_X0_init_n33 rfl rfl rfl (hK.2 (RX4, 33, yX0_init, "SongLamps") (List.mem_of_getElem? (i := 5) rfl)) iiX0 (by decide +kernel) ⟨Nat.le_of_ble_eq_true rfl, Nat.le_of_ble_eq_true rfl⟩, rfl, imX0⟩ ⟨qPrC.blind, qPrC.at hK hAO hC hsz⟩ rfl rfl hl.1 rfl (lv_room (Nat.le_of_ble_eq_true rfl)) dX4_init_44 ⟨Nat.le_of_ble_eq_true rfl, Nat.le_of_ble_eq_true rfl⟩) (fun M9 H locs hC h => ?_)
  refine yc_putr (n := 63) (k := 47) (ty := (.object "SongLamps$Lamps")) hx hb hts i_X4 tyX4 tyX4_ok nmX4 hown hin2 hK hC (by omega) (fun _ => rfl) rfl 5 (by decide) f34 rfl rfl (by decide +kernel) rfl rfl (Nat.le_of_ble_eq_true rfl) (fun _ => rfl) h dX4_init_47 (fun M10 H locs hC h => ?_)
  refine W.widen (k := 15) (n := 133) (Nat.le_of_ble_eq_true rfl) (Nat.le_of_ble_eq_true rfl) ?_
  exact W.vret hx hb hr (fun t ht _ => ⟨⟨_, rfl, qOk.s h, qHpt ht hC.1⟩, hC.2.F ht⟩) hC.2.2.2 dX4_init_50
abbrev rm_X7_init : Room := { frames := 3, cells := 74, slots := 1416, locals := 64 }
set_option maxHeartbeats 4000000 in
set_option maxRecDepth 100000 in
theorem c_X7_init (l : Launch) (G : qG) (h0 : Nat) (M : qM) {P : qM → Prop} (h : qOk (kX7_init M) P) : Met l yX7_init wsX7_init rm_X7_init (va_Pc [.ref (h0 + 0)] (qPrC (1) c1 G h0 M)) (va_Qv P (fun u t => qHp (75) c1 G (fun k => h0 + k) u t.heap) (fun q => h0 ≤ q)) 74 1416 (fun q => h0 ≤ q) := by
  refine Met.ofW (cc := cX7_init) (maxL := 2) (ret := none) (by decide) rfl ?_
  intro p e s m args below meth c s₁ B hml hv
  obtain ⟨rfl, hsz0, hK, hAO, hP⟩ := hv
  have hx := B.exec
  have hb := B.bytes
  have hr := B.returns
  have hts := atoms_spec (ws := wsX7_init) B.pre
  have hown : s.vm.findClass RX7 = some m.cls := findClass_of_methodNamed B.named
  have hlocks := B.notSynchronized
  have hin2 : meth.name = "<init>" := (name_of_methodNamed B.named B.method).1
  have h0s : h0 ≤ s.heap.size := by omega
  have hC : qHC (1) c1 G h0 M s.heap s.heap [] := ⟨hP, va_S.rf⟩
  have ol : (Cond.methodLink RX7 1 objectInit).before [.ref (h0 + 0)].toArray s = true := hts _ (by decide +kernel)
  have oi : (Cond.instanceMethod objectInit).before [.ref (h0 + 0)].toArray s = true := hts _ (by decide +kernel)
  have oc : (Cond.code objectInit ⟨#[0xb1]⟩ 1 none).before [.ref (h0 + 0)].toArray s = true := hts _ (by decide +kernel)
  have cl7 : (Cond.classLink RX7 7 RX1).before [.ref (h0 + 0)].toArray s = true := hts _ (by decide +kernel)
  have inX1 : (Cond.instantiable RX1 16).before [.ref (h0 + 0)].toArray s = true := hts _ (by decide +kernel)
  have iiX1 : (Cond.initialized RX1).before [.ref (h0 + 0)].toArray s = true := hts _ (by decide +kernel)
  have i_X1 : ∀ w ∈ wsX10, w ∈ wsX7_init := fun w hw => List.mem_cons_of_mem _ ((List.mem_append_left _ (List.mem_append_left _ (List.mem_append_left _ (List.mem_append_left _ (List.mem_append_left _ (List.mem_append_left _ (List.mem_append_left _ (List.mem_append_right _ hw)))))))))
  have imX1 : (Cond.instanceMethod yX1_init).before [.ref (h0 + 0)].toArray s = true := hts _ (by decide +kernel)
  have ml9 : (Cond.methodLink RX7 9 yX1_init).before [.ref (h0 + 0)].toArray s = true := hts _ (by decide +kernel)
  have f10 : (Cond.fieldLink RX7 10 "SongLamps" "now" "LSongLamps$Mine;").before [.ref (h0 + 0)].toArray s = true := hts _ (by decide +kernel)
  have i_X7 : ∀ w ∈ wsX70, w ∈ wsX7_init := fun w hw => List.mem_cons_of_mem _ ((List.mem_append_left _ (List.mem_append_left _ (List.mem_append_left _ (List.mem_append_left _ (List.mem_append_left _ (List.mem_append_left _ (List.mem_append_right _ hw))))))))
  have f16 : (Cond.fieldLink RX7 16 "SongLamps" "images" "[LSongLamps$Mine;").before [.ref (h0 + 0)].toArray s = true := hts _ (by decide +kernel)
  have ac_boolean : (Cond.arrayClass .boolean).before [.ref (h0 + 0)].toArray s = true := hts _ (by decide +kernel)
  have f20 : (Cond.fieldLink RX7 20 "SongLamps" "kept" "[Z").before [.ref (h0 + 0)].toArray s = true := hts _ (by decide +kernel)
  have cl24 : (Cond.classLink RX7 24 RX2).before [.ref (h0 + 0)].toArray s = true := hts _ (by decide +kernel)
  have inX2 : (Cond.instantiable RX2 7).before [.ref (h0 + 0)].toArray s = true := hts _ (by decide +kernel)
  have iiX2 : (Cond.initialized RX2).before [.ref (h0 + 0)].toArray s = true := hts _ (by decide +kernel)
  have i_X2 : ∀ w ∈ wsX20, w ∈ wsX7_init := fun w hw => List.mem_cons_of_mem _ ((List.mem_append_left _ (List.mem_append_left _ (List.mem_append_left _ (List.mem_append_left _ (List.mem_append_left _ (List.mem_append_right _ hw)))))))
  have imX2 : (Cond.instanceMethod yX2_init).before [.ref (h0 + 0)].toArray s = true := hts _ (by decide +kernel)
  have f27 : (Cond.fieldLink RX7 27 "SongLamps" "pad" "LSongLamps$Pad;").before [.ref (h0 + 0)].toArray s = true := hts _ (by decide +kernel)
  have cl31 : (Cond.classLink RX7 31 RX0).before [.ref (h0 + 0)].toArray s = true := hts _ (by decide +kernel)
  have inX0 : (Cond.instantiable RX0 3).before [.ref (h0 + 0)].toArray s = true := hts _ (by decide +kernel)
  have iiX0 : (Cond.initialized RX0).before [.ref (h0 + 0)].toArray s = true := hts _ (by decide +kernel)
  have i_X0 : ∀ w ∈ wsX00, w ∈ wsX7_init := fun w hw => List.mem_cons_of_mem _ ((List.mem_append_left _ (List.mem_append_left _ (List.mem_append_left _ (List.mem_append_left _ (List.mem_append_right _ hw))))))
  have imX0 : (Cond.instanceMethod yX0_init).before [.ref (h0 + 0)].toArray s = true := hts _ (by decide +kernel)
  have f34 : (Cond.fieldLink RX7 34 "SongLamps" "lamps" "LSongLamps$Lamps;").before [.ref (h0 + 0)].toArray s = true := hts _ (by decide +kernel)
  have cl38 : (Cond.classLink RX7 38 RX4).before [.ref (h0 + 0)].toArray s = true := hts _ (by decide +kernel)
  have inX4 : (Cond.instantiable RX4 6).before [.ref (h0 + 0)].toArray s = true := hts _ (by decide +kernel)
  have iiX4 : (Cond.initialized RX4).before [.ref (h0 + 0)].toArray s = true := hts _ (by decide +kernel)
  have i_X4 : ∀ w ∈ wsX40, w ∈ wsX7_init := fun w hw => List.mem_cons_of_mem _ ((List.mem_append_left _ (List.mem_append_left _ (List.mem_append_left _ (List.mem_append_right _ hw)))))
  have imX4 : (Cond.instanceMethod yX4_init).before [.ref (h0 + 0)].toArray s = true := hts _ (by decide +kernel)
  have f41 : (Cond.fieldLink RX7 41 "SongLamps" "trial" "LSongLamps$Trial;").before [.ref (h0 + 0)].toArray s = true := hts _ (by decide +kernel)
  have cl45 : (Cond.classLink RX7 45 RX6).before [.ref (h0 + 0)].toArray s = true := hts _ (by decide +kernel)
  have inX6 : (Cond.instantiable RX6 1).before [.ref (h0 + 0)].toArray s = true := hts _ (by decide +kernel)
  have iiX6 : (Cond.initialized RX6).before [.ref (h0 + 0)].toArray s = true := hts _ (by decide +kernel)
  have i_X6 : ∀ w ∈ wsX60, w ∈ wsX7_init := fun w hw => List.mem_cons_of_mem _ ((List.mem_append_left _ (List.mem_append_left _ (List.mem_append_right _ hw))))
  have imX6 : (Cond.instanceMethod yX6_init).before [.ref (h0 + 0)].toArray s = true := hts _ (by decide +kernel)
  have f48 : (Cond.fieldLink RX7 48 "SongLamps" "ways" "LSongLamps$Ways;").before [.ref (h0 + 0)].toArray s = true := hts _ (by decide +kernel)
  have cl52 : (Cond.classLink RX7 52 RX3).before [.ref (h0 + 0)].toArray s = true := hts _ (by decide +kernel)
  have inX3 : (Cond.instantiable RX3 5).before [.ref (h0 + 0)].toArray s = true := hts _ (by decide +kernel)
  have iiX3 : (Cond.initialized RX3).before [.ref (h0 + 0)].toArray s = true := hts _ (by decide +kernel)
  have i_X3 : ∀ w ∈ wsX30, w ∈ wsX7_init := fun w hw => List.mem_cons_of_mem _ ((List.mem_append_left _ (List.mem_append_right _ hw)))
  have imX3 : (Cond.instanceMethod yX3_init).before [.ref (h0 + 0)].toArray s = true := hts _ (by decide +kernel)
  have f55 : (Cond.fieldLink RX7 55 "SongLamps" "search" "LSongLamps$Search;").before [.ref (h0 + 0)].toArray s = true := hts _ (by decide +kernel)
  have cl59 : (Cond.classLink RX7 59 RX5).before [.ref (h0 + 0)].toArray s = true := hts _ (by decide +kernel)
  have inX5 : (Cond.instantiable RX5 5).before [.ref (h0 + 0)].toArray s = true := hts _ (by decide +kernel)
  have iiX5 : (Cond.initialized RX5).before [.ref (h0 + 0)].toArray s = true := hts _ (by decide +kernel)
  have i_X5 : ∀ w ∈ wsX50, w ∈ wsX7_init := fun w hw => List.mem_cons_of_mem _ ((List.mem_append_right _ hw))
  have imX5 : (Cond.instanceMethod yX5_init).before [.ref (h0 + 0)].toArray s = true := hts _ (by decide +kernel)
  have f62 : (Cond.fieldLink RX7 62 "SongLamps" "turns" "LSongLamps$Turns;").before [.ref (h0 + 0)].toArray s = true := hts _ (by decide +kernel)
  have hl := lv_entry ([.ref (h0 + 0)]) (n := 2) (Nat.le_of_ble_eq_true rfl)
  rw [lg_entry_eq]
  generalize (lg_sl ([.ref (h0 + 0)]) ++ List.replicate (2 - (lg_sl ([.ref (h0 + 0)])).length) Slot.unset).toArray = ls at hl ⊢
  have hl : lv_has ls 2 [(0, .ref (h0 + 0))] := hl
  unfold kX7_init at h
  refine lv_aload_n hx hb dX7_init_0 rfl (lv_at hl 0 rfl) ?_
  refine W.objInit hx hb hown ol oi oc rfl (by rw [hml]; exact hl.1) rfl dX7_init_1 (Nat.le_of_ble_eq_true rfl) (Nat.le_of_ble_eq_true rfl) ?_
  refine W.eq (g2 := F0 m 4 ls []) rfl ?_
  refine lv_aload_n hx hb dX7_init_4 rfl (lv_at hl 0 rfl) ?_
  refine yc_new (n := 1) (ci := 1) (fs := [.null, .null, .null, .int 0, .int 0, .int 0, .int 0, .int 0, .null, .null, .null, .null, .null, .null, .null, .null]) hx hb hts i_X1 tyX1 tyX1_ok hown cl7 inX1 iiX1 hK hC h0s (by omega) rfl rfl (by decide +kernel) (Nat.le_of_ble_eq_true rfl) (Nat.le_of_ble_eq_true rfl) h dX7_init_5 (fun M1 H hC h => ?_)
  refine lv_dup hx hb dX7_init_8 rfl ?_
  refine qW_size (fun hsz => ?_)
  have hsz : H.size = h0 + 2 := qC_size hC (by omega) (by omega) hsz
  refine yc_cv (n := 2) (n' := 13) (mc := 11) (ms := 94) hC (fun _ h => h) (fun _ h => h) (va_runI (As := []) (rest := [.ref (h0 + 1), .ref (h0 + 0)]) ⟨hx, hb, hml, hown, hts⟩ (c_X1_init l G h0 M1 qMi_1 (qOk.b1 h)) (cwI 0 hts gX7_init_X1_init rfl rfl rfl iiX1 ml9 imX1 rfl (by decide +kernel) ⟨Nat.le_of_ble_eq_true rfl, Nat.le_of_ble_eq_true rfl⟩) ⟨qPrC.blind, qPrC.at hK hAO hC hsz⟩ rfl rfl hl.1 rfl (lv_room (Nat.le_of_ble_eq_true rfl)) dX7_init_9 ⟨Nat.le_of_ble_eq_true rfl, Nat.le_of_ble_eq_true rfl⟩) (fun M2 H locs hC h => ?_)
  refine yc_putr (n := 13) (k := 0) (ty := (.object "SongLamps$Mine")) hx hb hts i_X7 tyX7 tyX7_ok nmX7 hown hin2 hK hC (by omega) (fun _ => rfl) rfl 0 (by decide) f10 rfl rfl (by decide +kernel) rfl rfl (Nat.le_of_ble_eq_true rfl) (fun _ => rfl) h dX7_init_12 (fun M3 H locs hC h => ?_)
  refine lv_aload_n hx hb dX7_init_15 rfl (lv_at hl 0 rfl) ?_
  refine lv_iconst (v := 2) hx hb dX7_init_16 (by decide) ?_
  refine yc_newq (n := 13) (len := 2) hx hb hown cl7 hAO hK hC h0s (by omega) (by decide) (by decide) (by decide) (Nat.le_of_ble_eq_true rfl) (Nat.le_of_ble_eq_true rfl) rfl h dX7_init_17 (fun M4 H hC h => ?_)
  refine yc_putr (n := 14) (k := 0) (ty := (.array (.object "SongLamps$Mine"))) hx hb hts i_X7 tyX7 tyX7_ok nmX7 hown hin2 hK hC (by omega) (fun _ => rfl) rfl 1 (by decide) f16 rfl rfl (by decide +kernel) rfl rfl (Nat.le_of_ble_eq_true rfl) (fun _ => rfl) h dX7_init_20 (fun M5 H locs hC h => ?_)
  refine lv_iconst (v := 0) hx hb dX7_init_23 (by decide) ?_
  refine lv_istore_n (lv' := [(1, .int 0), (0, .ref (h0 + 0))]) hx hb dX7_init_24 rfl hl (by decide) rfl (fun ls hl => ?_)
  refine lv_iload_n hx hb dX7_init_25 rfl (lv_at hl 0 rfl) ?_
  refine lv_iconst (v := 2) hx hb dX7_init_26 (by decide) ?_
  refine lv_icmp_ge (tgt := 49) hx hb dX7_init_27 (by decide) (fun c => absurd c (by decide)) (fun _ => ?_)
  refine lv_aload_n hx hb dX7_init_30 rfl (lv_at hl 1 rfl) ?_
  refine yc_getr (n := 14) (k := 0) (a := h0 + 13) hx hb hts i_X7 hown hK hC (by omega) (fun _ => rfl) rfl 1 (by decide) f16 rfl h dX7_init_31 (fun h => ?_)
  refine lv_iload_n hx hb dX7_init_34 rfl (lv_at hl 0 rfl) ?_
  refine yc_new (n := 14) (ci := 1) (fs := [.null, .null, .null, .int 0, .int 0, .int 0, .int 0, .int 0, .null, .null, .null, .null, .null, .null, .null, .null]) hx hb hts i_X1 tyX1 tyX1_ok hown cl7 inX1 iiX1 hK hC h0s (by omega) rfl rfl (by decide +kernel) (Nat.le_of_ble_eq_true rfl) (Nat.le_of_ble_eq_true rfl) h dX7_init_35 (fun M6 H hC h => ?_)
  refine lv_dup hx hb dX7_init_38 rfl ?_
  refine qW_size (fun hsz => ?_)
  have hsz : H.size = h0 + 15 := qC_size hC (by omega) (by omega) hsz
  refine yc_cv (n := 15) (n' := 26) (mc := 11) (ms := 94) hC (fun _ h => h) (fun _ h => h) (va_runI (As := []) (rest := [.ref (h0 + 14), .int 0, .ref (h0 + 13)]) ⟨hx, hb, hml, hown, hts⟩ (c_X1_init l G h0 M6 qMi_14 (qOk.b1 h)) (cwI 0 hts gX7_init_X1_init rfl rfl rfl iiX1 ml9 imX1 rfl (by decide +kernel) ⟨Nat.le_of_ble_eq_true rfl, Nat.le_of_ble_eq_true rfl⟩) ⟨qPrC.blind, qPrC.at hK hAO hC hsz⟩ rfl rfl hl.1 rfl (lv_room (Nat.le_of_ble_eq_true rfl)) dX7_init_39 ⟨Nat.le_of_ble_eq_true rfl, Nat.le_of_ble_eq_true rfl⟩) (fun M7 H locs hC h => ?_)
  refine yc_aast (n := 26) (v := 14) (j := 0) hx hb hK hC (by omega) (by omega) qMi_14 rfl rfl (by decide) h dX7_init_42 (fun M8 H locs hC h => ?_)
  refine lv_iinc (v := 1) (lv' := [(1, .int 1), (0, .ref (h0 + 0))]) hx hb dX7_init_43 hl (k := 0) rfl (by decide) (by decide) rfl (fun ls hl => ?_)
  refine lv_goto (tgt := 25) hx hb dX7_init_46 (by decide) ?_
  refine lv_iload_n hx hb dX7_init_25 rfl (lv_at hl 0 rfl) ?_
  refine lv_iconst (v := 2) hx hb dX7_init_26 (by decide) ?_
  refine lv_icmp_ge (tgt := 49) hx hb dX7_init_27 (by decide) (fun c => absurd c (by decide)) (fun _ => ?_)
  refine lv_aload_n hx hb dX7_init_30 rfl (lv_at hl 1 rfl) ?_
  refine yc_getr (n := 26) (k := 0) (a := h0 + 13) hx hb hts i_X7 hown hK hC (by omega) (fun _ => rfl) rfl 1 (by decide) f16 rfl h dX7_init_31 (fun h => ?_)
  refine lv_iload_n hx hb dX7_init_34 rfl (lv_at hl 0 rfl) ?_
  refine yc_new (n := 26) (ci := 1) (fs := [.null, .null, .null, .int 0, .int 0, .int 0, .int 0, .int 0, .null, .null, .null, .null, .null, .null, .null, .null]) hx hb hts i_X1 tyX1 tyX1_ok hown cl7 inX1 iiX1 hK hC h0s (by omega) rfl rfl (by decide +kernel) (Nat.le_of_ble_eq_true rfl) (Nat.le_of_ble_eq_true rfl) h dX7_init_35 (fun M9 H hC h => ?_)
  refine lv_dup hx hb dX7_init_38 rfl ?_
  refine qW_size (fun hsz => ?_)
  have hsz : H.size = h0 + 27 := qC_size hC (by omega) (by omega) hsz
  refine yc_cv (n := 27) (n' := 38) (mc := 11) (ms := 94) hC (fun _ h => h) (fun _ h => h) (va_runI (As := []) (rest := [.ref (h0 + 26), .int 1, .ref (h0 + 13)]) ⟨hx, hb, hml, hown, hts⟩ (c_X1_init l G h0 M9 qMi_26 (qOk.b1 h)) (cwI 0 hts gX7_init_X1_init rfl rfl rfl iiX1 ml9 imX1 rfl (by decide +kernel) ⟨Nat.le_of_ble_eq_true rfl, Nat.le_of_ble_eq_true rfl⟩) ⟨qPrC.blind, qPrC.at hK hAO hC hsz⟩ rfl rfl hl.1 rfl (lv_room (Nat.le_of_ble_eq_true rfl)) dX7_init_39 ⟨Nat.le_of_ble_eq_true rfl, Nat.le_of_ble_eq_true rfl⟩) (fun M10 H locs hC h => ?_)
  refine yc_aast (n := 38) (v := 26) (j := 1) hx hb hK hC (by omega) (by omega) qMi_26 rfl rfl (by decide) h dX7_init_42 (fun M11 H locs hC h => ?_)
  refine lv_iinc (v := 2) (lv' := [(1, .int 2), (0, .ref (h0 + 0))]) hx hb dX7_init_43 hl (k := 0) rfl (by decide) (by decide) rfl (fun ls hl => ?_)
  refine lv_goto (tgt := 25) hx hb dX7_init_46 (by decide) ?_
  refine lv_iload_n hx hb dX7_init_25 rfl (lv_at hl 0 rfl) ?_
  refine lv_iconst (v := 2) hx hb dX7_init_26 (by decide) ?_
  refine lv_icmp_ge (tgt := 49) hx hb dX7_init_27 (by decide) (fun _ => ?_) (fun c => absurd (by decide) c)
  refine lv_aload_n hx hb dX7_init_49 rfl (lv_at hl 1 rfl) ?_
  refine lv_iconst (v := 2) hx hb dX7_init_50 (by decide) ?_
  refine yc_newa (n := 38) (atype := .boolean) (len := 2) hx hb ac_boolean rfl hK hC h0s (by omega) (fun _ => rfl) (by decide) (by decide) (by decide) (Nat.le_of_ble_eq_true rfl) (Nat.le_of_ble_eq_true rfl) (fun a cB b => Option.some.inj (b.symm.trans a)) (hK.1.2 1 _ rfl).2 rfl h dX7_init_51 (fun M12 H hC h => ?_)
  refine yc_putr (n := 39) (k := 0) (ty := (.array .boolean)) hx hb hts i_X7 tyX7 tyX7_ok nmX7 hown hin2 hK hC (by omega) (fun _ => rfl) rfl 2 (by decide) f20 rfl rfl (by decide +kernel) rfl rfl (Nat.le_of_ble_eq_true rfl) (fun _ => rfl) h dX7_init_53 (fun M13 H locs hC h => ?_)
  refine lv_aload_n hx hb dX7_init_56 rfl (lv_at hl 1 rfl) ?_
  refine yc_new (n := 39) (ci := 2) (fs := [.null, .int 0, .null, .null, .null, .int 0, .int 0]) hx hb hts i_X2 tyX2 tyX2_ok hown cl24 inX2 iiX2 hK hC h0s (by omega) rfl rfl (by decide +kernel) (Nat.le_of_ble_eq_true rfl) (Nat.le_of_ble_eq_true rfl) h dX7_init_57 (fun M14 H hC h => ?_)
  refine lv_dup hx hb dX7_init_60 rfl ?_
  refine qW_size (fun hsz => ?_)
  have hsz : H.size = h0 + 40 := qC_size hC (by omega) (by omega) hsz
  refine yc_cv (n := 40) (n' := 44) (mc := 4) (ms := 240) hC (fun _ h => h) (fun _ h => h) (va_runIN (host := "SongLamps") (As := []) (rest := [.ref (h0 + 39), .ref (h0 + 0)]) ⟨hx, hb, hml, hown, hts⟩ (c_X2_init l G h0 M14 (qOk.b1 h)) ⟨va_cnB 0 hts gX7_init_X2_init_n26 rfl rfl rfl (hK.2 (RX7, 26, yX2_init, "SongLamps") (List.mem_of_getElem? (i := 9) rfl)) iiX2 (by decide +kernel) ⟨Nat.le_of_ble_eq_true rfl, Nat.le_of_ble_eq_true rfl⟩, rfl, imX2⟩ ⟨qPrC.blind, qPrC.at hK hAO hC hsz⟩ rfl rfl hl.1 rfl (lv_room (Nat.le_of_ble_eq_true rfl)) dX7_init_61 ⟨Nat.le_of_ble_eq_true rfl, Nat.le_of_ble_eq_true rfl⟩) (fun M15 H locs hC h => ?_)
  refine yc_putr (n := 44) (k := 0) (ty := (.object "SongLamps$Pad")) hx hb hts i_X7 tyX7 tyX7_ok nmX7 hown hin2 hK hC (by omega) (fun _ => rfl) rfl 3 (by decide) f27 rfl rfl (by decide +kernel) rfl rfl (Nat.le_of_ble_eq_true rfl) (fun _ => rfl) h dX7_init_64 (fun M16 H locs hC h => ?_)
  refine lv_aload_n hx hb dX7_init_67 rfl (lv_at hl 1 rfl) ?_
  refine yc_new (n := 44) (ci := 0) (fs := [.null, .null, .int 0]) hx hb hts i_X0 tyX0 tyX0_ok hown cl31 inX0 iiX0 hK hC h0s (by omega) rfl rfl (by decide +kernel) (Nat.le_of_ble_eq_true rfl) (Nat.le_of_ble_eq_true rfl) h dX7_init_68 (fun M17 H hC h => ?_)
  refine lv_dup hx hb dX7_init_71 rfl ?_
  refine qW_size (fun hsz => ?_)
  have hsz : H.size = h0 + 45 := qC_size hC (by omega) (by omega) hsz
  refine yc_cv (n := 45) (n' := 47) (mc := 2) (ms := 20) hC (fun _ h => h) (fun _ h => h) (va_runIN (host := "SongLamps") (As := []) (rest := [.ref (h0 + 44), .ref (h0 + 0)]) ⟨hx, hb, hml, hown, hts⟩ (c_X0_init l G h0 M17 qLa_44 (qOk.b1 h)) ⟨va_cnB 0 hts gX7_init_X0_init_n33 rfl rfl rfl (hK.2 (RX7, 33, yX0_init, "SongLamps") (List.mem_of_getElem? (i := 10) rfl)) iiX0 (by decide +kernel) ⟨Nat.le_of_ble_eq_true rfl, Nat.le_of_ble_eq_true rfl⟩, rfl, imX0⟩ ⟨qPrC.blind, qPrC.at hK hAO hC hsz⟩ rfl rfl hl.1 rfl (lv_room (Nat.le_of_ble_eq_true rfl)) dX7_init_72 ⟨Nat.le_of_ble_eq_true rfl, Nat.le_of_ble_eq_true rfl⟩) (fun M18 H locs hC h => ?_)
  refine yc_putr (n := 47) (k := 0) (ty := (.object "SongLamps$Lamps")) hx hb hts i_X7 tyX7 tyX7_ok nmX7 hown hin2 hK hC (by omega) (fun _ => rfl) rfl 4 (by decide) f34 rfl rfl (by decide +kernel) rfl rfl (Nat.le_of_ble_eq_true rfl) (fun _ => rfl) h dX7_init_75 (fun M19 H locs hC h => ?_)
  refine lv_aload_n hx hb dX7_init_78 rfl (lv_at hl 1 rfl) ?_
  refine yc_new (n := 47) (ci := 4) (fs := [.null, .int 0, .int 0, .int 0, .int 0, .null]) hx hb hts i_X4 tyX4 tyX4_ok hown cl38 inX4 iiX4 hK hC h0s (by omega) rfl rfl (by decide +kernel) (Nat.le_of_ble_eq_true rfl) (Nat.le_of_ble_eq_true rfl) h dX7_init_79 (fun M20 H hC h => ?_)
  refine lv_dup hx hb dX7_init_82 rfl ?_
  refine qW_size (fun hsz => ?_)
  have hsz : H.size = h0 + 48 := qC_size hC (by omega) (by omega) hsz
  refine yc_cv (n := 48) (n' := 63) (mc := 15) (ms := 133) hC (fun _ h => h) (fun _ h => h) (va_runIN (host := "SongLamps") (As := []) (rest := [.ref (h0 + 47), .ref (h0 + 0)]) ⟨hx, hb, hml, hown, hts⟩ (c_X4_init l G h0 M20 (qOk.b1 h)) ⟨va_cnB 0 hts gX7_init_X4_init_n40 rfl rfl rfl (hK.2 (RX7, 40, yX4_init, "SongLamps") (List.mem_of_getElem? (i := 11) rfl)) iiX4 (by decide +kernel) ⟨Nat.le_of_ble_eq_true rfl, Nat.le_of_ble_eq_true rfl⟩, rfl, imX4⟩ ⟨qPrC.blind, qPrC.at hK hAO hC hsz⟩ rfl rfl hl.1 rfl (lv_room (Nat.le_of_ble_eq_true rfl)) dX7_init_83 ⟨Nat.le_of_ble_eq_true rfl, Nat.le_of_ble_eq_true rfl⟩) (fun M21 H locs hC h => ?_)
  refine yc_putr (n := 63) (k := 0) (ty := (.object "SongLamps$Trial")) hx hb hts i_X7 tyX7 tyX7_ok nmX7 hown hin2 hK hC (by omega) (fun _ => rfl) rfl 5 (by decide) f41 rfl rfl (by decide +kernel) rfl rfl (Nat.le_of_ble_eq_true rfl) (fun _ => rfl) h dX7_init_86 (fun M22 H locs hC h => ?_)
  refine lv_aload_n hx hb dX7_init_89 rfl (lv_at hl 1 rfl) ?_
  refine yc_new (n := 63) (ci := 6) (fs := [.null]) hx hb hts i_X6 tyX6 tyX6_ok hown cl45 inX6 iiX6 hK hC h0s (by omega) rfl rfl (by decide +kernel) (Nat.le_of_ble_eq_true rfl) (Nat.le_of_ble_eq_true rfl) h dX7_init_90 (fun M23 H hC h => ?_)
  refine lv_dup hx hb dX7_init_93 rfl ?_
  refine qW_size (fun hsz => ?_)
  have hsz : H.size = h0 + 64 := qC_size hC (by omega) (by omega) hsz
  refine yc_cv (n := 64) (n' := 65) (mc := 1) (ms := 10) hC (fun _ h => h) (fun _ h => h) (va_runIN (host := "SongLamps") (As := []) (rest := [.ref (h0 + 63), .ref (h0 + 0)]) ⟨hx, hb, hml, hown, hts⟩ (c_X6_init l G h0 M23 qWy_63 (qOk.b1 h)) ⟨va_cnB 0 hts gX7_init_X6_init_n47 rfl rfl rfl (hK.2 (RX7, 47, yX6_init, "SongLamps") (List.mem_of_getElem? (i := 12) rfl)) iiX6 (by decide +kernel) ⟨Nat.le_of_ble_eq_true rfl, Nat.le_of_ble_eq_true rfl⟩, rfl, imX6⟩ ⟨qPrC.blind, qPrC.at hK hAO hC hsz⟩ rfl rfl hl.1 rfl (lv_room (Nat.le_of_ble_eq_true rfl)) dX7_init_94 ⟨Nat.le_of_ble_eq_true rfl, Nat.le_of_ble_eq_true rfl⟩) (fun M24 H locs hC h => ?_)
  refine yc_putr (n := 65) (k := 0) (ty := (.object "SongLamps$Ways")) hx hb hts i_X7 tyX7 tyX7_ok nmX7 hown hin2 hK hC (by omega) (fun _ => rfl) rfl 6 (by decide) f48 rfl rfl (by decide +kernel) rfl rfl (Nat.le_of_ble_eq_true rfl) (fun _ => rfl) h dX7_init_97 (fun M25 H locs hC h => ?_)
  refine lv_aload_n hx hb dX7_init_100 rfl (lv_at hl 1 rfl) ?_
  refine yc_new (n := 65) (ci := 3) (fs := [.null, .null, .null, .int 0, .int 0]) hx hb hts i_X3 tyX3 tyX3_ok hown cl52 inX3 iiX3 hK hC h0s (by omega) rfl rfl (by decide +kernel) (Nat.le_of_ble_eq_true rfl) (Nat.le_of_ble_eq_true rfl) h dX7_init_101 (fun M26 H hC h => ?_)
  refine lv_dup hx hb dX7_init_104 rfl ?_
  refine qW_size (fun hsz => ?_)
  have hsz : H.size = h0 + 66 := qC_size hC (by omega) (by omega) hsz
  refine yc_cv (n := 66) (n' := 70) (mc := 4) (ms := 46) hC (fun _ h => h) (fun _ h => h) (va_runIN (host := "SongLamps") (As := []) (rest := [.ref (h0 + 65), .ref (h0 + 0)]) ⟨hx, hb, hml, hown, hts⟩ (c_X3_init l G h0 M26 (qOk.b1 h)) ⟨va_cnB 0 hts gX7_init_X3_init_n54 rfl rfl rfl (hK.2 (RX7, 54, yX3_init, "SongLamps") (List.mem_of_getElem? (i := 13) rfl)) iiX3 (by decide +kernel) ⟨Nat.le_of_ble_eq_true rfl, Nat.le_of_ble_eq_true rfl⟩, rfl, imX3⟩ ⟨qPrC.blind, qPrC.at hK hAO hC hsz⟩ rfl rfl hl.1 rfl (lv_room (Nat.le_of_ble_eq_true rfl)) dX7_init_105 ⟨Nat.le_of_ble_eq_true rfl, Nat.le_of_ble_eq_true rfl⟩) (fun M27 H locs hC h => ?_)
  refine yc_putr (n := 70) (k := 0) (ty := (.object "SongLamps$Search")) hx hb hts i_X7 tyX7 tyX7_ok nmX7 hown hin2 hK hC (by omega) (fun _ => rfl) rfl 7 (by decide) f55 rfl rfl (by decide +kernel) rfl rfl (Nat.le_of_ble_eq_true rfl) (fun _ => rfl) h dX7_init_108 (fun M28 H locs hC h => ?_)
  refine lv_aload_n hx hb dX7_init_111 rfl (lv_at hl 1 rfl) ?_
  refine yc_new (n := 70) (ci := 5) (fs := [.null, .null, .null, .null, .int 0]) hx hb hts i_X5 tyX5 tyX5_ok hown cl59 inX5 iiX5 hK hC h0s (by omega) rfl rfl (by decide +kernel) (Nat.le_of_ble_eq_true rfl) (Nat.le_of_ble_eq_true rfl) h dX7_init_112 (fun M29 H hC h => ?_)
  refine lv_dup hx hb dX7_init_115 rfl ?_
  refine qW_size (fun hsz => ?_)
  have hsz : H.size = h0 + 71 := qC_size hC (by omega) (by omega) hsz
  refine yc_cv (n := 71) (n' := 75) (mc := 4) (ms := 606) hC (fun _ h => h) (fun _ h => h) (va_runIN (host := "SongLamps") (As := []) (rest := [.ref (h0 + 70), .ref (h0 + 0)]) ⟨hx, hb, hml, hown, hts⟩ (c_X5_init l G h0 M29 (qOk.b1 h)) ⟨va_cnB 0 hts gX7_init_X5_init_n61 rfl rfl rfl (hK.2 (RX7, 61, yX5_init, "SongLamps") (List.mem_of_getElem? (i := 14) rfl)) iiX5 (by decide +kernel) ⟨Nat.le_of_ble_eq_true rfl, Nat.le_of_ble_eq_true rfl⟩, rfl, imX5⟩ ⟨qPrC.blind, qPrC.at hK hAO hC hsz⟩ rfl rfl hl.1 rfl (lv_room (Nat.le_of_ble_eq_true rfl)) dX7_init_116 ⟨Nat.le_of_ble_eq_true rfl, Nat.le_of_ble_eq_true rfl⟩) (fun M30 H locs hC h => ?_)
  refine yc_putr (n := 75) (k := 0) (ty := (.object "SongLamps$Turns")) hx hb hts i_X7 tyX7 tyX7_ok nmX7 hown hin2 hK hC (by omega) (fun _ => rfl) rfl 8 (by decide) f62 rfl rfl (by decide +kernel) rfl rfl (Nat.le_of_ble_eq_true rfl) (fun _ => rfl) h dX7_init_119 (fun M31 H locs hC h => ?_)
  refine W.widen (k := 74) (n := 1416) (Nat.le_of_ble_eq_true rfl) (Nat.le_of_ble_eq_true rfl) ?_
  exact W.vret hx hb hr (fun t ht _ => ⟨⟨_, rfl, qOk.s h, qHpt ht hC.1⟩, hC.2.F ht⟩) hC.2.2.2 dX7_init_122
abbrev rm_X8_init : Room := { frames := 1, cells := 16, slots := 10559, locals := 12 }
set_option maxHeartbeats 4000000 in
set_option maxRecDepth 100000 in
theorem c_X8_init (l : Launch) (G : qG) (h0 : Nat) (M : qM) {P : qM → Prop} (h : qOk (kX8_init M) P) : Met l yX8_init wsX8_init rm_X8_init (va_Pc [.ref (h0 + 0)] (qPrC (1) c2 G h0 M)) (va_Qv P (fun u t => qHp (17) c2 G (fun k => h0 + k) u t.heap) (fun q => h0 ≤ q)) 16 10559 (fun q => h0 ≤ q) := by
  refine Met.ofW (cc := cX8_init) (maxL := 2) (ret := none) (by decide) rfl ?_
  intro p e s m args below meth c s₁ B hml hv
  obtain ⟨rfl, hsz0, hK, hAO, hP⟩ := hv
  have hx := B.exec
  have hb := B.bytes
  have hr := B.returns
  have hts := atoms_spec (ws := wsX8_init) B.pre
  have hown : s.vm.findClass RX8 = some m.cls := findClass_of_methodNamed B.named
  have hlocks := B.notSynchronized
  have hin2 : meth.name = "<init>" := (name_of_methodNamed B.named B.method).1
  have h0s : h0 ≤ s.heap.size := by omega
  have hC : qHC (1) c2 G h0 M s.heap s.heap [] := ⟨hP, va_S.rf⟩
  have ol : (Cond.methodLink RX8 1 objectInit).before [.ref (h0 + 0)].toArray s = true := hts _ (by decide +kernel)
  have oi : (Cond.instanceMethod objectInit).before [.ref (h0 + 0)].toArray s = true := hts _ (by decide +kernel)
  have oc : (Cond.code objectInit ⟨#[0xb1]⟩ 1 none).before [.ref (h0 + 0)].toArray s = true := hts _ (by decide +kernel)
  have ac_int : (Cond.arrayClass .int).before [.ref (h0 + 0)].toArray s = true := hts _ (by decide +kernel)
  have f7 : (Cond.fieldLink RX8 7 "SongLampsModel" "book" "[I").before [.ref (h0 + 0)].toArray s = true := hts _ (by decide +kernel)
  have i_X8 : ∀ w ∈ wsX80, w ∈ wsX8_init := fun w hw => List.mem_cons_of_mem _ ((List.mem_append_right _ hw))
  have f13 : (Cond.fieldLink RX8 13 "SongLampsModel" "now" "[I").before [.ref (h0 + 0)].toArray s = true := hts _ (by decide +kernel)
  have f16 : (Cond.fieldLink RX8 16 "SongLampsModel" "low" "[I").before [.ref (h0 + 0)].toArray s = true := hts _ (by decide +kernel)
  have f19 : (Cond.fieldLink RX8 19 "SongLampsModel" "high" "[I").before [.ref (h0 + 0)].toArray s = true := hts _ (by decide +kernel)
  have f22 : (Cond.fieldLink RX8 22 "SongLampsModel" "lungs" "[I").before [.ref (h0 + 0)].toArray s = true := hts _ (by decide +kernel)
  have f25 : (Cond.fieldLink RX8 25 "SongLampsModel" "passages" "[I").before [.ref (h0 + 0)].toArray s = true := hts _ (by decide +kernel)
  have f28 : (Cond.fieldLink RX8 28 "SongLampsModel" "echo" "[I").before [.ref (h0 + 0)].toArray s = true := hts _ (by decide +kernel)
  have f31 : (Cond.fieldLink RX8 31 "SongLampsModel" "sight" "[I").before [.ref (h0 + 0)].toArray s = true := hts _ (by decide +kernel)
  have f34 : (Cond.fieldLink RX8 34 "SongLampsModel" "pad" "[I").before [.ref (h0 + 0)].toArray s = true := hts _ (by decide +kernel)
  have f37 : (Cond.fieldLink RX8 37 "SongLampsModel" "bright" "[I").before [.ref (h0 + 0)].toArray s = true := hts _ (by decide +kernel)
  have f40 : (Cond.fieldLink RX8 40 "SongLampsModel" "far" "[I").before [.ref (h0 + 0)].toArray s = true := hts _ (by decide +kernel)
  have ac_boolean : (Cond.arrayClass .boolean).before [.ref (h0 + 0)].toArray s = true := hts _ (by decide +kernel)
  have f43 : (Cond.fieldLink RX8 43 "SongLampsModel" "comes" "[Z").before [.ref (h0 + 0)].toArray s = true := hts _ (by decide +kernel)
  have f47 : (Cond.fieldLink RX8 47 "SongLampsModel" "apart" "[I").before [.ref (h0 + 0)].toArray s = true := hts _ (by decide +kernel)
  have f50 : (Cond.fieldLink RX8 50 "SongLampsModel" "counts" "[I").before [.ref (h0 + 0)].toArray s = true := hts _ (by decide +kernel)
  have f53 : (Cond.fieldLink RX8 53 "SongLampsModel" "image" "[I").before [.ref (h0 + 0)].toArray s = true := hts _ (by decide +kernel)
  have f56 : (Cond.fieldLink RX8 56 "SongLampsModel" "isKept" "[Z").before [.ref (h0 + 0)].toArray s = true := hts _ (by decide +kernel)
  have hl := lv_entry ([.ref (h0 + 0)]) (n := 2) (Nat.le_of_ble_eq_true rfl)
  rw [lg_entry_eq]
  generalize (lg_sl ([.ref (h0 + 0)]) ++ List.replicate (2 - (lg_sl ([.ref (h0 + 0)])).length) Slot.unset).toArray = ls at hl ⊢
  have hl : lv_has ls 2 [(0, .ref (h0 + 0))] := hl
  unfold kX8_init at h
  refine lv_aload_n hx hb dX8_init_0 rfl (lv_at hl 0 rfl) ?_
  refine W.objInit hx hb hown ol oi oc rfl (by rw [hml]; exact hl.1) rfl dX8_init_1 (Nat.le_of_ble_eq_true rfl) (Nat.le_of_ble_eq_true rfl) ?_
  refine W.eq (g2 := F0 m 4 ls []) rfl ?_
  refine lv_aload_n hx hb dX8_init_4 rfl (lv_at hl 0 rfl) ?_
  refine lv_bipush (v := 36) hx hb dX8_init_5 (by decide) ?_
  refine yc_newa (n := 1) (atype := .int) (len := 36) hx hb ac_int rfl hK hC h0s (by omega) (fun _ => rfl) (by decide) (by decide) (by decide) (Nat.le_of_ble_eq_true rfl) (Nat.le_of_ble_eq_true rfl) (fun a cB b => Option.some.inj (b.symm.trans a)) (hK.1.2 0 _ rfl).2 rfl h dX8_init_7 (fun M1 H hC h => ?_)
  refine yc_putr (n := 2) (k := 0) (ty := (.array .int)) hx hb hts i_X8 tyX8 tyX8_ok nmX8 hown hin2 hK hC (by omega) (fun _ => rfl) rfl 0 (by decide) f7 rfl rfl (by decide +kernel) rfl rfl (Nat.le_of_ble_eq_true rfl) (fun _ => rfl) h dX8_init_9 (fun M2 H locs hC h => ?_)
  refine lv_aload_n hx hb dX8_init_12 rfl (lv_at hl 0 rfl) ?_
  refine lv_bipush (v := 36) hx hb dX8_init_13 (by decide) ?_
  refine yc_newa (n := 2) (atype := .int) (len := 36) hx hb ac_int rfl hK hC h0s (by omega) (fun _ => rfl) (by decide) (by decide) (by decide) (Nat.le_of_ble_eq_true rfl) (Nat.le_of_ble_eq_true rfl) (fun a cB b => Option.some.inj (b.symm.trans a)) (hK.1.2 0 _ rfl).2 rfl h dX8_init_15 (fun M3 H hC h => ?_)
  refine yc_putr (n := 3) (k := 0) (ty := (.array .int)) hx hb hts i_X8 tyX8 tyX8_ok nmX8 hown hin2 hK hC (by omega) (fun _ => rfl) rfl 1 (by decide) f13 rfl rfl (by decide +kernel) rfl rfl (Nat.le_of_ble_eq_true rfl) (fun _ => rfl) h dX8_init_17 (fun M4 H locs hC h => ?_)
  refine lv_aload_n hx hb dX8_init_20 rfl (lv_at hl 0 rfl) ?_
  refine lv_bipush (v := 8) hx hb dX8_init_21 (by decide) ?_
  refine yc_newa (n := 3) (atype := .int) (len := 8) hx hb ac_int rfl hK hC h0s (by omega) (fun _ => rfl) (by decide) (by decide) (by decide) (Nat.le_of_ble_eq_true rfl) (Nat.le_of_ble_eq_true rfl) (fun a cB b => Option.some.inj (b.symm.trans a)) (hK.1.2 0 _ rfl).2 rfl h dX8_init_23 (fun M5 H hC h => ?_)
  refine yc_putr (n := 4) (k := 0) (ty := (.array .int)) hx hb hts i_X8 tyX8 tyX8_ok nmX8 hown hin2 hK hC (by omega) (fun _ => rfl) rfl 3 (by decide) f16 rfl rfl (by decide +kernel) rfl rfl (Nat.le_of_ble_eq_true rfl) (fun _ => rfl) h dX8_init_25 (fun M6 H locs hC h => ?_)
  refine lv_aload_n hx hb dX8_init_28 rfl (lv_at hl 0 rfl) ?_
  refine lv_bipush (v := 8) hx hb dX8_init_29 (by decide) ?_
  refine yc_newa (n := 4) (atype := .int) (len := 8) hx hb ac_int rfl hK hC h0s (by omega) (fun _ => rfl) (by decide) (by decide) (by decide) (Nat.le_of_ble_eq_true rfl) (Nat.le_of_ble_eq_true rfl) (fun a cB b => Option.some.inj (b.symm.trans a)) (hK.1.2 0 _ rfl).2 rfl h dX8_init_31 (fun M7 H hC h => ?_)
  refine yc_putr (n := 5) (k := 0) (ty := (.array .int)) hx hb hts i_X8 tyX8 tyX8_ok nmX8 hown hin2 hK hC (by omega) (fun _ => rfl) rfl 4 (by decide) f19 rfl rfl (by decide +kernel) rfl rfl (Nat.le_of_ble_eq_true rfl) (fun _ => rfl) h dX8_init_33 (fun M8 H locs hC h => ?_)
  refine lv_aload_n hx hb dX8_init_36 rfl (lv_at hl 0 rfl) ?_
  refine lv_bipush (v := 8) hx hb dX8_init_37 (by decide) ?_
  refine yc_newa (n := 5) (atype := .int) (len := 8) hx hb ac_int rfl hK hC h0s (by omega) (fun _ => rfl) (by decide) (by decide) (by decide) (Nat.le_of_ble_eq_true rfl) (Nat.le_of_ble_eq_true rfl) (fun a cB b => Option.some.inj (b.symm.trans a)) (hK.1.2 0 _ rfl).2 rfl h dX8_init_39 (fun M9 H hC h => ?_)
  refine yc_putr (n := 6) (k := 0) (ty := (.array .int)) hx hb hts i_X8 tyX8 tyX8_ok nmX8 hown hin2 hK hC (by omega) (fun _ => rfl) rfl 5 (by decide) f22 rfl rfl (by decide +kernel) rfl rfl (Nat.le_of_ble_eq_true rfl) (fun _ => rfl) h dX8_init_41 (fun M10 H locs hC h => ?_)
  refine lv_aload_n hx hb dX8_init_44 rfl (lv_at hl 0 rfl) ?_
  refine lv_bipush (v := 10) hx hb dX8_init_45 (by decide) ?_
  refine yc_newa (n := 6) (atype := .int) (len := 10) hx hb ac_int rfl hK hC h0s (by omega) (fun _ => rfl) (by decide) (by decide) (by decide) (Nat.le_of_ble_eq_true rfl) (Nat.le_of_ble_eq_true rfl) (fun a cB b => Option.some.inj (b.symm.trans a)) (hK.1.2 0 _ rfl).2 rfl h dX8_init_47 (fun M11 H hC h => ?_)
  refine yc_putr (n := 7) (k := 0) (ty := (.array .int)) hx hb hts i_X8 tyX8 tyX8_ok nmX8 hown hin2 hK hC (by omega) (fun _ => rfl) rfl 6 (by decide) f25 rfl rfl (by decide +kernel) rfl rfl (Nat.le_of_ble_eq_true rfl) (fun _ => rfl) h dX8_init_49 (fun M12 H locs hC h => ?_)
  refine lv_aload_n hx hb dX8_init_52 rfl (lv_at hl 0 rfl) ?_
  refine lv_bipush (v := 10) hx hb dX8_init_53 (by decide) ?_
  refine yc_newa (n := 7) (atype := .int) (len := 10) hx hb ac_int rfl hK hC h0s (by omega) (fun _ => rfl) (by decide) (by decide) (by decide) (Nat.le_of_ble_eq_true rfl) (Nat.le_of_ble_eq_true rfl) (fun a cB b => Option.some.inj (b.symm.trans a)) (hK.1.2 0 _ rfl).2 rfl h dX8_init_55 (fun M13 H hC h => ?_)
  refine yc_putr (n := 8) (k := 0) (ty := (.array .int)) hx hb hts i_X8 tyX8 tyX8_ok nmX8 hown hin2 hK hC (by omega) (fun _ => rfl) rfl 7 (by decide) f28 rfl rfl (by decide +kernel) rfl rfl (Nat.le_of_ble_eq_true rfl) (fun _ => rfl) h dX8_init_57 (fun M14 H locs hC h => ?_)
  refine lv_aload_n hx hb dX8_init_60 rfl (lv_at hl 0 rfl) ?_
  refine lv_bipush (v := 16) hx hb dX8_init_61 (by decide) ?_
  refine yc_newa (n := 8) (atype := .int) (len := 16) hx hb ac_int rfl hK hC h0s (by omega) (fun _ => rfl) (by decide) (by decide) (by decide) (Nat.le_of_ble_eq_true rfl) (Nat.le_of_ble_eq_true rfl) (fun a cB b => Option.some.inj (b.symm.trans a)) (hK.1.2 0 _ rfl).2 rfl h dX8_init_63 (fun M15 H hC h => ?_)
  refine yc_putr (n := 9) (k := 0) (ty := (.array .int)) hx hb hts i_X8 tyX8 tyX8_ok nmX8 hown hin2 hK hC (by omega) (fun _ => rfl) rfl 10 (by decide) f31 rfl rfl (by decide +kernel) rfl rfl (Nat.le_of_ble_eq_true rfl) (fun _ => rfl) h dX8_init_65 (fun M16 H locs hC h => ?_)
  refine lv_aload_n hx hb dX8_init_68 rfl (lv_at hl 0 rfl) ?_
  refine lv_bipush (v := 60) hx hb dX8_init_69 (by decide) ?_
  refine yc_newa (n := 9) (atype := .int) (len := 60) hx hb ac_int rfl hK hC h0s (by omega) (fun _ => rfl) (by decide) (by decide) (by decide) (Nat.le_of_ble_eq_true rfl) (Nat.le_of_ble_eq_true rfl) (fun a cB b => Option.some.inj (b.symm.trans a)) (hK.1.2 0 _ rfl).2 rfl h dX8_init_71 (fun M17 H hC h => ?_)
  refine yc_putr (n := 10) (k := 0) (ty := (.array .int)) hx hb hts i_X8 tyX8 tyX8_ok nmX8 hown hin2 hK hC (by omega) (fun _ => rfl) rfl 12 (by decide) f34 rfl rfl (by decide +kernel) rfl rfl (Nat.le_of_ble_eq_true rfl) (fun _ => rfl) h dX8_init_73 (fun M18 H locs hC h => ?_)
  refine lv_aload_n hx hb dX8_init_76 rfl (lv_at hl 0 rfl) ?_
  refine lv_bipush (v := 10) hx hb dX8_init_77 (by decide) ?_
  refine yc_newa (n := 10) (atype := .int) (len := 10) hx hb ac_int rfl hK hC h0s (by omega) (fun _ => rfl) (by decide) (by decide) (by decide) (Nat.le_of_ble_eq_true rfl) (Nat.le_of_ble_eq_true rfl) (fun a cB b => Option.some.inj (b.symm.trans a)) (hK.1.2 0 _ rfl).2 rfl h dX8_init_79 (fun M19 H hC h => ?_)
  refine yc_putr (n := 11) (k := 0) (ty := (.array .int)) hx hb hts i_X8 tyX8 tyX8_ok nmX8 hown hin2 hK hC (by omega) (fun _ => rfl) rfl 15 (by decide) f37 rfl rfl (by decide +kernel) rfl rfl (Nat.le_of_ble_eq_true rfl) (fun _ => rfl) h dX8_init_81 (fun M20 H locs hC h => ?_)
  refine lv_aload_n hx hb dX8_init_84 rfl (lv_at hl 0 rfl) ?_
  refine lv_bipush (v := 10) hx hb dX8_init_85 (by decide) ?_
  refine yc_newa (n := 11) (atype := .int) (len := 10) hx hb ac_int rfl hK hC h0s (by omega) (fun _ => rfl) (by decide) (by decide) (by decide) (Nat.le_of_ble_eq_true rfl) (Nat.le_of_ble_eq_true rfl) (fun a cB b => Option.some.inj (b.symm.trans a)) (hK.1.2 0 _ rfl).2 rfl h dX8_init_87 (fun M21 H hC h => ?_)
  refine yc_putr (n := 12) (k := 0) (ty := (.array .int)) hx hb hts i_X8 tyX8 tyX8_ok nmX8 hown hin2 hK hC (by omega) (fun _ => rfl) rfl 18 (by decide) f40 rfl rfl (by decide +kernel) rfl rfl (Nat.le_of_ble_eq_true rfl) (fun _ => rfl) h dX8_init_89 (fun M22 H locs hC h => ?_)
  refine lv_aload_n hx hb dX8_init_92 rfl (lv_at hl 0 rfl) ?_
  refine lv_sipush (v := 10000) hx hb dX8_init_93 (by decide) ?_
  refine yc_newa (n := 12) (atype := .boolean) (len := 10000) hx hb ac_boolean rfl hK hC h0s (by omega) (fun _ => rfl) (by decide) (by decide) (by decide) (Nat.le_of_ble_eq_true rfl) (Nat.le_of_ble_eq_true rfl) (fun a cB b => Option.some.inj (b.symm.trans a)) (hK.1.2 1 _ rfl).2 rfl h dX8_init_96 (fun M23 H hC h => ?_)
  refine yc_putr (n := 13) (k := 0) (ty := (.array .boolean)) hx hb hts i_X8 tyX8 tyX8_ok nmX8 hown hin2 hK hC (by omega) (fun _ => rfl) rfl 19 (by decide) f43 rfl rfl (by decide +kernel) rfl rfl (Nat.le_of_ble_eq_true rfl) (fun _ => rfl) h dX8_init_98 (fun M24 H locs hC h => ?_)
  refine lv_aload_n hx hb dX8_init_101 rfl (lv_at hl 0 rfl) ?_
  refine lv_bipush (v := 100) hx hb dX8_init_102 (by decide) ?_
  refine yc_newa (n := 13) (atype := .int) (len := 100) hx hb ac_int rfl hK hC h0s (by omega) (fun _ => rfl) (by decide) (by decide) (by decide) (Nat.le_of_ble_eq_true rfl) (Nat.le_of_ble_eq_true rfl) (fun a cB b => Option.some.inj (b.symm.trans a)) (hK.1.2 0 _ rfl).2 rfl h dX8_init_104 (fun M25 H hC h => ?_)
  refine yc_putr (n := 14) (k := 0) (ty := (.array .int)) hx hb hts i_X8 tyX8 tyX8_ok nmX8 hown hin2 hK hC (by omega) (fun _ => rfl) rfl 20 (by decide) f47 rfl rfl (by decide +kernel) rfl rfl (Nat.le_of_ble_eq_true rfl) (fun _ => rfl) h dX8_init_106 (fun M26 H locs hC h => ?_)
  refine lv_aload_n hx hb dX8_init_109 rfl (lv_at hl 0 rfl) ?_
  refine lv_bipush (v := 25) hx hb dX8_init_110 (by decide) ?_
  refine yc_newa (n := 14) (atype := .int) (len := 25) hx hb ac_int rfl hK hC h0s (by omega) (fun _ => rfl) (by decide) (by decide) (by decide) (Nat.le_of_ble_eq_true rfl) (Nat.le_of_ble_eq_true rfl) (fun a cB b => Option.some.inj (b.symm.trans a)) (hK.1.2 0 _ rfl).2 rfl h dX8_init_112 (fun M27 H hC h => ?_)
  refine yc_putr (n := 15) (k := 0) (ty := (.array .int)) hx hb hts i_X8 tyX8 tyX8_ok nmX8 hown hin2 hK hC (by omega) (fun _ => rfl) rfl 21 (by decide) f50 rfl rfl (by decide +kernel) rfl rfl (Nat.le_of_ble_eq_true rfl) (fun _ => rfl) h dX8_init_114 (fun M28 H locs hC h => ?_)
  refine lv_aload_n hx hb dX8_init_117 rfl (lv_at hl 0 rfl) ?_
  refine lv_sipush (v := 220) hx hb dX8_init_118 (by decide) ?_
  refine yc_newa (n := 15) (atype := .int) (len := 220) hx hb ac_int rfl hK hC h0s (by omega) (fun _ => rfl) (by decide) (by decide) (by decide) (Nat.le_of_ble_eq_true rfl) (Nat.le_of_ble_eq_true rfl) (fun a cB b => Option.some.inj (b.symm.trans a)) (hK.1.2 0 _ rfl).2 rfl h dX8_init_121 (fun M29 H hC h => ?_)
  refine yc_putr (n := 16) (k := 0) (ty := (.array .int)) hx hb hts i_X8 tyX8 tyX8_ok nmX8 hown hin2 hK hC (by omega) (fun _ => rfl) rfl 22 (by decide) f53 rfl rfl (by decide +kernel) rfl rfl (Nat.le_of_ble_eq_true rfl) (fun _ => rfl) h dX8_init_123 (fun M30 H locs hC h => ?_)
  refine lv_aload_n hx hb dX8_init_126 rfl (lv_at hl 0 rfl) ?_
  refine lv_iconst (v := 2) hx hb dX8_init_127 (by decide) ?_
  refine yc_newa (n := 16) (atype := .boolean) (len := 2) hx hb ac_boolean rfl hK hC h0s (by omega) (fun _ => rfl) (by decide) (by decide) (by decide) (Nat.le_of_ble_eq_true rfl) (Nat.le_of_ble_eq_true rfl) (fun a cB b => Option.some.inj (b.symm.trans a)) (hK.1.2 1 _ rfl).2 rfl h dX8_init_128 (fun M31 H hC h => ?_)
  refine yc_putr (n := 17) (k := 0) (ty := (.array .boolean)) hx hb hts i_X8 tyX8 tyX8_ok nmX8 hown hin2 hK hC (by omega) (fun _ => rfl) rfl 23 (by decide) f56 rfl rfl (by decide +kernel) rfl rfl (Nat.le_of_ble_eq_true rfl) (fun _ => rfl) h dX8_init_130 (fun M32 H locs hC h => ?_)
  refine lv_iconst (v := 0) hx hb dX8_init_133 (by decide) ?_
  refine lv_istore_n (lv' := [(1, .int 0), (0, .ref (h0 + 0))]) hx hb dX8_init_134 rfl hl (by decide) rfl (fun ls hl => ?_)
  refine lv_iload_n hx hb dX8_init_135 rfl (lv_at hl 0 rfl) ?_
  refine lv_bipush (v := 8) hx hb dX8_init_136 (by decide) ?_
  refine lv_icmp_ge (tgt := 155) hx hb dX8_init_138 (by decide) (fun c => absurd c (by decide)) (fun _ => ?_)
  refine lv_aload_n hx hb dX8_init_141 rfl (lv_at hl 1 rfl) ?_
  refine yc_getr (n := 17) (k := 0) (a := h0 + 1) hx hb hts i_X8 hown hK hC (by omega) (fun _ => rfl) rfl 0 (by decide) f7 rfl h dX8_init_142 (fun h => ?_)
  refine lv_iload_n hx hb dX8_init_145 rfl (lv_at hl 0 rfl) ?_
  refine lv_bipush (v := (-6)) hx hb dX8_init_146 (by decide) ?_
  refine yc_iast (n := 17) (k := 1) hx hb hK hC ⟨by omega, (fun _ _ _ => rfl)⟩ h dX8_init_148 (fun M33 H locs hC h => ?_)
  refine lv_iinc (v := 1) (lv' := [(1, .int 1), (0, .ref (h0 + 0))]) hx hb dX8_init_149 hl (k := 0) rfl (by decide) (by decide) rfl (fun ls hl => ?_)
  refine lv_goto (tgt := 135) hx hb dX8_init_152 (by decide) ?_
  refine lv_iload_n hx hb dX8_init_135 rfl (lv_at hl 0 rfl) ?_
  refine lv_bipush (v := 8) hx hb dX8_init_136 (by decide) ?_
  refine lv_icmp_ge (tgt := 155) hx hb dX8_init_138 (by decide) (fun c => absurd c (by decide)) (fun _ => ?_)
  refine lv_aload_n hx hb dX8_init_141 rfl (lv_at hl 1 rfl) ?_
  refine yc_getr (n := 17) (k := 0) (a := h0 + 1) hx hb hts i_X8 hown hK hC (by omega) (fun _ => rfl) rfl 0 (by decide) f7 rfl h dX8_init_142 (fun h => ?_)
  refine lv_iload_n hx hb dX8_init_145 rfl (lv_at hl 0 rfl) ?_
  refine lv_bipush (v := (-6)) hx hb dX8_init_146 (by decide) ?_
  refine yc_iast (n := 17) (k := 1) hx hb hK hC ⟨by omega, (fun _ _ _ => rfl)⟩ h dX8_init_148 (fun M34 H locs hC h => ?_)
  refine lv_iinc (v := 2) (lv' := [(1, .int 2), (0, .ref (h0 + 0))]) hx hb dX8_init_149 hl (k := 0) rfl (by decide) (by decide) rfl (fun ls hl => ?_)
  refine lv_goto (tgt := 135) hx hb dX8_init_152 (by decide) ?_
  refine lv_iload_n hx hb dX8_init_135 rfl (lv_at hl 0 rfl) ?_
  refine lv_bipush (v := 8) hx hb dX8_init_136 (by decide) ?_
  refine lv_icmp_ge (tgt := 155) hx hb dX8_init_138 (by decide) (fun c => absurd c (by decide)) (fun _ => ?_)
  refine lv_aload_n hx hb dX8_init_141 rfl (lv_at hl 1 rfl) ?_
  refine yc_getr (n := 17) (k := 0) (a := h0 + 1) hx hb hts i_X8 hown hK hC (by omega) (fun _ => rfl) rfl 0 (by decide) f7 rfl h dX8_init_142 (fun h => ?_)
  refine lv_iload_n hx hb dX8_init_145 rfl (lv_at hl 0 rfl) ?_
  refine lv_bipush (v := (-6)) hx hb dX8_init_146 (by decide) ?_
  refine yc_iast (n := 17) (k := 1) hx hb hK hC ⟨by omega, (fun _ _ _ => rfl)⟩ h dX8_init_148 (fun M35 H locs hC h => ?_)
  refine lv_iinc (v := 3) (lv' := [(1, .int 3), (0, .ref (h0 + 0))]) hx hb dX8_init_149 hl (k := 0) rfl (by decide) (by decide) rfl (fun ls hl => ?_)
  refine lv_goto (tgt := 135) hx hb dX8_init_152 (by decide) ?_
  refine lv_iload_n hx hb dX8_init_135 rfl (lv_at hl 0 rfl) ?_
  refine lv_bipush (v := 8) hx hb dX8_init_136 (by decide) ?_
  refine lv_icmp_ge (tgt := 155) hx hb dX8_init_138 (by decide) (fun c => absurd c (by decide)) (fun _ => ?_)
  refine lv_aload_n hx hb dX8_init_141 rfl (lv_at hl 1 rfl) ?_
  refine yc_getr (n := 17) (k := 0) (a := h0 + 1) hx hb hts i_X8 hown hK hC (by omega) (fun _ => rfl) rfl 0 (by decide) f7 rfl h dX8_init_142 (fun h => ?_)
  refine lv_iload_n hx hb dX8_init_145 rfl (lv_at hl 0 rfl) ?_
  refine lv_bipush (v := (-6)) hx hb dX8_init_146 (by decide) ?_
  refine yc_iast (n := 17) (k := 1) hx hb hK hC ⟨by omega, (fun _ _ _ => rfl)⟩ h dX8_init_148 (fun M36 H locs hC h => ?_)
  refine lv_iinc (v := 4) (lv' := [(1, .int 4), (0, .ref (h0 + 0))]) hx hb dX8_init_149 hl (k := 0) rfl (by decide) (by decide) rfl (fun ls hl => ?_)
  refine lv_goto (tgt := 135) hx hb dX8_init_152 (by decide) ?_
  refine lv_iload_n hx hb dX8_init_135 rfl (lv_at hl 0 rfl) ?_
  refine lv_bipush (v := 8) hx hb dX8_init_136 (by decide) ?_
  refine lv_icmp_ge (tgt := 155) hx hb dX8_init_138 (by decide) (fun c => absurd c (by decide)) (fun _ => ?_)
  refine lv_aload_n hx hb dX8_init_141 rfl (lv_at hl 1 rfl) ?_
  refine yc_getr (n := 17) (k := 0) (a := h0 + 1) hx hb hts i_X8 hown hK hC (by omega) (fun _ => rfl) rfl 0 (by decide) f7 rfl h dX8_init_142 (fun h => ?_)
  refine lv_iload_n hx hb dX8_init_145 rfl (lv_at hl 0 rfl) ?_
  refine lv_bipush (v := (-6)) hx hb dX8_init_146 (by decide) ?_
  refine yc_iast (n := 17) (k := 1) hx hb hK hC ⟨by omega, (fun _ _ _ => rfl)⟩ h dX8_init_148 (fun M37 H locs hC h => ?_)
  refine lv_iinc (v := 5) (lv' := [(1, .int 5), (0, .ref (h0 + 0))]) hx hb dX8_init_149 hl (k := 0) rfl (by decide) (by decide) rfl (fun ls hl => ?_)
  refine lv_goto (tgt := 135) hx hb dX8_init_152 (by decide) ?_
  refine lv_iload_n hx hb dX8_init_135 rfl (lv_at hl 0 rfl) ?_
  refine lv_bipush (v := 8) hx hb dX8_init_136 (by decide) ?_
  refine lv_icmp_ge (tgt := 155) hx hb dX8_init_138 (by decide) (fun c => absurd c (by decide)) (fun _ => ?_)
  refine lv_aload_n hx hb dX8_init_141 rfl (lv_at hl 1 rfl) ?_
  refine yc_getr (n := 17) (k := 0) (a := h0 + 1) hx hb hts i_X8 hown hK hC (by omega) (fun _ => rfl) rfl 0 (by decide) f7 rfl h dX8_init_142 (fun h => ?_)
  refine lv_iload_n hx hb dX8_init_145 rfl (lv_at hl 0 rfl) ?_
  refine lv_bipush (v := (-6)) hx hb dX8_init_146 (by decide) ?_
  refine yc_iast (n := 17) (k := 1) hx hb hK hC ⟨by omega, (fun _ _ _ => rfl)⟩ h dX8_init_148 (fun M38 H locs hC h => ?_)
  refine lv_iinc (v := 6) (lv' := [(1, .int 6), (0, .ref (h0 + 0))]) hx hb dX8_init_149 hl (k := 0) rfl (by decide) (by decide) rfl (fun ls hl => ?_)
  refine lv_goto (tgt := 135) hx hb dX8_init_152 (by decide) ?_
  refine lv_iload_n hx hb dX8_init_135 rfl (lv_at hl 0 rfl) ?_
  refine lv_bipush (v := 8) hx hb dX8_init_136 (by decide) ?_
  refine lv_icmp_ge (tgt := 155) hx hb dX8_init_138 (by decide) (fun c => absurd c (by decide)) (fun _ => ?_)
  refine lv_aload_n hx hb dX8_init_141 rfl (lv_at hl 1 rfl) ?_
  refine yc_getr (n := 17) (k := 0) (a := h0 + 1) hx hb hts i_X8 hown hK hC (by omega) (fun _ => rfl) rfl 0 (by decide) f7 rfl h dX8_init_142 (fun h => ?_)
  refine lv_iload_n hx hb dX8_init_145 rfl (lv_at hl 0 rfl) ?_
  refine lv_bipush (v := (-6)) hx hb dX8_init_146 (by decide) ?_
  refine yc_iast (n := 17) (k := 1) hx hb hK hC ⟨by omega, (fun _ _ _ => rfl)⟩ h dX8_init_148 (fun M39 H locs hC h => ?_)
  refine lv_iinc (v := 7) (lv' := [(1, .int 7), (0, .ref (h0 + 0))]) hx hb dX8_init_149 hl (k := 0) rfl (by decide) (by decide) rfl (fun ls hl => ?_)
  refine lv_goto (tgt := 135) hx hb dX8_init_152 (by decide) ?_
  refine lv_iload_n hx hb dX8_init_135 rfl (lv_at hl 0 rfl) ?_
  refine lv_bipush (v := 8) hx hb dX8_init_136 (by decide) ?_
  refine lv_icmp_ge (tgt := 155) hx hb dX8_init_138 (by decide) (fun c => absurd c (by decide)) (fun _ => ?_)
  refine lv_aload_n hx hb dX8_init_141 rfl (lv_at hl 1 rfl) ?_
  refine yc_getr (n := 17) (k := 0) (a := h0 + 1) hx hb hts i_X8 hown hK hC (by omega) (fun _ => rfl) rfl 0 (by decide) f7 rfl h dX8_init_142 (fun h => ?_)
  refine lv_iload_n hx hb dX8_init_145 rfl (lv_at hl 0 rfl) ?_
  refine lv_bipush (v := (-6)) hx hb dX8_init_146 (by decide) ?_
  refine yc_iast (n := 17) (k := 1) hx hb hK hC ⟨by omega, (fun _ _ _ => rfl)⟩ h dX8_init_148 (fun M40 H locs hC h => ?_)
  refine lv_iinc (v := 8) (lv' := [(1, .int 8), (0, .ref (h0 + 0))]) hx hb dX8_init_149 hl (k := 0) rfl (by decide) (by decide) rfl (fun ls hl => ?_)
  refine lv_goto (tgt := 135) hx hb dX8_init_152 (by decide) ?_
  refine lv_iload_n hx hb dX8_init_135 rfl (lv_at hl 0 rfl) ?_
  refine lv_bipush (v := 8) hx hb dX8_init_136 (by decide) ?_
  refine lv_icmp_ge (tgt := 155) hx hb dX8_init_138 (by decide) (fun _ => ?_) (fun c => absurd (by decide) c)
  refine lv_iconst (v := 0) hx hb dX8_init_155 (by decide) ?_
  refine lv_istore_n (lv' := [(1, .int 0), (0, .ref (h0 + 0))]) hx hb dX8_init_156 rfl hl (by decide) rfl (fun ls hl => ?_)
  refine lv_iload_n hx hb dX8_init_157 rfl (lv_at hl 0 rfl) ?_
  refine lv_bipush (v := 10) hx hb dX8_init_158 (by decide) ?_
  refine lv_icmp_ge (tgt := 176) hx hb dX8_init_160 (by decide) (fun c => absurd c (by decide)) (fun _ => ?_)
  refine lv_aload_n hx hb dX8_init_163 rfl (lv_at hl 1 rfl) ?_
  refine yc_getr (n := 17) (k := 0) (a := h0 + 7) hx hb hts i_X8 hown hK hC (by omega) (fun _ => rfl) rfl 7 (by decide) f28 rfl h dX8_init_164 (fun h => ?_)
  refine lv_iload_n hx hb dX8_init_167 rfl (lv_at hl 0 rfl) ?_
  refine lv_iload_n hx hb dX8_init_168 rfl (lv_at hl 0 rfl) ?_
  refine yc_iast (n := 17) (k := 7) hx hb hK hC ⟨by omega, (fun _ _ _ => rfl)⟩ h dX8_init_169 (fun M41 H locs hC h => ?_)
  refine lv_iinc (v := 1) (lv' := [(1, .int 1), (0, .ref (h0 + 0))]) hx hb dX8_init_170 hl (k := 0) rfl (by decide) (by decide) rfl (fun ls hl => ?_)
  refine lv_goto (tgt := 157) hx hb dX8_init_173 (by decide) ?_
  refine lv_iload_n hx hb dX8_init_157 rfl (lv_at hl 0 rfl) ?_
  refine lv_bipush (v := 10) hx hb dX8_init_158 (by decide) ?_
  refine lv_icmp_ge (tgt := 176) hx hb dX8_init_160 (by decide) (fun c => absurd c (by decide)) (fun _ => ?_)
  refine lv_aload_n hx hb dX8_init_163 rfl (lv_at hl 1 rfl) ?_
  refine yc_getr (n := 17) (k := 0) (a := h0 + 7) hx hb hts i_X8 hown hK hC (by omega) (fun _ => rfl) rfl 7 (by decide) f28 rfl h dX8_init_164 (fun h => ?_)
  refine lv_iload_n hx hb dX8_init_167 rfl (lv_at hl 0 rfl) ?_
  refine lv_iload_n hx hb dX8_init_168 rfl (lv_at hl 0 rfl) ?_
  refine yc_iast (n := 17) (k := 7) hx hb hK hC ⟨by omega, (fun _ _ _ => rfl)⟩ h dX8_init_169 (fun M42 H locs hC h => ?_)
  refine lv_iinc (v := 2) (lv' := [(1, .int 2), (0, .ref (h0 + 0))]) hx hb dX8_init_170 hl (k := 0) rfl (by decide) (by decide) rfl (fun ls hl => ?_)
  refine lv_goto (tgt := 157) hx hb dX8_init_173 (by decide) ?_
  refine lv_iload_n hx hb dX8_init_157 rfl (lv_at hl 0 rfl) ?_
  refine lv_bipush (v := 10) hx hb dX8_init_158 (by decide) ?_
  refine lv_icmp_ge (tgt := 176) hx hb dX8_init_160 (by decide) (fun c => absurd c (by decide)) (fun _ => ?_)
  refine lv_aload_n hx hb dX8_init_163 rfl (lv_at hl 1 rfl) ?_
  refine yc_getr (n := 17) (k := 0) (a := h0 + 7) hx hb hts i_X8 hown hK hC (by omega) (fun _ => rfl) rfl 7 (by decide) f28 rfl h dX8_init_164 (fun h => ?_)
  refine lv_iload_n hx hb dX8_init_167 rfl (lv_at hl 0 rfl) ?_
  refine lv_iload_n hx hb dX8_init_168 rfl (lv_at hl 0 rfl) ?_
  refine yc_iast (n := 17) (k := 7) hx hb hK hC ⟨by omega, (fun _ _ _ => rfl)⟩ h dX8_init_169 (fun M43 H locs hC h => ?_)
  refine lv_iinc (v := 3) (lv' := [(1, .int 3), (0, .ref (h0 + 0))]) hx hb dX8_init_170 hl (k := 0) rfl (by decide) (by decide) rfl (fun ls hl => ?_)
  refine lv_goto (tgt := 157) hx hb dX8_init_173 (by decide) ?_
  refine lv_iload_n hx hb dX8_init_157 rfl (lv_at hl 0 rfl) ?_
  refine lv_bipush (v := 10) hx hb dX8_init_158 (by decide) ?_
  refine lv_icmp_ge (tgt := 176) hx hb dX8_init_160 (by decide) (fun c => absurd c (by decide)) (fun _ => ?_)
  refine lv_aload_n hx hb dX8_init_163 rfl (lv_at hl 1 rfl) ?_
  refine yc_getr (n := 17) (k := 0) (a := h0 + 7) hx hb hts i_X8 hown hK hC (by omega) (fun _ => rfl) rfl 7 (by decide) f28 rfl h dX8_init_164 (fun h => ?_)
  refine lv_iload_n hx hb dX8_init_167 rfl (lv_at hl 0 rfl) ?_
  refine lv_iload_n hx hb dX8_init_168 rfl (lv_at hl 0 rfl) ?_
  refine yc_iast (n := 17) (k := 7) hx hb hK hC ⟨by omega, (fun _ _ _ => rfl)⟩ h dX8_init_169 (fun M44 H locs hC h => ?_)
  refine lv_iinc (v := 4) (lv' := [(1, .int 4), (0, .ref (h0 + 0))]) hx hb dX8_init_170 hl (k := 0) rfl (by decide) (by decide) rfl (fun ls hl => ?_)
  refine lv_goto (tgt := 157) hx hb dX8_init_173 (by decide) ?_
  refine lv_iload_n hx hb dX8_init_157 rfl (lv_at hl 0 rfl) ?_
  refine lv_bipush (v := 10) hx hb dX8_init_158 (by decide) ?_
  refine lv_icmp_ge (tgt := 176) hx hb dX8_init_160 (by decide) (fun c => absurd c (by decide)) (fun _ => ?_)
  refine lv_aload_n hx hb dX8_init_163 rfl (lv_at hl 1 rfl) ?_
  refine yc_getr (n := 17) (k := 0) (a := h0 + 7) hx hb hts i_X8 hown hK hC (by omega) (fun _ => rfl) rfl 7 (by decide) f28 rfl h dX8_init_164 (fun h => ?_)
  refine lv_iload_n hx hb dX8_init_167 rfl (lv_at hl 0 rfl) ?_
  refine lv_iload_n hx hb dX8_init_168 rfl (lv_at hl 0 rfl) ?_
  refine yc_iast (n := 17) (k := 7) hx hb hK hC ⟨by omega, (fun _ _ _ => rfl)⟩ h dX8_init_169 (fun M45 H locs hC h => ?_)
  refine lv_iinc (v := 5) (lv' := [(1, .int 5), (0, .ref (h0 + 0))]) hx hb dX8_init_170 hl (k := 0) rfl (by decide) (by decide) rfl (fun ls hl => ?_)
  refine lv_goto (tgt := 157) hx hb dX8_init_173 (by decide) ?_
  refine lv_iload_n hx hb dX8_init_157 rfl (lv_at hl 0 rfl) ?_
  refine lv_bipush (v := 10) hx hb dX8_init_158 (by decide) ?_
  refine lv_icmp_ge (tgt := 176) hx hb dX8_init_160 (by decide) (fun c => absurd c (by decide)) (fun _ => ?_)
  refine lv_aload_n hx hb dX8_init_163 rfl (lv_at hl 1 rfl) ?_
  refine yc_getr (n := 17) (k := 0) (a := h0 + 7) hx hb hts i_X8 hown hK hC (by omega) (fun _ => rfl) rfl 7 (by decide) f28 rfl h dX8_init_164 (fun h => ?_)
  refine lv_iload_n hx hb dX8_init_167 rfl (lv_at hl 0 rfl) ?_
  refine lv_iload_n hx hb dX8_init_168 rfl (lv_at hl 0 rfl) ?_
  refine yc_iast (n := 17) (k := 7) hx hb hK hC ⟨by omega, (fun _ _ _ => rfl)⟩ h dX8_init_169 (fun M46 H locs hC h => ?_)
  refine lv_iinc (v := 6) (lv' := [(1, .int 6), (0, .ref (h0 + 0))]) hx hb dX8_init_170 hl (k := 0) rfl (by decide) (by decide) rfl (fun ls hl => ?_)
  refine lv_goto (tgt := 157) hx hb dX8_init_173 (by decide) ?_
  refine lv_iload_n hx hb dX8_init_157 rfl (lv_at hl 0 rfl) ?_
  refine lv_bipush (v := 10) hx hb dX8_init_158 (by decide) ?_
  refine lv_icmp_ge (tgt := 176) hx hb dX8_init_160 (by decide) (fun c => absurd c (by decide)) (fun _ => ?_)
  refine lv_aload_n hx hb dX8_init_163 rfl (lv_at hl 1 rfl) ?_
  refine yc_getr (n := 17) (k := 0) (a := h0 + 7) hx hb hts i_X8 hown hK hC (by omega) (fun _ => rfl) rfl 7 (by decide) f28 rfl h dX8_init_164 (fun h => ?_)
  refine lv_iload_n hx hb dX8_init_167 rfl (lv_at hl 0 rfl) ?_
  refine lv_iload_n hx hb dX8_init_168 rfl (lv_at hl 0 rfl) ?_
  refine yc_iast (n := 17) (k := 7) hx hb hK hC ⟨by omega, (fun _ _ _ => rfl)⟩ h dX8_init_169 (fun M47 H locs hC h => ?_)
  refine lv_iinc (v := 7) (lv' := [(1, .int 7), (0, .ref (h0 + 0))]) hx hb dX8_init_170 hl (k := 0) rfl (by decide) (by decide) rfl (fun ls hl => ?_)
  refine lv_goto (tgt := 157) hx hb dX8_init_173 (by decide) ?_
  refine lv_iload_n hx hb dX8_init_157 rfl (lv_at hl 0 rfl) ?_
  refine lv_bipush (v := 10) hx hb dX8_init_158 (by decide) ?_
  refine lv_icmp_ge (tgt := 176) hx hb dX8_init_160 (by decide) (fun c => absurd c (by decide)) (fun _ => ?_)
  refine lv_aload_n hx hb dX8_init_163 rfl (lv_at hl 1 rfl) ?_
  refine yc_getr (n := 17) (k := 0) (a := h0 + 7) hx hb hts i_X8 hown hK hC (by omega) (fun _ => rfl) rfl 7 (by decide) f28 rfl h dX8_init_164 (fun h => ?_)
  refine lv_iload_n hx hb dX8_init_167 rfl (lv_at hl 0 rfl) ?_
  refine lv_iload_n hx hb dX8_init_168 rfl (lv_at hl 0 rfl) ?_
  refine yc_iast (n := 17) (k := 7) hx hb hK hC ⟨by omega, (fun _ _ _ => rfl)⟩ h dX8_init_169 (fun M48 H locs hC h => ?_)
  refine lv_iinc (v := 8) (lv' := [(1, .int 8), (0, .ref (h0 + 0))]) hx hb dX8_init_170 hl (k := 0) rfl (by decide) (by decide) rfl (fun ls hl => ?_)
  refine lv_goto (tgt := 157) hx hb dX8_init_173 (by decide) ?_
  refine lv_iload_n hx hb dX8_init_157 rfl (lv_at hl 0 rfl) ?_
  refine lv_bipush (v := 10) hx hb dX8_init_158 (by decide) ?_
  refine lv_icmp_ge (tgt := 176) hx hb dX8_init_160 (by decide) (fun c => absurd c (by decide)) (fun _ => ?_)
  refine lv_aload_n hx hb dX8_init_163 rfl (lv_at hl 1 rfl) ?_
  refine yc_getr (n := 17) (k := 0) (a := h0 + 7) hx hb hts i_X8 hown hK hC (by omega) (fun _ => rfl) rfl 7 (by decide) f28 rfl h dX8_init_164 (fun h => ?_)
  refine lv_iload_n hx hb dX8_init_167 rfl (lv_at hl 0 rfl) ?_
  refine lv_iload_n hx hb dX8_init_168 rfl (lv_at hl 0 rfl) ?_
  refine yc_iast (n := 17) (k := 7) hx hb hK hC ⟨by omega, (fun _ _ _ => rfl)⟩ h dX8_init_169 (fun M49 H locs hC h => ?_)
  refine lv_iinc (v := 9) (lv' := [(1, .int 9), (0, .ref (h0 + 0))]) hx hb dX8_init_170 hl (k := 0) rfl (by decide) (by decide) rfl (fun ls hl => ?_)
  refine lv_goto (tgt := 157) hx hb dX8_init_173 (by decide) ?_
  refine lv_iload_n hx hb dX8_init_157 rfl (lv_at hl 0 rfl) ?_
  refine lv_bipush (v := 10) hx hb dX8_init_158 (by decide) ?_
  refine lv_icmp_ge (tgt := 176) hx hb dX8_init_160 (by decide) (fun c => absurd c (by decide)) (fun _ => ?_)
  refine lv_aload_n hx hb dX8_init_163 rfl (lv_at hl 1 rfl) ?_
  refine yc_getr (n := 17) (k := 0) (a := h0 + 7) hx hb hts i_X8 hown hK hC (by omega) (fun _ => rfl) rfl 7 (by decide) f28 rfl h dX8_init_164 (fun h => ?_)
  refine lv_iload_n hx hb dX8_init_167 rfl (lv_at hl 0 rfl) ?_
  refine lv_iload_n hx hb dX8_init_168 rfl (lv_at hl 0 rfl) ?_
  refine yc_iast (n := 17) (k := 7) hx hb hK hC ⟨by omega, (fun _ _ _ => rfl)⟩ h dX8_init_169 (fun M50 H locs hC h => ?_)
  refine lv_iinc (v := 10) (lv' := [(1, .int 10), (0, .ref (h0 + 0))]) hx hb dX8_init_170 hl (k := 0) rfl (by decide) (by decide) rfl (fun ls hl => ?_)
  refine lv_goto (tgt := 157) hx hb dX8_init_173 (by decide) ?_
  refine lv_iload_n hx hb dX8_init_157 rfl (lv_at hl 0 rfl) ?_
  refine lv_bipush (v := 10) hx hb dX8_init_158 (by decide) ?_
  refine lv_icmp_ge (tgt := 176) hx hb dX8_init_160 (by decide) (fun _ => ?_) (fun c => absurd (by decide) c)
  refine W.widen (k := 16) (n := 10559) (Nat.le_of_ble_eq_true rfl) (Nat.le_of_ble_eq_true rfl) ?_
  exact W.vret hx hb hr (fun t ht _ => ⟨⟨_, rfl, qOk.s h, qHpt ht hC.1⟩, hC.2.F ht⟩) hC.2.2.2 dX8_init_176
