/-! CONSTRUCTORS: a world that grows, cell k at the address h0 + k; a reference field is null till its flag is set -/
def qrf (x : Int32) (a : Nat) : Value := if x = 0 then .null else .ref a
def qfl {β : Type} (x : Int32) (F : Option β) : Option β := if x = 0 then none else F
theorem qOk.fl {β : Type} {x : Int32} {F : Option β} {P : β → Prop} (h : qOk (qfl x F) P) : ¬ x = 0 ∧ qOk F P := qOk.nz h
def qHC (n : Nat) (E : qE) (G : qG) (h0 : Nat) (M : qM) (H0 H : Heap) (locs : List Loc) : Prop := qHp n E G (fun k => h0 + k) M H ∧ va_S (fun q => h0 ≤ q) H0 H locs
def qPrC (n : Nat) (E : qE) (G : qG) (h0 : Nat) (M : qM) : State → Prop := fun U => U.heap.size = h0 + n ∧ qK G U ∧ va_AO RX1 U ∧ qHp n E G (fun k => h0 + k) M U.heap
theorem qI_add (n h0 : Nat) : qI n (fun k => h0 + k) := fun i j _ _ h => by
  have h : h0 + i = h0 + j := h
  omega
theorem qWl_Dc {n : Nat} {E : qE} {G : qG} {h0 : Nat} {M : qM} : va_D (fun q => h0 ≤ q) (qWl n E G (fun k => h0 + k) M) :=
  (qWl_D (sz := 0) (qI_add n h0)).weaken (fun k q hq _ => by obtain ⟨-, rfl⟩ := qWl_inv hq; exact Nat.le_add_right h0 k)
theorem qWl_push {n : Nat} {E : qE} {G : qG} {ad : Nat → Nat} {M : qM} {f : Nat → Int32} : qWl (n + 1) E G ad (qcp M n f) = qWl n E G ad M ++ [(ad n, E G ad f n)] := by
  unfold qWl
  rw [List.range_succ, List.map_append, List.map_singleton, qcp_s]
  congr 1
  refine List.map_congr_left (fun k hk => ?_)
  have hk := List.mem_range.mp hk
  rw [qcp_n (by omega)]
theorem qPrC.blind {n : Nat} {E : qE} {G : qG} {h0 : Nat} {M : qM} {av : List Value} : FrameBlind (va_Pc av (qPrC n E G h0 M)) := fun _ _ _ _ h => ⟨h.1, h.2.1, qK.same rfl h.2.2.1, va_AO.moved (Vm.Alike.refl _) h.2.2.2.1, h.2.2.2.2⟩
theorem qPrC.at {n : Nat} {E : qE} {G : qG} {h0 : Nat} {M : qM} {s : State} {H : Heap} {locs : List Loc} {av : List Value} (hK : qK G s) (hAO : va_AO RX1 s) (hC : qHC n E G h0 M s.heap H locs) (hsz : H.size = h0 + n) : ∀ U : State, U.heap = H → s.WarmedH U.vm → va_Pc av (qPrC n E G h0 M) av.toArray U := fun U hU hW => ⟨rfl, by rw [hU]; exact hsz, qK.moved hW hK, va_AO.moved hW.alike hAO, by rw [hU]; exact hC.1⟩
theorem qPre.atC {n : Nat} {E : qE} {G : qG} {h0 : Nat} {M : qM} {s : State} {H : Heap} {locs : List Loc} {av : List Value} (hK : qK G s) (hC : qHC n E G h0 M s.heap H locs) : ∀ U : State, U.heap = H → s.WarmedH U.vm → va_Pc av (qPre n E G (fun k => h0 + k) M H.size) av.toArray U := fun U hU hW => ⟨rfl, by rw [hU], qK.moved hW hK, by rw [hU]; exact hC.1⟩
theorem qA_h0 {n : Nat} {E : qE} {G : qG} {h0 : Nat} {M : qM} {s : State} {H : Heap} {locs : List Loc} (hC : qHC n E G h0 M s.heap H locs) (h0s : h0 ≤ s.heap.size) (q : Nat) (h : qA n (fun k => h0 + k) H.size q) : h0 ≤ q := by
  rcases h with ⟨k, -, rfl⟩ | h
  · exact Nat.le_add_right h0 k
  · exact Nat.le_trans h0s (Nat.le_trans hC.2.1 h)
theorem qC_size {n : Nat} {E : qE} {G : qG} {h0 cells : Nat} {M : qM} {s : State} {H : Heap} {locs : List Loc} (hC : qHC n E G h0 M s.heap H locs) (hpos : 0 < n) (hn : s.heap.size + cells = h0 + n) (h : H.size ≤ s.heap.size + cells) : H.size = h0 + n := by
  have h1 := (hC.1 (n - 1) _ (qWl_get (by omega))).lt
  have h1 : h0 + (n - 1) < H.size := h1
  omega
section QC
variable {p : Program} {l : Launch} {e : Env} {R : Room} {s : State} {m : MethodId} {args : Array Value} {below : List Frame} {meth : Method} {c : Code} {H : Heap} {locs : List Loc} {cells slots : Nat} {Q : State → Prop}
variable {cc : ByteArray} {pc : Nat} {ls : Array Slot} {rest : List Value} {n h0 : Nat} {E : qE} {G : qG} {M : qM} {β : Type} {P : β → Prop}
theorem qW_size {g : JFrame} (k : H.size ≤ s.heap.size + cells → W p l e R s m args below meth c H locs cells slots Q g) : W p l e R s m args below meth c H locs cells slots Q g := fun T hT X => k (by
  have h := X.same.2.2.1
  rw [← hT]
  exact h) T hT X
/-- the address of a new cell -/
theorem qC_new {n0 : Nat} {H1 : Heap} {q : Nat} {ce : va_E} (hP : va_P G.1 vwCl (qWl n E G (fun k => h0 + k) M ++ [(q, ce)]) H1) (hD : va_D (fun q => h0 ≤ q) (qWl n E G (fun k => h0 + k) M ++ [(q, ce)])) (hs : H1.size ≤ n0) (hn : n0 = h0 + n + 1) : q = h0 + n := by
  have hl : (qWl n E G (fun k => h0 + k) M).length = n := by simp [qWl]
  have h1 : (qWl n E G (fun k => h0 + k) M ++ [(q, ce)])[n]? = some (q, ce) := by
    rw [List.getElem?_append_right (by rw [hl]; exact Nat.le_refl n), hl, Nat.sub_self]
    rfl
  have h2 : q < H1.size := (hP n _ h1).lt
  have h3 : h0 ≤ q := hD.2 n _ h1
  by_cases hq : q = h0 + n
  · exact hq
  · exfalso
    have hk : q - h0 < n := by omega
    have h4 : (qWl n E G (fun k => h0 + k) M ++ [(q, ce)])[q - h0]? = some (h0 + (q - h0), E G (fun k => h0 + k) (M (q - h0)) (q - h0)) := by
      rw [List.getElem?_append_left (by rw [hl]; exact hk), qWl_get hk]
    have := hD.1 (q - h0) n _ _ h4 h1 (by show h0 + (q - h0) = q; omega)
    omega
theorem yc_new (hx : p.tables.exec = Jvm.exec) (hb : c.code = cc) {own C : String} {T : u_T} {nf ci index : Nat} {Ts : List Cond} (hts : ∀ w ∈ Ts, w.before args s = true) (hin : ∀ w ∈ u_ws C T nf, w ∈ Ts) (ty : Nat → FieldType) (hty : ∀ k, k < nf → parseFieldDescriptor (T k).2.2.1 = some (ty k)) (hown : s.vm.findClass own = some m.cls) (hcl : (Cond.classLink own index C).before args s = true) (hinst : (Cond.instantiable C nf).before args s = true) (hini : (Cond.initialized C).before args s = true)
    (hK : qK G s) (hC : qHC n E G h0 M s.heap H locs) (h0s : h0 ≤ s.heap.size) (hsz : s.heap.size + (cells + 1) = h0 + n + 1) (hc : vwCl[ci]? = some (C, T, nf)) {fs : List Value} (hE : E G (fun k => h0 + k) (fun _ => 0) n = .inr (ci, fs)) (hfs : ∀ j, j < nf → defaultValue (ty j) = vp_V fs j) (hcells : cells + 1 ≤ R.cells) (hslots : slots + nf ≤ R.slots) {F : qM → Option β} (h : qOk (qvl (qcp M n (fun _ => 0)) F) P) (hdg : decode cc pc = .ok (.new index, 3))
    (kk : ∀ (M1 : qM) (H1 : Heap), qHC (n + 1) E G h0 M1 s.heap H1 locs → qOk (F M1) P → W p l e R s m args below meth c H1 locs (cells + 1) (slots + nf) Q (F0 m (pc + 3) ls (.ref (h0 + n) :: rest))) : W p l e R s m args below meth c H locs cells slots Q (F0 m pc ls rest) := by
  refine va_new hx hb hts hin ty hty hown hcl hinst hini hK.1 hC.1 qWl_Dc hC.2 (fun q hq => Nat.le_trans h0s hq) hc hfs hcells hslots hdg (fun q H1 h1 h2 h3 => qW_size (fun hz => ?_))
  have hq := qC_new h1 h2 hz hsz
  subst hq
  refine kk _ H1 ⟨?_, h3⟩ h
  show va_P _ _ _ _
  rw [qWl_push, hE]
  exact h1
theorem yc_newa (hx : p.tables.exec = Jvm.exec) (hb : c.code = cc) {atype : ArrayType} (harr : (Cond.arrayClass (newarray.typeOf atype)).before args s = true) {ty : FieldType} (hty : newarray.typeOf atype = ty)
    (hK : qK G s) (hC : qHC n E G h0 M s.heap H locs) (h0s : h0 ≤ s.heap.size) (hsz : s.heap.size + (cells + 1) = h0 + n + 1) {z : Int32} {len : Nat} (hcell : ∀ cA : ClassId, vp_cell cA (len, .inl (fun _ => 0)) = arrV cA len (fun _ => defaultValue ty)) (hz : ¬ z < 0) (hN : z.toNatClampNeg = len) (hbytes : len * componentBytes ty ≤ 536870912) (hcells : cells + 1 ≤ R.cells) (hslots : slots + len ≤ R.slots) {cA : ClassId} (hcA : va_RA s cA ty → ∀ cB : ClassId, va_RA s cB ty → cB = cA) (hcT : va_RA s cA ty) (hE : E G (fun k => h0 + k) (fun _ => 0) n = .inl (cA, len, .inl (fun _ => 0))) {F : qM → Option β} (h : qOk (qvl (qcp M n (fun _ => 0)) F) P) (hdg : decode cc pc = .ok (.newarray atype, 2))
    (kk : ∀ (M1 : qM) (H1 : Heap), qHC (n + 1) E G h0 M1 s.heap H1 locs → qOk (F M1) P → W p l e R s m args below meth c H1 locs (cells + 1) (slots + len) Q (F0 m (pc + 2) ls (.ref (h0 + n) :: rest))) : W p l e R s m args below meth c H locs cells slots Q (F0 m pc ls (.int z :: rest)) := by
  refine va_newa hx hb harr hty hK.1 hC.1 qWl_Dc hC.2 (fun q hq => Nat.le_trans h0s hq) hcell hz hN hbytes hcells hslots hdg (fun q cB H1 hK1 h1 h2 h3 => qW_size (fun hzz => ?_))
  have hq := qC_new h1 h2 hzz hsz
  subst hq
  have hcB : cB = cA := hcA hcT cB (hK1.2 (qTy G).length _ (by rw [List.getElem?_append_right (Nat.le_refl _), Nat.sub_self]; rfl)).2
  subst hcB
  refine kk _ H1 ⟨?_, h3⟩ h
  show va_P _ _ _ _
  rw [qWl_push, hE]
  exact h1
theorem yc_newq (hx : p.tables.exec = Jvm.exec) (hb : c.code = cc) {own : String} {index : Nat} (hown : s.vm.findClass own = some m.cls) (hclink : (Cond.classLink own index RX1).before args s = true) (hover : va_AO RX1 s)
    (hK : qK G s) (hC : qHC n E G h0 M s.heap H locs) (h0s : h0 ≤ s.heap.size) (hsz : s.heap.size + (cells + 1) = h0 + n + 1) {z : Int32} {len : Nat} (hz : ¬ z < 0) (hN : z.toNatClampNeg = len) (hbytes : len * 4 ≤ 536870912) (hcells : cells + 1 ≤ R.cells) (hslots : slots + len ≤ R.slots) (hE : E G (fun k => h0 + k) (fun _ => 0) n = .inl (G.2.2.2, len, .inr (.inr (.inr (.inr (fun _ => none)))))) {F : qM → Option β} (h : qOk (qvl (qcp M n (fun _ => 0)) F) P) (hdg : decode cc pc = .ok (.anewarray index, 3))
    (kk : ∀ (M1 : qM) (H1 : Heap), qHC (n + 1) E G h0 M1 s.heap H1 locs → qOk (F M1) P → W p l e R s m args below meth c H1 locs (cells + 1) (slots + len) Q (F0 m (pc + 3) ls (.ref (h0 + n) :: rest))) : W p l e R s m args below meth c H locs cells slots Q (F0 m pc ls (.int z :: rest)) := by
  refine va_newq hx hb hown hclink hover hK.1 hC.1 qWl_Dc hC.2 (fun q hq => Nat.le_trans h0s hq) hz hN hbytes hcells hslots hdg (fun q cB H1 hK1 h1 h2 h3 => qW_size (fun hzz => ?_))
  have hq := qC_new h1 h2 hzz hsz
  subst hq
  have hB : va_RA s cB (.object RX1) := (hK1.2 (qTy G).length _ (by rw [List.getElem?_append_right (Nat.le_refl _), Nat.sub_self]; rfl)).2
  have hA : va_RA s G.2.2.2 (.object RX1) := (hK.1.2 2 _ rfl).2
  have hcB : cB = G.2.2.2 := by
    obtain ⟨_, _, _, _, _, b4⟩ := hB
    obtain ⟨_, _, _, _, _, a4⟩ := hA
    exact Option.some.inj (b4.symm.trans a4)
  subst hcB
  refine kk _ H1 ⟨?_, h3⟩ h
  show va_P _ _ _ _
  rw [qWl_push, hE]
  exact h1
theorem yc_putr (hx : p.tables.exec = Jvm.exec) (hb : c.code = cc) {own C : String} {T : u_T} {nf ci index : Nat} {Ts : List Cond} (hts : ∀ w ∈ Ts, w.before args s = true) (hin : ∀ w ∈ u_ws C T nf, w ∈ Ts) (ty0 : Nat → FieldType) (hty : ∀ k, k < nf → parseFieldDescriptor (T k).2.2.1 = some (ty0 k)) (hnm : ∀ a, a < nf → ∀ b, b < nf → a ≠ b → (T a).2.1 ≠ (T b).2.1) (hown : s.vm.findClass own = some m.cls) (hin2 : meth.name = "<init>") (hK : qK G s) (hC : qHC n E G h0 M s.heap H locs) {k : Nat} (hk : k < n) {fs : (Nat → Int32) → List Value} (hE : ∀ g, E G (fun k => h0 + k) g k = .inr (ci, fs g)) (hc : vwCl[ci]? = some (C, T, nf)) (j : Nat) (hj : j < nf)
    (hlink : (Cond.fieldLink own index (T j).1 (T j).2.1 (T j).2.2.1).before args s = true) (hfin : (T j).2.2.2 = true) (hdecl : (T j).1 = own) {ty : FieldType} (hd : parseFieldDescriptor (T j).2.2.1 = some ty) {a : Nat} (hn : narrow ty (.ref a) = .ref a) (hfit : fits ty (.ref a) = true) (hl : j < (fs (M k)).length) (hset : ∀ g, (fs g).set j (.ref a) = fs (upd g j 1)) {F : qM → Option β} (h : qOk (qvl (qst M k j 1) F) P) (hdg : decode cc pc = .ok (.putfield index, 3))
    (kk : ∀ (M1 : qM) (H1 : Heap) (locs1 : List Loc), qHC n E G h0 M1 s.heap H1 locs1 → qOk (F M1) P → W p l e R s m args below meth c H1 locs1 cells slots Q (F0 m (pc + 3) ls rest)) : W p l e R s m args below meth c H locs cells slots Q (F0 m pc ls (.ref a :: .ref (h0 + k) :: rest)) := by
  refine va_putF hx hb hts hin ty0 hty hnm hown hK.1 hC.1 qWl_Dc hC.2 k (by rw [qWl_get hk, hE]) hc j hj hlink (fun _ h9 => h9) hfin hin2 hdecl hd hn hfit hl hdg (fun H1 locs1 h1 _ h3 => kk _ H1 locs1 ⟨?_, h3⟩ h)
  rw [qWl_set (ad := fun k => h0 + k) (M' := qst M k j 1) hk (by rw [hE, qst_s, hset]) (fun i hi => qst_n hi)] at h1
  exact h1
theorem yc_puti (hx : p.tables.exec = Jvm.exec) (hb : c.code = cc) {own C : String} {T : u_T} {nf ci index : Nat} {Ts : List Cond} (hts : ∀ w ∈ Ts, w.before args s = true) (hin : ∀ w ∈ u_ws C T nf, w ∈ Ts) (ty0 : Nat → FieldType) (hty : ∀ k, k < nf → parseFieldDescriptor (T k).2.2.1 = some (ty0 k)) (hnm : ∀ a, a < nf → ∀ b, b < nf → a ≠ b → (T a).2.1 ≠ (T b).2.1) (hown : s.vm.findClass own = some m.cls) (hK : qK G s) (hC : qHC n E G h0 M s.heap H locs) {k : Nat} (hk : k < n) {fs : (Nat → Int32) → List Value} (hE : ∀ g, E G (fun k => h0 + k) g k = .inr (ci, fs g)) (hc : vwCl[ci]? = some (C, T, nf)) (j : Nat) (hj : j < nf)
    (hlink : (Cond.fieldLink own index (T j).1 (T j).2.1 (T j).2.2.1).before args s = true) (hfin : (T j).2.2.2 = false) (hd : parseFieldDescriptor (T j).2.2.1 = some .int) {x : Int32} (hl : j < (fs (M k)).length) (hset : ∀ g, (fs g).set j (.int x) = fs (upd g j x)) {F : qM → Option β} (h : qOk (qvl (qst M k j x) F) P) (hdg : decode cc pc = .ok (.putfield index, 3))
    (kk : ∀ (M1 : qM) (H1 : Heap) (locs1 : List Loc), qHC n E G h0 M1 s.heap H1 locs1 → qOk (F M1) P → W p l e R s m args below meth c H1 locs1 cells slots Q (F0 m (pc + 3) ls rest)) : W p l e R s m args below meth c H locs cells slots Q (F0 m pc ls (.int x :: .ref (h0 + k) :: rest)) := by
  refine va_put hx hb hts hin ty0 hty hnm hown hK.1 hC.1 qWl_Dc hC.2 k (by rw [qWl_get hk, hE]) hc j hj hlink (fun _ h9 => h9) hfin hd rfl rfl hl hdg (fun H1 locs1 h1 _ h3 => kk _ H1 locs1 ⟨?_, h3⟩ h)
  rw [qWl_set (ad := fun k => h0 + k) (M' := qst M k j x) hk (by rw [hE, qst_s, hset]) (fun i hi => qst_n hi)] at h1
  exact h1
theorem yc_getr (hx : p.tables.exec = Jvm.exec) (hb : c.code = cc) {own C : String} {T : u_T} {nf ci index : Nat} {Ts : List Cond} (hts : ∀ w ∈ Ts, w.before args s = true) (hin : ∀ w ∈ u_ws C T nf, w ∈ Ts) (hown : s.vm.findClass own = some m.cls) (hK : qK G s) (hC : qHC n E G h0 M s.heap H locs) {k : Nat} (hk : k < n) {fs : (Nat → Int32) → List Value} (hE : ∀ g, E G (fun k => h0 + k) g k = .inr (ci, fs g)) (hc : vwCl[ci]? = some (C, T, nf)) (j : Nat) (hj : j < nf)
    (hlink : (Cond.fieldLink own index (T j).1 (T j).2.1 (T j).2.2.1).before args s = true) {a : Nat} (hv : (fs (M k))[j]? = some (qrf (M k j) a)) {X : Option β} (h : qOk (qfl (M k j) X) P) (hdg : decode cc pc = .ok (.getfield index, 3))
    (kk : qOk X P → W p l e R s m args below meth c H locs cells slots Q (F0 m (pc + 3) ls (.ref a :: rest))) : W p l e R s m args below meth c H locs cells slots Q (F0 m pc ls (.ref (h0 + k) :: rest)) := by
  obtain ⟨hf, h⟩ := qOk.fl h
  have hq : qrf (M k j) a = .ref a := if_neg hf
  rw [hq] at hv
  exact va_get hx hb hts hin hown hK.1 hC.1 k (by rw [qWl_get hk, hE]) hc j hj hlink (fun _ h9 => h9) hv hdg (kk h)
theorem yc_iast (hx : p.tables.exec = Jvm.exec) (hb : c.code = cc) (hK : qK G s) (hC : qHC n E G h0 M s.heap H locs) {k len : Nat} (hk : qAr n E k len) {i x : Int32} {F : qM → Option β} (h : qOk (qwr M k len i x F) P) (hdg : decode cc pc = .ok (.iastore, 1))
    (kk : ∀ (M1 : qM) (H1 : Heap) (locs1 : List Loc), qHC n E G h0 M1 s.heap H1 locs1 → qOk (F M1) P → W p l e R s m args below meth c H1 locs1 cells slots Q (F0 m (pc + 1) ls rest)) : W p l e R s m args below meth c H locs cells slots Q (F0 m pc ls (.int x :: .int i :: .ref (h0 + k) :: rest)) := by
  obtain ⟨hi, h⟩ := qOk.ck h
  refine va_iast hx hb hK.1 hC.1 qWl_Dc hC.2 k 0 (by rw [qWl_get hk.1, hk.2]) rfl hi hdg (fun H1 locs1 h1 _ h3 => kk _ H1 locs1 ⟨?_, h3⟩ h)
  rw [qWl_set (ad := fun k => h0 + k) (M' := qst M k i.toNatClampNeg x) hk.1 (by rw [hk.2, qst_s]) (fun j hj => qst_n hj)] at h1
  exact h1
variable {st0 : List Value} {a : Array Value}
theorem yc_cv {n' mc ms : Nat} {F : qM → Option β} {A1 free : Nat → Prop} (hC : qHC n E G h0 M s.heap H locs) (hA1 : ∀ q, A1 q → h0 ≤ q) (hfr : ∀ q, free q → h0 ≤ q) (hr : va_Run p l e R s m args below meth c H locs cells slots mc ms (F0 m pc ls st0) rest (va_Qv (fun u => qOk (F u) P) (fun u t => qHp n' E G (fun k => h0 + k) u t.heap) A1 a) free)
    (kk : ∀ (M1 : qM) (H1 : Heap) (locs1 : List Loc), qHC n' E G h0 M1 s.heap H1 locs1 → qOk (F M1) P → W p l e R s m args below meth c H1 locs1 (cells + mc) (slots + ms) Q (F0 m (pc + 3) ls rest)) : W p l e R s m args below meth c H locs cells slots Q (F0 m pc ls st0) :=
  va_callv hr hC.2 (fun q _ h => hA1 q h) hfr (fun u t H1 locs1 ht _ hw hB _ _ hS => kk u H1 locs1 ⟨by rw [← ht]; exact hB, hS⟩ hw)
end QC
def qD1 (b : Nat) (ad : Nat → Nat) (g : Nat → Int32) : List Value := [qrf (g 0) (ad (b + 1)), qrf (g 1) (ad (b + 2)), qrf (g 2) (ad (b + 3)), .int (g 3), .int (g 4), .int (g 5), .int (g 6), .int (g 7), qrf (g 8) (ad (b + 4)), qrf (g 9) (ad (b + 5)), qrf (g 10) (ad (b + 6)), qrf (g 11) (ad (b + 7)), qrf (g 12) (ad (b + 8)), qrf (g 13) (ad (b + 9)), qrf (g 14) (ad (b + 10)), qrf (g 15) (ad (b + 11))]
def qD0 (b : Nat) (ad : Nat → Nat) (g : Nat → Int32) : List Value := [qrf (g 0) (ad (b + 1)), qrf (g 1) (ad (b + 2)), .int (g 2)]
def qD6 (b : Nat) (ad : Nat → Nat) (g : Nat → Int32) : List Value := [qrf (g 0) (ad (b + 1))]
def qD7 (ad : Nat → Nat) (g : Nat → Int32) : List Value := [qrf (g 0) (ad 1), qrf (g 1) (ad 13), qrf (g 2) (ad 38), qrf (g 3) (ad 39), qrf (g 4) (ad 44), qrf (g 5) (ad 47), qrf (g 6) (ad 63), qrf (g 7) (ad 65), qrf (g 8) (ad 70)]
def qD2 (ad : Nat → Nat) (g : Nat → Int32) : List Value := [qrf (g 0) (ad 40), .int (g 1), qrf (g 2) (ad 41), qrf (g 3) (ad 42), qrf (g 4) (ad 43), .int (g 5), .int (g 6)]
def qD3 (ad : Nat → Nat) (g : Nat → Int32) : List Value := [qrf (g 0) (ad 66), qrf (g 1) (ad 68), qrf (g 2) (ad 69), .int (g 3), .int (g 4)]
def qD4 (ad : Nat → Nat) (g : Nat → Int32) : List Value := [qrf (g 0) (ad 48), .int (g 1), .int (g 2), .int (g 3), .int (g 4), qrf (g 5) (ad 60)]
def qD5 (ad : Nat → Nat) (g : Nat → Int32) : List Value := [qrf (g 0) (ad 71), qrf (g 1) (ad 72), qrf (g 2) (ad 73), qrf (g 3) (ad 74), .int (g 4)]
def qD8 (ad : Nat → Nat) (g : Nat → Int32) : List Value := [qrf (g 0) (ad 1), qrf (g 1) (ad 2), .int (g 2), qrf (g 3) (ad 3), qrf (g 4) (ad 4), qrf (g 5) (ad 5), qrf (g 6) (ad 6), qrf (g 7) (ad 7), .int (g 8), .int (g 9), qrf (g 10) (ad 8), .int (g 11), qrf (g 12) (ad 9), .int (g 13), .int (g 14), qrf (g 15) (ad 10), .int (g 16), .int (g 17), qrf (g 18) (ad 11), qrf (g 19) (ad 12), qrf (g 20) (ad 13), qrf (g 21) (ad 14), qrf (g 22) (ad 15), qrf (g 23) (ad 16)]
def c1 : qE := fun G ad g k => match k with
  | 0 => .inr (7, qD7 ad g)
  | 1 => .inr (1, qD1 1 ad g)
  | 2 => .inl (G.2.1, 10, .inl g)
  | 3 => .inl (G.2.1, 10, .inl g)
  | 4 => .inl (G.2.1, 10, .inl g)
  | 5 => .inl (G.2.1, 8, .inl g)
  | 6 => .inl (G.2.1, 8, .inl g)
  | 7 => .inl (G.2.1, 8, .inl g)
  | 8 => .inl (G.2.1, 8, .inl g)
  | 9 => .inl (G.2.1, 8, .inl g)
  | 10 => .inl (G.2.1, 8, .inl g)
  | 11 => .inl (G.2.1, 8, .inl g)
  | 12 => .inl (G.2.1, 8, .inl g)
  | 13 => .inl (G.2.2.2, 2, .inr (.inr (.inr (.inr (fun i => if g i = 0 then none else some (ad (qIm i)))))))
  | 14 => .inr (1, qD1 14 ad g)
  | 15 => .inl (G.2.1, 10, .inl g)
  | 16 => .inl (G.2.1, 10, .inl g)
  | 17 => .inl (G.2.1, 10, .inl g)
  | 18 => .inl (G.2.1, 8, .inl g)
  | 19 => .inl (G.2.1, 8, .inl g)
  | 20 => .inl (G.2.1, 8, .inl g)
  | 21 => .inl (G.2.1, 8, .inl g)
  | 22 => .inl (G.2.1, 8, .inl g)
  | 23 => .inl (G.2.1, 8, .inl g)
  | 24 => .inl (G.2.1, 8, .inl g)
  | 25 => .inl (G.2.1, 8, .inl g)
  | 26 => .inr (1, qD1 26 ad g)
  | 27 => .inl (G.2.1, 10, .inl g)
  | 28 => .inl (G.2.1, 10, .inl g)
  | 29 => .inl (G.2.1, 10, .inl g)
  | 30 => .inl (G.2.1, 8, .inl g)
  | 31 => .inl (G.2.1, 8, .inl g)
  | 32 => .inl (G.2.1, 8, .inl g)
  | 33 => .inl (G.2.1, 8, .inl g)
  | 34 => .inl (G.2.1, 8, .inl g)
  | 35 => .inl (G.2.1, 8, .inl g)
  | 36 => .inl (G.2.1, 8, .inl g)
  | 37 => .inl (G.2.1, 8, .inl g)
  | 38 => .inl (G.2.2.1, 2, .inl g)
  | 39 => .inr (2, qD2 ad g)
  | 40 => .inl (G.2.1, 60, .inl g)
  | 41 => .inl (G.2.1, 60, .inl g)
  | 42 => .inl (G.2.1, 60, .inl g)
  | 43 => .inl (G.2.1, 60, .inl g)
  | 44 => .inr (0, qD0 44 ad g)
  | 45 => .inl (G.2.1, 10, .inl g)
  | 46 => .inl (G.2.1, 10, .inl g)
  | 47 => .inr (4, qD4 ad g)
  | 48 => .inr (1, qD1 48 ad g)
  | 49 => .inl (G.2.1, 10, .inl g)
  | 50 => .inl (G.2.1, 10, .inl g)
  | 51 => .inl (G.2.1, 10, .inl g)
  | 52 => .inl (G.2.1, 8, .inl g)
  | 53 => .inl (G.2.1, 8, .inl g)
  | 54 => .inl (G.2.1, 8, .inl g)
  | 55 => .inl (G.2.1, 8, .inl g)
  | 56 => .inl (G.2.1, 8, .inl g)
  | 57 => .inl (G.2.1, 8, .inl g)
  | 58 => .inl (G.2.1, 8, .inl g)
  | 59 => .inl (G.2.1, 8, .inl g)
  | 60 => .inr (0, qD0 60 ad g)
  | 61 => .inl (G.2.1, 10, .inl g)
  | 62 => .inl (G.2.1, 10, .inl g)
  | 63 => .inr (6, qD6 63 ad g)
  | 64 => .inl (G.2.1, 10, .inl g)
  | 65 => .inr (3, qD3 ad g)
  | 66 => .inr (6, qD6 66 ad g)
  | 67 => .inl (G.2.1, 10, .inl g)
  | 68 => .inl (G.2.1, 10, .inl g)
  | 69 => .inl (G.2.1, 25, .inl g)
  | 70 => .inr (5, qD5 ad g)
  | 71 => .inl (G.2.1, 3, .inl g)
  | 72 => .inl (G.2.1, 3, .inl g)
  | 73 => .inl (G.2.1, 300, .inl g)
  | 74 => .inl (G.2.1, 300, .inl g)
  | _ => .inr (0, [])
def c2 : qE := fun G ad g k => match k with
  | 0 => .inr (8, qD8 ad g)
  | 1 => .inl (G.2.1, 36, .inl g)
  | 2 => .inl (G.2.1, 36, .inl g)
  | 3 => .inl (G.2.1, 8, .inl g)
  | 4 => .inl (G.2.1, 8, .inl g)
  | 5 => .inl (G.2.1, 8, .inl g)
  | 6 => .inl (G.2.1, 10, .inl g)
  | 7 => .inl (G.2.1, 10, .inl g)
  | 8 => .inl (G.2.1, 16, .inl g)
  | 9 => .inl (G.2.1, 60, .inl g)
  | 10 => .inl (G.2.1, 10, .inl g)
  | 11 => .inl (G.2.1, 10, .inl g)
  | 12 => .inl (G.2.2.1, 10000, .inl g)
  | 13 => .inl (G.2.1, 100, .inl g)
  | 14 => .inl (G.2.1, 25, .inl g)
  | 15 => .inl (G.2.1, 220, .inl g)
  | 16 => .inl (G.2.2.1, 2, .inl g)
  | _ => .inr (0, [])
theorem qMi_c {b : Nat} (w : qMi b) (G : qG) (ad : Nat → Nat) (g : Nat → Int32) : c1 G ad g b = .inr (1, qD1 b ad g) := by
  rcases w with rfl | rfl | rfl | rfl <;> rfl
theorem qMi_c1 {b : Nat} (w : qMi b) (G : qG) (ad : Nat → Nat) (g : Nat → Int32) : c1 G ad g (b + 1) = .inl (G.2.1, 10, .inl g) := by
  rcases w with rfl | rfl | rfl | rfl <;> rfl
theorem qMi_c2 {b : Nat} (w : qMi b) (G : qG) (ad : Nat → Nat) (g : Nat → Int32) : c1 G ad g (b + 2) = .inl (G.2.1, 10, .inl g) := by
  rcases w with rfl | rfl | rfl | rfl <;> rfl
theorem qMi_c3 {b : Nat} (w : qMi b) (G : qG) (ad : Nat → Nat) (g : Nat → Int32) : c1 G ad g (b + 3) = .inl (G.2.1, 10, .inl g) := by
  rcases w with rfl | rfl | rfl | rfl <;> rfl
theorem qMi_c4 {b : Nat} (w : qMi b) (G : qG) (ad : Nat → Nat) (g : Nat → Int32) : c1 G ad g (b + 4) = .inl (G.2.1, 8, .inl g) := by
  rcases w with rfl | rfl | rfl | rfl <;> rfl
theorem qMi_c5 {b : Nat} (w : qMi b) (G : qG) (ad : Nat → Nat) (g : Nat → Int32) : c1 G ad g (b + 5) = .inl (G.2.1, 8, .inl g) := by
  rcases w with rfl | rfl | rfl | rfl <;> rfl
theorem qMi_c6 {b : Nat} (w : qMi b) (G : qG) (ad : Nat → Nat) (g : Nat → Int32) : c1 G ad g (b + 6) = .inl (G.2.1, 8, .inl g) := by
  rcases w with rfl | rfl | rfl | rfl <;> rfl
theorem qMi_c7 {b : Nat} (w : qMi b) (G : qG) (ad : Nat → Nat) (g : Nat → Int32) : c1 G ad g (b + 7) = .inl (G.2.1, 8, .inl g) := by
  rcases w with rfl | rfl | rfl | rfl <;> rfl
theorem qMi_c8 {b : Nat} (w : qMi b) (G : qG) (ad : Nat → Nat) (g : Nat → Int32) : c1 G ad g (b + 8) = .inl (G.2.1, 8, .inl g) := by
  rcases w with rfl | rfl | rfl | rfl <;> rfl
theorem qMi_c9 {b : Nat} (w : qMi b) (G : qG) (ad : Nat → Nat) (g : Nat → Int32) : c1 G ad g (b + 9) = .inl (G.2.1, 8, .inl g) := by
  rcases w with rfl | rfl | rfl | rfl <;> rfl
theorem qMi_c10 {b : Nat} (w : qMi b) (G : qG) (ad : Nat → Nat) (g : Nat → Int32) : c1 G ad g (b + 10) = .inl (G.2.1, 8, .inl g) := by
  rcases w with rfl | rfl | rfl | rfl <;> rfl
theorem qMi_c11 {b : Nat} (w : qMi b) (G : qG) (ad : Nat → Nat) (g : Nat → Int32) : c1 G ad g (b + 11) = .inl (G.2.1, 8, .inl g) := by
  rcases w with rfl | rfl | rfl | rfl <;> rfl
theorem qLa_c {b : Nat} (w : qLa b) (G : qG) (ad : Nat → Nat) (g : Nat → Int32) : c1 G ad g b = .inr (0, qD0 b ad g) := by
  rcases w with rfl | rfl <;> rfl
theorem qLa_c1 {b : Nat} (w : qLa b) (G : qG) (ad : Nat → Nat) (g : Nat → Int32) : c1 G ad g (b + 1) = .inl (G.2.1, 10, .inl g) := by
  rcases w with rfl | rfl <;> rfl
theorem qLa_c2 {b : Nat} (w : qLa b) (G : qG) (ad : Nat → Nat) (g : Nat → Int32) : c1 G ad g (b + 2) = .inl (G.2.1, 10, .inl g) := by
  rcases w with rfl | rfl <;> rfl
theorem qWy_c {b : Nat} (w : qWy b) (G : qG) (ad : Nat → Nat) (g : Nat → Int32) : c1 G ad g b = .inr (6, qD6 b ad g) := by
  rcases w with rfl | rfl <;> rfl
theorem qWy_c1 {b : Nat} (w : qWy b) (G : qG) (ad : Nat → Nat) (g : Nat → Int32) : c1 G ad g (b + 1) = .inl (G.2.1, 10, .inl g) := by
  rcases w with rfl | rfl <;> rfl
theorem qMi_14 : qMi 14 := Or.inr (Or.inl rfl)
theorem qMi_26 : qMi 26 := Or.inr (Or.inr (Or.inl rfl))
section QD
variable {p : Program} {l : Launch} {e : Env} {R : Room} {s : State} {m : MethodId} {args : Array Value} {below : List Frame} {meth : Method} {c : Code} {H : Heap} {locs : List Loc} {cells slots : Nat} {Q : State → Prop}
variable {cc : ByteArray} {pc : Nat} {ls : Array Slot} {rest : List Value} {n h0 : Nat} {G : qG} {M : qM} {β : Type} {P : β → Prop}
theorem yc_aast (hx : p.tables.exec = Jvm.exec) (hb : c.code = cc) (hK : qK G s) (hC : qHC n c1 G h0 M s.heap H locs) (h13 : 13 < n) {v : Nat} (hv : v < n) (w : qMi v) {i : Int32} {j : Nat} (hj : i.toNatClampNeg = j) (him : qIm j = v) (hin : ¬ (i < 0 ∨ 2 ≤ i.toNatClampNeg)) {F : qM → Option β} (h : qOk (qvl (qst M 13 j 1) F) P) (hdg : decode cc pc = .ok (.aastore, 1))
    (kk : ∀ (M1 : qM) (H1 : Heap) (locs1 : List Loc), qHC n c1 G h0 M1 s.heap H1 locs1 → qOk (F M1) P → W p l e R s m args below meth c H1 locs1 cells slots Q (F0 m (pc + 1) ls rest)) : W p l e R s m args below meth c H locs cells slots Q (F0 m pc ls (.ref (h0 + v) :: .int i :: .ref (h0 + 13) :: rest)) := by
  subst hj
  refine va_astq (r := (RX1, TX1, 16)) (f := fun k => if M 13 k = 0 then none else some (h0 + qIm k)) hx hb hK.1 hC.1 qWl_Dc hC.2 13 2 v 1 (by rw [qWl_get h13]; rfl) rfl (by rw [qWl_get hv, qMi_c w]) rfl hin hdg (fun H1 locs1 h1 _ h3 => kk _ H1 locs1 ⟨?_, h3⟩ h)
  rw [qWl_set (ad := fun k => h0 + k) (M' := qst M 13 i.toNatClampNeg 1) h13 ?_ (fun k hk => qst_n hk)] at h1
  · exact h1
  · rw [qst_s]
    show Sum.inl (G.2.2.2, 2, Sum.inr (Sum.inr (Sum.inr (Sum.inr (fun k => if upd (M 13) i.toNatClampNeg 1 k = 0 then none else some (h0 + qIm k)))))) = _
    congr 7
    funext k
    by_cases hk : k = i.toNatClampNeg
    · subst hk
      rw [show upd (M 13) i.toNatClampNeg 1 i.toNatClampNeg = 1 by simp [upd], him]
      simp [va_up]
    · simp [va_up, upd, hk]
end QD
def kX1_init (b0 : Nat) (M : qM) : Option qM :=
  qvl (qcp M (b0 + 1) (fun _ => 0)) (fun M1 => qvl (qst M1 b0 0 1) (fun M2 => qvl (qcp M2 (b0 + 2) (fun _ => 0)) (fun M3 => qvl (qst M3 b0 1 1) (fun M4 => qvl (qcp M4 (b0 + 3) (fun _ => 0)) (fun M5 => qvl (qst M5 b0 2 1) (fun M6 => qvl (qcp M6 (b0 + 4) (fun _ => 0)) (fun M7 => qvl (qst M7 b0 8 1) (fun M8 => qvl (qcp M8 (b0 + 5) (fun _ => 0)) (fun M9 => qvl (qst M9 b0 9 1) (fun M10 => qvl (qcp M10 (b0 + 6) (fun _ => 0)) (fun M11 => qvl (qst M11 b0 10 1) (fun M12 => qvl (qcp M12 (b0 + 7) (fun _ => 0)) (fun M13 => qvl (qst M13 b0 11 1) (fun M14 => qvl (qcp M14 (b0 + 8) (fun _ => 0)) (fun M15 => qvl (qst M15 b0 12 1) (fun M16 => qvl (qcp M16 (b0 + 9) (fun _ => 0)) (fun M17 => qvl (qst M17 b0 13 1) (fun M18 => qvl (qcp M18 (b0 + 10) (fun _ => 0)) (fun M19 => qvl (qst M19 b0 14 1) (fun M20 => qvl (qcp M20 (b0 + 11) (fun _ => 0)) (fun M21 => qvl (qst M21 b0 15 1) (fun M22 => qfl (M22 b0 1) (qwr M22 (b0 + 2) 10 0 0 (fun M23 => qfl (M23 b0 1) (qwr M23 (b0 + 2) 10 1 1 (fun M24 => qfl (M24 b0 1) (qwr M24 (b0 + 2) 10 2 2 (fun M25 => qfl (M25 b0 1) (qwr M25 (b0 + 2) 10 3 3 (fun M26 => qfl (M26 b0 1) (qwr M26 (b0 + 2) 10 4 4 (fun M27 => qfl (M27 b0 1) (qwr M27 (b0 + 2) 10 5 5 (fun M28 => qfl (M28 b0 1) (qwr M28 (b0 + 2) 10 6 6 (fun M29 => qfl (M29 b0 1) (qwr M29 (b0 + 2) 10 7 7 (fun M30 => qfl (M30 b0 1) (qwr M30 (b0 + 2) 10 8 8 (fun M31 => qfl (M31 b0 1) (qwr M31 (b0 + 2) 10 9 9 (fun M32 => qfl (M32 b0 13) (qb1 (kJ7_fill_53178 M32 (b0 + 9) 8 (-1)) (fun M33 => some M33))))))))))))))))))))))))))))))))))))))))))))

def kX0_init (b0 : Nat) (M : qM) : Option qM :=
  qvl (qcp M (b0 + 1) (fun _ => 0)) (fun M1 => qvl (qst M1 b0 0 1) (fun M2 => qvl (qcp M2 (b0 + 2) (fun _ => 0)) (fun M3 => qvl (qst M3 b0 1 1) (fun M4 => some M4))))

def kX6_init (b0 : Nat) (M : qM) : Option qM :=
  qvl (qcp M (b0 + 1) (fun _ => 0)) (fun M1 => qvl (qst M1 b0 0 1) (fun M2 => some M2))

def kX2_init (M : qM) : Option qM :=
  qvl (qcp M 40 (fun _ => 0)) (fun M1 => qvl (qst M1 39 0 1) (fun M2 => qvl (qcp M2 41 (fun _ => 0)) (fun M3 => qvl (qst M3 39 2 1) (fun M4 => qvl (qcp M4 42 (fun _ => 0)) (fun M5 => qvl (qst M5 39 3 1) (fun M6 => qvl (qcp M6 43 (fun _ => 0)) (fun M7 => qvl (qst M7 39 4 1) (fun M8 => some M8))))))))

def kX3_init (M : qM) : Option qM :=
  qvl (qcp M 66 (fun _ => 0)) (fun M1 => qb1 (kX6_init 66 M1) (fun M2 => qvl (qst M2 65 0 1) (fun M3 => qvl (qcp M3 68 (fun _ => 0)) (fun M4 => qvl (qst M4 65 1 1) (fun M5 => qvl (qcp M5 69 (fun _ => 0)) (fun M6 => qvl (qst M6 65 2 1) (fun M7 => qvl (qst M7 65 3 (-6)) (fun M8 => qvl (qst M8 65 4 (-6)) (fun M9 => some M9)))))))))

def kX5_init (M : qM) : Option qM :=
  qvl (qcp M 71 (fun _ => 0)) (fun M1 => qvl (qst M1 70 0 1) (fun M2 => qvl (qcp M2 72 (fun _ => 0)) (fun M3 => qvl (qst M3 70 1 1) (fun M4 => qvl (qcp M4 73 (fun _ => 0)) (fun M5 => qvl (qst M5 70 2 1) (fun M6 => qvl (qcp M6 74 (fun _ => 0)) (fun M7 => qvl (qst M7 70 3 1) (fun M8 => some M8))))))))

def kX4_init (M : qM) : Option qM :=
  qvl (qcp M 48 (fun _ => 0)) (fun M1 => qb1 (kX1_init 48 M1) (fun M2 => qvl (qst M2 47 0 1) (fun M3 => qvl (qst M3 47 1 (-6)) (fun M4 => qvl (qst M4 47 2 (-6)) (fun M5 => qvl (qst M5 47 3 (-6)) (fun M6 => qvl (qst M6 47 4 (-6)) (fun M7 => qvl (qcp M7 60 (fun _ => 0)) (fun M8 => qb1 (kX0_init 60 M8) (fun M9 => qvl (qst M9 47 5 1) (fun M10 => some M10))))))))))

def kX7_init (M : qM) : Option qM :=
  qvl (qcp M 1 (fun _ => 0)) (fun M1 => qb1 (kX1_init 1 M1) (fun M2 => qvl (qst M2 0 0 1) (fun M3 => qvl (qcp M3 13 (fun _ => 0)) (fun M4 => qvl (qst M4 0 1 1) (fun M5 => qfl (M5 0 1) (qvl (qcp M5 14 (fun _ => 0)) (fun M6 => qb1 (kX1_init 14 M6) (fun M7 => qvl (qst M7 13 0 1) (fun M8 => qfl (M8 0 1) (qvl (qcp M8 26 (fun _ => 0)) (fun M9 => qb1 (kX1_init 26 M9) (fun M10 => qvl (qst M10 13 1 1) (fun M11 => qvl (qcp M11 38 (fun _ => 0)) (fun M12 => qvl (qst M12 0 2 1) (fun M13 => qvl (qcp M13 39 (fun _ => 0)) (fun M14 => qb1 (kX2_init M14) (fun M15 => qvl (qst M15 0 3 1) (fun M16 => qvl (qcp M16 44 (fun _ => 0)) (fun M17 => qb1 (kX0_init 44 M17) (fun M18 => qvl (qst M18 0 4 1) (fun M19 => qvl (qcp M19 47 (fun _ => 0)) (fun M20 => qb1 (kX4_init M20) (fun M21 => qvl (qst M21 0 5 1) (fun M22 => qvl (qcp M22 63 (fun _ => 0)) (fun M23 => qb1 (kX6_init 63 M23) (fun M24 => qvl (qst M24 0 6 1) (fun M25 => qvl (qcp M25 65 (fun _ => 0)) (fun M26 => qb1 (kX3_init M26) (fun M27 => qvl (qst M27 0 7 1) (fun M28 => qvl (qcp M28 70 (fun _ => 0)) (fun M29 => qb1 (kX5_init M29) (fun M30 => qvl (qst M30 0 8 1) (fun M31 => some M31)))))))))))))))))))))))))))))))))

def kX8_init (M : qM) : Option qM :=
  qvl (qcp M 1 (fun _ => 0)) (fun M1 => qvl (qst M1 0 0 1) (fun M2 => qvl (qcp M2 2 (fun _ => 0)) (fun M3 => qvl (qst M3 0 1 1) (fun M4 => qvl (qcp M4 3 (fun _ => 0)) (fun M5 => qvl (qst M5 0 3 1) (fun M6 => qvl (qcp M6 4 (fun _ => 0)) (fun M7 => qvl (qst M7 0 4 1) (fun M8 => qvl (qcp M8 5 (fun _ => 0)) (fun M9 => qvl (qst M9 0 5 1) (fun M10 => qvl (qcp M10 6 (fun _ => 0)) (fun M11 => qvl (qst M11 0 6 1) (fun M12 => qvl (qcp M12 7 (fun _ => 0)) (fun M13 => qvl (qst M13 0 7 1) (fun M14 => qvl (qcp M14 8 (fun _ => 0)) (fun M15 => qvl (qst M15 0 10 1) (fun M16 => qvl (qcp M16 9 (fun _ => 0)) (fun M17 => qvl (qst M17 0 12 1) (fun M18 => qvl (qcp M18 10 (fun _ => 0)) (fun M19 => qvl (qst M19 0 15 1) (fun M20 => qvl (qcp M20 11 (fun _ => 0)) (fun M21 => qvl (qst M21 0 18 1) (fun M22 => qvl (qcp M22 12 (fun _ => 0)) (fun M23 => qvl (qst M23 0 19 1) (fun M24 => qvl (qcp M24 13 (fun _ => 0)) (fun M25 => qvl (qst M25 0 20 1) (fun M26 => qvl (qcp M26 14 (fun _ => 0)) (fun M27 => qvl (qst M27 0 21 1) (fun M28 => qvl (qcp M28 15 (fun _ => 0)) (fun M29 => qvl (qst M29 0 22 1) (fun M30 => qvl (qcp M30 16 (fun _ => 0)) (fun M31 => qvl (qst M31 0 23 1) (fun M32 => qfl (M32 0 0) (qwr M32 1 36 0 (-6) (fun M33 => qfl (M33 0 0) (qwr M33 1 36 1 (-6) (fun M34 => qfl (M34 0 0) (qwr M34 1 36 2 (-6) (fun M35 => qfl (M35 0 0) (qwr M35 1 36 3 (-6) (fun M36 => qfl (M36 0 0) (qwr M36 1 36 4 (-6) (fun M37 => qfl (M37 0 0) (qwr M37 1 36 5 (-6) (fun M38 => qfl (M38 0 0) (qwr M38 1 36 6 (-6) (fun M39 => qfl (M39 0 0) (qwr M39 1 36 7 (-6) (fun M40 => qfl (M40 0 7) (qwr M40 7 10 0 0 (fun M41 => qfl (M41 0 7) (qwr M41 7 10 1 1 (fun M42 => qfl (M42 0 7) (qwr M42 7 10 2 2 (fun M43 => qfl (M43 0 7) (qwr M43 7 10 3 3 (fun M44 => qfl (M44 0 7) (qwr M44 7 10 4 4 (fun M45 => qfl (M45 0 7) (qwr M45 7 10 5 5 (fun M46 => qfl (M46 0 7) (qwr M46 7 10 6 6 (fun M47 => qfl (M47 0 7) (qwr M47 7 10 7 7 (fun M48 => qfl (M48 0 7) (qwr M48 7 10 8 8 (fun M49 => qfl (M49 0 7) (qwr M49 7 10 9 9 (fun M50 => some M50))))))))))))))))))))))))))))))))))))))))))))))))))))))))))))))))))))
