def R_law : String := "SongLampsLaw"
def lw_P (b : Addr) (xs : List Int32) (args : Array Value) (s : State) : Prop := args = #[.ref b] ∧ s.IntsAt b xs ∧ xs.length ≤ 384 ∧ (Jvm.Cond.and given_1 narrow_1).before args s = true
def lw_Q (_ : Array Value) (s : State) (o : Outcome) (t : State) : Prop := o = .returned (some (.int 1)) ∧ Framed s o t [] 600000 7302250
def lw_Z (below : List Frame) (a : Array Value) (s : State) : State → Prop := fun t => ∃ o, t.status = .running ∧ Ended t below o ∧ lw_Q a s o t
/-- the law's own end, with 1 on the stack, nothing written that was there before, its room as the claim has it -/
theorem lw_ret {p : Program} {l : Launch} {e : Env} {s : State} {m : MethodId} {below : List Frame} {meth : Method} {c : Code} {b : Nat} (hx : p.tables.exec = Jvm.exec) (hb : c.code = code) (hr : meth.sig.returnType = ret) (hlocks : meth.locks = false) {pc : Nat} {H : Heap} {ls : Array Slot} (hdg : decode code pc = .ok (.ireturn, 1)) : W p l e room_1 s m #[Value.ref b] below meth c H [] 600000 7302250 (lw_Z below #[Value.ref b] s) (F0 m pc ls [.int 1]) := by
  intro T hT X
  obtain ⟨fs, hret, hrun, hended, hW, hframe⟩ := X.leave (v := some (.int 1)) (hlocks := hlocks) (fun h => by rw [hr] at h; cases h)
  have hmeth' : T.vm.method? m = some meth := X.method'
  refine ⟨T.setFrames fs, ?_, .returned (some (.int 1)), hrun, hended, rfl, ⟨_, rfl⟩, hW, hframe⟩
  jvm_step X.here [X.here.top, hx, hb, hdg, hmeth', hr, ret, narrow_b1]
  (try refine ⟨rfl, ?_⟩); (try refine ⟨rfl, ?_⟩)
  first | (intro acts; rw [hret _ acts rfl rfl rfl]) | rw [hret _ _ rfl rfl rfl]
  exact Steps.refl _
/-- what holds at the law's entry: the machine, the code, the tables' words (any of lw_tbl by 'hts w (by decide +kernel)'), the script of L ints xs at the cell b, what the Statement gives of the start (any of its parts by flat_of_before) -/
def lw_At (p : Program) (s : State) (m : MethodId) (meth : Method) (c : Code) (b L : Nat) (xs : Nat → Int32) : Prop :=
  p.tables.exec = Jvm.exec ∧ c.code = code ∧ meth.sig.returnType = ret ∧ c.maxLocals = 4 ∧ s.vm.findClass R_law = some m.cls ∧ (∀ w ∈ lw_tbl, w.before #[Value.ref b] s = true) ∧ va_X b L xs s s.heap ∧ b < s.heap.size ∧ meth.locks = false ∧ (Jvm.Cond.and given_1 narrow_1).before #[Value.ref b] s = true
/-! THE LAW: the two worlds beside each other: the class from h0 on, the reference behind it -/
def qLw (G : qG) (h0 : Nat) (M1 M2 : qM) (H : Heap) : Prop := qHp W1N e1 G (fun k => h0 + k) M1 H ∧ qHp W2N e2 G (fun k => h0 + 75 + k) M2 H
theorem qPre.atL {N : Nat} {E : qE} {G : qG} {ad : Nat → Nat} {M : qM} {H : Heap} {s : State} {av : List Value} (hK : qK G s) (hP : qHp N E G ad M H) : ∀ U : State, U.heap = H → s.WarmedH U.vm → va_Pc av (qPre N E G ad M H.size) av.toArray U := fun U hU hW => ⟨rfl, by rw [hU], qK.moved hW hK, by rw [hU]; exact hP⟩
theorem qrecvL {N : Nat} {E : qE} {G : qG} {ad : Nat → Nat} {M : qM} {H : Heap} {s : State} (hK : qK G s) (hP : qHp N E G ad M H) {k ci : Nat} {fs : (Nat → Nat) → (Nat → Int32) → List Value} (hk : qOb N E k ci fs) {q : vw_C} (hc : vwCl[ci]? = some q) : ∃ cell : Cell, H[ad k]? = some cell ∧ cell.vm.isStatics = false ∧ s.vm.findClass q.1 = some cell.cls :=
  va_recv hK.1 hP hc (by rw [qWl_get hk.1, hk.2])
theorem qLw.k1 {G : qG} {h0 : Nat} {M1 M2 u : qM} {H H1 : Heap} (hL : qLw G h0 M1 M2 H) (hu : qHp W1N e1 G (fun k => h0 + k) u H1) (hk : ∀ q : Nat, q < H.size → ¬ qA W1N (fun k => h0 + k) H.size q → H1[q]? = H[q]?) : qLw G h0 u M2 H1 := by
  refine ⟨hu, va_P.kept hL.2 (fun k q hq => ?_)⟩
  have hlt := (hL.2 k q hq).lt
  obtain ⟨h1, rfl⟩ := qWl_inv hq
  refine hk _ hlt (fun hA => ?_)
  rcases hA with ⟨j, hj, he⟩ | hA
  · have he : h0 + 75 + k = h0 + j := he
    have hj : j < 75 := hj
    omega
  · have hlt : h0 + 75 + k < H.size := hlt
    have hA : H.size ≤ h0 + 75 + k := hA
    omega
theorem qLw.k2 {G : qG} {h0 : Nat} {M1 M2 u : qM} {H H1 : Heap} (hL : qLw G h0 M1 M2 H) (hu : qHp W2N e2 G (fun k => h0 + 75 + k) u H1) (hk : ∀ q : Nat, q < H.size → ¬ qA W2N (fun k => h0 + 75 + k) H.size q → H1[q]? = H[q]?) : qLw G h0 M1 u H1 := by
  refine ⟨va_P.kept hL.1 (fun k q hq => ?_), hu⟩
  have hlt := (hL.1 k q hq).lt
  obtain ⟨h1, rfl⟩ := qWl_inv hq
  refine hk _ hlt (fun hA => ?_)
  have h1 : k < 75 := h1
  rcases hA with ⟨j, hj, he⟩ | hA
  · have he : h0 + k = h0 + 75 + j := he
    omega
  · have hlt : h0 + k < H.size := hlt
    have hA : H.size ≤ h0 + k := hA
    omega
theorem qA_1 {h0 sz : Nat} (h : h0 ≤ sz) (q : Nat) (hq : qA W1N (fun k => h0 + k) sz q) : h0 ≤ q := by
  rcases hq with ⟨k, -, rfl⟩ | hq
  · exact Nat.le_add_right h0 k
  · exact Nat.le_trans h hq
theorem qA_2 {h0 sz : Nat} (h : h0 ≤ sz) (q : Nat) (hq : qA W2N (fun k => h0 + 75 + k) sz q) : h0 ≤ q := by
  rcases hq with ⟨k, -, rfl⟩ | hq
  · show h0 ≤ h0 + 75 + k
    omega
  · exact Nat.le_trans h hq
section QL
variable {p : Program} {l : Launch} {e : Env} {R : Room} {s : State} {m : MethodId} {args : Array Value} {below : List Frame} {meth : Method} {c : Code} {H : Heap} {locs : List Loc} {cells slots : Nat} {Q : State → Prop}
variable {pc : Nat} {ls : Array Slot} {rest st0 : List Value} {a : Array Value} {G : qG} {M1 M2 : qM}
theorem yl_1i {P : Int32 → qM → Prop} (hL : qLw G s.heap.size M1 M2 H) (hS : va_S (fun q => s.heap.size ≤ q) s.heap H locs) (hr : va_Run p l e R s m args below meth c H locs cells slots 0 0 (F0 m pc ls st0) rest (va_Qi P (fun u t => qHp W1N e1 G (fun k => s.heap.size + k) u t.heap) (qA W1N (fun k => s.heap.size + k) H.size) a) (qA W1N (fun k => s.heap.size + k) H.size))
    (kk : ∀ (r : Int32) (M : qM) (H1 : Heap) (locs1 : List Loc), P r M → qLw G s.heap.size M M2 H1 → va_S (fun q => s.heap.size ≤ q) s.heap H1 locs1 → W p l e R s m args below meth c H1 locs1 cells slots Q (F0 m (pc + 3) ls (.int r :: rest))) : W p l e R s m args below meth c H locs cells slots Q (F0 m pc ls st0) :=
  va_calli hr hS (fun q _ h => qA_1 hS.1 q h) (fun q h => qA_1 hS.1 q h) (fun r u t H1 locs1 ht _ hw hB _ hk hS1 => kk r u H1 locs1 hw (hL.k1 (by rw [← ht]; exact hB) hk) hS1)
theorem yl_2i {P : Int32 → qM → Prop} (hL : qLw G s.heap.size M1 M2 H) (hS : va_S (fun q => s.heap.size ≤ q) s.heap H locs) (hr : va_Run p l e R s m args below meth c H locs cells slots 0 0 (F0 m pc ls st0) rest (va_Qi P (fun u t => qHp W2N e2 G (fun k => s.heap.size + 75 + k) u t.heap) (qA W2N (fun k => s.heap.size + 75 + k) H.size) a) (qA W2N (fun k => s.heap.size + 75 + k) H.size))
    (kk : ∀ (r : Int32) (M : qM) (H1 : Heap) (locs1 : List Loc), P r M → qLw G s.heap.size M1 M H1 → va_S (fun q => s.heap.size ≤ q) s.heap H1 locs1 → W p l e R s m args below meth c H1 locs1 cells slots Q (F0 m (pc + 3) ls (.int r :: rest))) : W p l e R s m args below meth c H locs cells slots Q (F0 m pc ls st0) :=
  va_calli hr hS (fun q _ h => qA_2 hS.1 q h) (fun q h => qA_2 hS.1 q h) (fun r u t H1 locs1 ht _ hw hB _ hk hS1 => kk r u H1 locs1 hw (hL.k2 (by rw [← ht]; exact hB) hk) hS1)
theorem yl_2l {P : Int64 → qM → Prop} (hL : qLw G s.heap.size M1 M2 H) (hS : va_S (fun q => s.heap.size ≤ q) s.heap H locs) (hr : va_Run p l e R s m args below meth c H locs cells slots 0 0 (F0 m pc ls st0) rest (va_Ql P (fun u t => qHp W2N e2 G (fun k => s.heap.size + 75 + k) u t.heap) (qA W2N (fun k => s.heap.size + 75 + k) H.size) a) (qA W2N (fun k => s.heap.size + 75 + k) H.size))
    (kk : ∀ (r : Int64) (M : qM) (H1 : Heap) (locs1 : List Loc), P r M → qLw G s.heap.size M1 M H1 → va_S (fun q => s.heap.size ≤ q) s.heap H1 locs1 → W p l e R s m args below meth c H1 locs1 cells slots Q (F0 m (pc + 3) ls (.long r :: rest))) : W p l e R s m args below meth c H locs cells slots Q (F0 m pc ls st0) :=
  va_calll hr hS (fun q _ h => qA_2 hS.1 q h) (fun q h => qA_2 hS.1 q h) (fun r u t H1 locs1 ht _ hw hB _ hk hS1 => kk r u H1 locs1 hw (hL.k2 (by rw [← ht]; exact hB) hk) hS1)
theorem yl_p {P : Int32 → Prop} (hr : va_Run p l e R s m args below meth c H locs cells slots 0 0 (F0 m pc ls st0) rest (vp_Si P a) (fun _ => False)) (kk : ∀ r : Int32, P r → W p l e R s m args below meth c H locs cells slots Q (F0 m (pc + 3) ls (.int r :: rest))) : W p l e R s m args below meth c H locs cells slots Q (F0 m pc ls st0) := by
  intro T hT X
  obtain ⟨v, st₀, t, T', L, h0, X', hL, e1, e2, ⟨r, hv, hp, hb⟩, st⟩ := hr T hT X
  cases hv
  have hL0 : L = [] := List.eq_nil_iff_forall_not_mem.mpr fun q hq => hL q hq
  subst hL0
  rw [List.append_nil] at X'
  obtain ⟨t2, a1, b1⟩ := kk r hp T' (by rw [e1, hb, h0]) X'
  exact ⟨t2, st t2 a1, b1⟩
theorem yl_pl {P : Int64 → Prop} (hr : va_Run p l e R s m args below meth c H locs cells slots 0 0 (F0 m pc ls st0) rest (vp_Sl P a) (fun _ => False)) (kk : ∀ r : Int64, P r → W p l e R s m args below meth c H locs cells slots Q (F0 m (pc + 3) ls (.long r :: rest))) : W p l e R s m args below meth c H locs cells slots Q (F0 m pc ls st0) := by
  intro T hT X
  obtain ⟨v, st₀, t, T', L, h0, X', hL, e1, e2, ⟨r, hv, hp, hb⟩, st⟩ := hr T hT X
  cases hv
  have hL0 : L = [] := List.eq_nil_iff_forall_not_mem.mpr fun q hq => hL q hq
  subst hL0
  rw [List.append_nil] at X'
  obtain ⟨t2, a1, b1⟩ := kk r hp T' (by rw [e1, hb, h0]) X'
  exact ⟨t2, st t2 a1, b1⟩
theorem yl_bool {x : Int32} (kJ : W p l e R s m args below meth c H locs cells slots Q (F0 m pc ls (.int (if x = 0 then 0 else 1) :: rest))) : (x = 0 → W p l e R s m args below meth c H locs cells slots Q (F0 m pc ls (.int 0 :: rest))) ∧ (¬ x = 0 → W p l e R s m args below meth c H locs cells slots Q (F0 m pc ls (.int 1 :: rest))) := ⟨fun h => by rw [if_pos h] at kJ; exact kJ, fun h => by rw [if_neg h] at kJ; exact kJ⟩
end QL
theorem qHp_c1 {G : qG} {ad : Nat → Nat} {M : qM} {H : Heap} (h : qHp 75 c1 G ad M H) (hf : ∀ k, k < 75 → c1 G ad (M k) k = e1 G ad (M k) k) : qHp W1N e1 G ad M H := by
  intro k q hq
  obtain ⟨h1, rfl⟩ := qWl_inv hq
  rw [← hf k h1]
  exact h k _ (qWl_get h1)
theorem qHp_c2 {G : qG} {ad : Nat → Nat} {M : qM} {H : Heap} (h : qHp 17 c2 G ad M H) (hf : ∀ k, k < 17 → c2 G ad (M k) k = e2 G ad (M k) k) : qHp W2N e2 G ad M H := by
  intro k q hq
  obtain ⟨h1, rfl⟩ := qWl_inv hq
  rw [← hf k h1]
  exact h k _ (qWl_get h1)
theorem qI_a1 (h0 : Nat) : qI W1N (fun k => h0 + k) := qI_add _ h0
theorem qI_a2 (h0 : Nat) : qI W2N (fun k => h0 + 75 + k) := qI_add _ (h0 + 75)
theorem qj_in {i k L : Nat} (h : i + k < L) (hL : L ≤ 384) : vp_in (nI i + nI k) L := by
  rw [nI_add]
  exact vp_in_nI h (by omega)
theorem qj_le {i L : Nat} (hL : L ≤ 384) (hi : i ≤ 390) (h : ¬ (nI L - nI 6 < nI i)) : i + 6 ≤ L := by
  rw [Int32.lt_iff_toInt_lt, pk_sub_toInt (by omega) (by omega), nI_toInt (by omega)] at h
  omega
theorem qlg_self (x : Int64) : lg_cmp x x = 0 := by
  unfold lg_cmp
  rw [if_neg (fun h => Int64.lt_irrefl h), if_pos rfl]
