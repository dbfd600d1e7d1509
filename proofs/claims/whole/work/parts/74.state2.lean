theorem upd_s {f : Nat → Int32} {k : Nat} {x : Int32} : upd f k x k = x := pk_us
theorem upd_n {f : Nat → Int32} {k j : Nat} {x : Int32} (h : j ≠ k) : upd f k x j = f j := pk_un h
theorem qD.set_lo {bk lo hi lu ps ec sg : Nat → Int32} {th gs sn : Int32} {A : qN} (h : qD bk lo hi lu ps ec sg th gs sn A) (v x : Nat) : qD bk (upd lo v (nI x)) hi lu ps ec sg th gs sn (aU A 3 v x) :=
  ⟨fun w hw => by
    by_cases e : w = v
    · subst e; rw [upd_s, aU_s]
    · rw [upd_n e, aU_n e]; exact h.lo w hw, fun w hw => by exact h.hi w hw, fun w hw => by exact h.lu w hw, fun w hw => by exact h.br w hw, fun w hw => by exact h.pl w hw, fun w hw ht => by exact h.no w hw ht, fun w hw => by exact h.ps w hw, fun w hw => by exact h.ec w hw, fun w hw => by exact h.co w hw, by exact h.ga, by exact h.cl, by exact h.th, by exact h.be, by exact h.si, fun w hw => by exact h.sp w hw, fun w hw => by exact h.sn w hw⟩
theorem qD.set_hi {bk lo hi lu ps ec sg : Nat → Int32} {th gs sn : Int32} {A : qN} (h : qD bk lo hi lu ps ec sg th gs sn A) (v x : Nat) : qD bk lo (upd hi v (nI x)) lu ps ec sg th gs sn (aU A 4 v x) :=
  ⟨fun w hw => by exact h.lo w hw, fun w hw => by
    by_cases e : w = v
    · subst e; rw [upd_s, aU_s]
    · rw [upd_n e, aU_n e]; exact h.hi w hw, fun w hw => by exact h.lu w hw, fun w hw => by exact h.br w hw, fun w hw => by exact h.pl w hw, fun w hw ht => by exact h.no w hw ht, fun w hw => by exact h.ps w hw, fun w hw => by exact h.ec w hw, fun w hw => by exact h.co w hw, by exact h.ga, by exact h.cl, by exact h.th, by exact h.be, by exact h.si, fun w hw => by exact h.sp w hw, fun w hw => by exact h.sn w hw⟩
theorem qD.set_lu {bk lo hi lu ps ec sg : Nat → Int32} {th gs sn : Int32} {A : qN} (h : qD bk lo hi lu ps ec sg th gs sn A) (v x : Nat) : qD bk lo hi (upd lu v (nI x)) ps ec sg th gs sn (aU A 2 v x) :=
  ⟨fun w hw => by exact h.lo w hw, fun w hw => by exact h.hi w hw, fun w hw => by
    by_cases e : w = v
    · subst e; rw [upd_s, aU_s]
    · rw [upd_n e, aU_n e]; exact h.lu w hw, fun w hw => by exact h.br w hw, fun w hw => by exact h.pl w hw, fun w hw ht => by exact h.no w hw ht, fun w hw => by exact h.ps w hw, fun w hw => by exact h.ec w hw, fun w hw => by exact h.co w hw, by exact h.ga, by exact h.cl, by exact h.th, by exact h.be, by exact h.si, fun w hw => by exact h.sp w hw, fun w hw => by exact h.sn w hw⟩
theorem qD.set_ps {bk lo hi lu ps ec sg : Nat → Int32} {th gs sn : Int32} {A : qN} (h : qD bk lo hi lu ps ec sg th gs sn A) (v x : Nat) : qD bk lo hi lu (upd ps v (nI x)) ec sg th gs sn (aU A 6 v x) :=
  ⟨fun w hw => by exact h.lo w hw, fun w hw => by exact h.hi w hw, fun w hw => by exact h.lu w hw, fun w hw => by exact h.br w hw, fun w hw => by exact h.pl w hw, fun w hw ht => by exact h.no w hw ht, fun w hw => by
    by_cases e : w = v
    · subst e; rw [upd_s, aU_s]
    · rw [upd_n e, aU_n e]; exact h.ps w hw, fun w hw => by exact h.ec w hw, fun w hw => by exact h.co w hw, by exact h.ga, by exact h.cl, by exact h.th, by exact h.be, by exact h.si, fun w hw => by exact h.sp w hw, fun w hw => by exact h.sn w hw⟩
theorem qD.set_ec {bk lo hi lu ps ec sg : Nat → Int32} {th gs sn : Int32} {A : qN} (h : qD bk lo hi lu ps ec sg th gs sn A) (v x : Nat) : qD bk lo hi lu ps (upd ec v (nI x)) sg th gs sn (aU A 7 v x) :=
  ⟨fun w hw => by exact h.lo w hw, fun w hw => by exact h.hi w hw, fun w hw => by exact h.lu w hw, fun w hw => by exact h.br w hw, fun w hw => by exact h.pl w hw, fun w hw ht => by exact h.no w hw ht, fun w hw => by exact h.ps w hw, fun w hw => by
    by_cases e : w = v
    · subst e; rw [upd_s, aU_s]
    · rw [upd_n e, aU_n e]; exact h.ec w hw, fun w hw => by exact h.co w hw, by exact h.ga, by exact h.cl, by exact h.th, by exact h.be, by exact h.si, fun w hw => by exact h.sp w hw, fun w hw => by exact h.sn w hw⟩
theorem qD.set_br {bk lo hi lu ps ec sg : Nat → Int32} {th gs sn : Int32} {A : qN} (h : qD bk lo hi lu ps ec sg th gs sn A) {v : Nat} (hv : v < 8) (x : Nat) : qD (upd bk (8 + v) (nI x)) lo hi lu ps ec sg th gs sn (aU A 1 v x) :=
  ⟨fun w hw => by exact h.lo w hw, fun w hw => by exact h.hi w hw, fun w hw => by exact h.lu w hw, fun w hw => by
    by_cases e : w = v
    · subst e; rw [upd_s, aU_s]
    · rw [upd_n (by omega), aU_n e]; exact h.br w hw, fun w hw => by rw [upd_n (by omega)]; exact h.pl w hw, fun w hw ht => by rw [upd_n (by omega)]; exact h.no w hw ht, fun w hw => by exact h.ps w hw, fun w hw => by exact h.ec w hw, fun w hw => by rw [upd_n (by omega)]; exact h.co w hw, by exact h.ga, by rw [upd_n (by omega)]; exact h.cl, by exact h.th, by rw [upd_n (by omega)]; exact h.be, by exact h.si, fun w hw => by exact h.sp w hw, fun w hw => by exact h.sn w hw⟩
theorem qD.set_pl {bk lo hi lu ps ec sg : Nat → Int32} {th gs sn : Int32} {A : qN} (h : qD bk lo hi lu ps ec sg th gs sn A) {v : Nat} (hv : v < 8) (x : Nat) : qD (upd bk (16 + v) (nI x)) lo hi lu ps ec sg th gs sn (aU A 0 v x) :=
  ⟨fun w hw => by exact h.lo w hw, fun w hw => by exact h.hi w hw, fun w hw => by exact h.lu w hw, fun w hw => by rw [upd_n (by omega)]; exact h.br w hw, fun w hw => by
    by_cases e : w = v
    · subst e; rw [upd_s, aU_s]
    · rw [upd_n (by omega), aU_n e]; exact h.pl w hw, fun w hw ht => by rw [upd_n (by omega)]; exact h.no w hw ht, fun w hw => by exact h.ps w hw, fun w hw => by exact h.ec w hw, fun w hw => by rw [upd_n (by omega)]; exact h.co w hw, by exact h.ga, by rw [upd_n (by omega)]; exact h.cl, by exact h.th, by rw [upd_n (by omega)]; exact h.be, by exact h.si, fun w hw => by exact h.sp w hw, fun w hw => by exact h.sn w hw⟩
theorem qD.set_co {bk lo hi lu ps ec sg : Nat → Int32} {th gs sn : Int32} {A : qN} (h : qD bk lo hi lu ps ec sg th gs sn A) {v : Nat} (hv : v < 10) (x : Nat) : qD (upd bk (24 + v) (nI x)) lo hi lu ps ec sg th gs sn (aU A 10 v x) :=
  ⟨fun w hw => by exact h.lo w hw, fun w hw => by exact h.hi w hw, fun w hw => by exact h.lu w hw, fun w hw => by rw [upd_n (by omega)]; exact h.br w hw, fun w hw => by rw [upd_n (by omega)]; exact h.pl w hw, fun w hw ht => by rw [upd_n (by omega)]; exact h.no w hw ht, fun w hw => by exact h.ps w hw, fun w hw => by exact h.ec w hw, fun w hw => by
    by_cases e : w = v
    · subst e; rw [upd_s, aU_s]
    · rw [upd_n (by omega), aU_n e]; exact h.co w hw, by exact h.ga, by rw [upd_n (by omega)]; exact h.cl, by exact h.th, by rw [upd_n (by omega)]; exact h.be, by exact h.si, fun w hw => by exact h.sp w hw, fun w hw => by exact h.sn w hw⟩
theorem qD.set_no {bk lo hi lu ps ec sg : Nat → Int32} {th gs sn : Int32} {A : qN} (h : qD bk lo hi lu ps ec sg th gs sn A) {v : Nat} (hv : v < 8) (x : Nat) {y : Int32} (hy : (A 11 0).testBit v = true → y = if x = 0 then -6 else nI (x - 1)) : qD (upd bk v y) lo hi lu ps ec sg th gs sn (aU A 5 v x) :=
  ⟨fun w hw => by exact h.lo w hw, fun w hw => by exact h.hi w hw, fun w hw => by exact h.lu w hw, fun w hw => by rw [upd_n (by omega)]; exact h.br w hw, fun w hw => by rw [upd_n (by omega)]; exact h.pl w hw, fun w hw ht => by
    by_cases e : w = v
    · subst e; rw [upd_s, aU_s]; exact hy ht
    · rw [upd_n e, aU_n e]; exact h.no w hw ht, fun w hw => by exact h.ps w hw, fun w hw => by exact h.ec w hw, fun w hw => by rw [upd_n (by omega)]; exact h.co w hw, by exact h.ga, by rw [upd_n (by omega)]; exact h.cl, by exact h.th, by rw [upd_n (by omega)]; exact h.be, by exact h.si, fun w hw => by exact h.sp w hw, fun w hw => by exact h.sn w hw⟩
theorem qD.set_cl {bk lo hi lu ps ec sg : Nat → Int32} {th gs sn : Int32} {A : qN} (h : qD bk lo hi lu ps ec sg th gs sn A) (x : Nat) : qD (upd bk 34 (nI x)) lo hi lu ps ec sg th gs sn (aU A 11 2 x) :=
  ⟨fun w hw => by exact h.lo w hw, fun w hw => by exact h.hi w hw, fun w hw => by exact h.lu w hw, fun w hw => by rw [upd_n (by omega)]; exact h.br w hw, fun w hw => by rw [upd_n (by omega)]; exact h.pl w hw, fun w hw ht => by rw [aU_n (by decide)] at ht; rw [upd_n (by omega)]; exact h.no w hw ht, fun w hw => by exact h.ps w hw, fun w hw => by exact h.ec w hw, fun w hw => by rw [upd_n (by omega)]; exact h.co w hw, by rw [aU_n (by decide)]; exact h.ga, by rw [upd_s, aU_s], by rw [aU_n (by decide)]; exact h.th, by rw [upd_n (by omega)]; rw [aU_n (by decide)]; exact h.be, by rw [aU_n (by decide)]; exact h.si, fun w hw => by rw [aU_n (by decide)] at hw; exact h.sp w hw, fun w hw => by rw [aU_n (by decide)] at hw; exact h.sn w hw⟩
theorem qD.set_be {bk lo hi lu ps ec sg : Nat → Int32} {th gs sn : Int32} {A : qN} (h : qD bk lo hi lu ps ec sg th gs sn A) (x : Nat) : qD (upd bk 35 (nI x)) lo hi lu ps ec sg th gs sn (aU A 11 3 x) :=
  ⟨fun w hw => by exact h.lo w hw, fun w hw => by exact h.hi w hw, fun w hw => by exact h.lu w hw, fun w hw => by rw [upd_n (by omega)]; exact h.br w hw, fun w hw => by rw [upd_n (by omega)]; exact h.pl w hw, fun w hw ht => by rw [aU_n (by decide)] at ht; rw [upd_n (by omega)]; exact h.no w hw ht, fun w hw => by exact h.ps w hw, fun w hw => by exact h.ec w hw, fun w hw => by rw [upd_n (by omega)]; exact h.co w hw, by rw [aU_n (by decide)]; exact h.ga, by rw [upd_n (by omega)]; rw [aU_n (by decide)]; exact h.cl, by rw [aU_n (by decide)]; exact h.th, by rw [upd_s, aU_s], by rw [aU_n (by decide)]; exact h.si, fun w hw => by rw [aU_n (by decide)] at hw; exact h.sp w hw, fun w hw => by rw [aU_n (by decide)] at hw; exact h.sn w hw⟩
theorem qD.set_ga {bk lo hi lu ps ec sg : Nat → Int32} {th gs sn : Int32} {A : qN} (h : qD bk lo hi lu ps ec sg th gs sn A) (x : Nat) : qD bk lo hi lu ps ec sg th (nI x) sn (aU A 11 1 x) :=
  ⟨fun w hw => by exact h.lo w hw, fun w hw => by exact h.hi w hw, fun w hw => by exact h.lu w hw, fun w hw => by exact h.br w hw, fun w hw => by exact h.pl w hw, fun w hw ht => by rw [aU_n (by decide)] at ht; exact h.no w hw ht, fun w hw => by exact h.ps w hw, fun w hw => by exact h.ec w hw, fun w hw => by exact h.co w hw, by rw [aU_s], by rw [aU_n (by decide)]; exact h.cl, by rw [aU_n (by decide)]; exact h.th, by rw [aU_n (by decide)]; exact h.be, by rw [aU_n (by decide)]; exact h.si, fun w hw => by rw [aU_n (by decide)] at hw; exact h.sp w hw, fun w hw => by rw [aU_n (by decide)] at hw; exact h.sn w hw⟩
theorem qD.set_th {bk lo hi lu ps ec sg : Nat → Int32} {th gs sn : Int32} {A : qN} (h : qD bk lo hi lu ps ec sg th gs sn A) (x : Nat) (hy : ∀ w, w < 8 → x.testBit w = true → bk w = if A 5 w = 0 then -6 else nI (A 5 w - 1)) : qD bk lo hi lu ps ec sg (nI x) gs sn (aU A 11 0 x) :=
  ⟨fun w hw => by exact h.lo w hw, fun w hw => by exact h.hi w hw, fun w hw => by exact h.lu w hw, fun w hw => by exact h.br w hw, fun w hw => by exact h.pl w hw, fun w hw ht => by rw [aU_s] at ht; exact hy w hw ht, fun w hw => by exact h.ps w hw, fun w hw => by exact h.ec w hw, fun w hw => by exact h.co w hw, by rw [aU_n (by decide)]; exact h.ga, by rw [aU_n (by decide)]; exact h.cl, by rw [aU_s], by rw [aU_n (by decide)]; exact h.be, by rw [aU_n (by decide)]; exact h.si, fun w hw => by rw [aU_n (by decide)] at hw; exact h.sp w hw, fun w hw => by rw [aU_n (by decide)] at hw; exact h.sn w hw⟩
theorem qD.bk_same {bk bk' lo hi lu ps ec sg : Nat → Int32} {th gs sn : Int32} {A : qN} (h : qD bk lo hi lu ps ec sg th gs sn A) (hs : ∀ i, i < 36 → bk' i = bk i) : qD bk' lo hi lu ps ec sg th gs sn A :=
  ⟨h.lo, h.hi, h.lu, fun v hv => by rw [hs _ (by omega)]; exact h.br v hv, fun v hv => by rw [hs _ (by omega)]; exact h.pl v hv, fun v hv ht => by rw [hs _ (by omega)]; exact h.no v hv ht, h.ps, h.ec, fun g hg => by rw [hs _ (by omega)]; exact h.co g hg, h.ga, by rw [hs _ (by omega)]; exact h.cl, h.th, by rw [hs _ (by omega)]; exact h.be, h.si, h.sp, h.sn⟩
theorem qR.main {M1 M2 N1 N2 : qM} (h : qR M1 M2) (h1 : ∀ k, 13 ≤ k → k < 39 → N1 k = M1 k) (h2 : N1 39 1 = M1 39 1) (h3 : N1 40 = M1 40) (g1 : N2 9 = M2 9) (g2 : N2 15 = M2 15) (g3 : N2 16 = M2 16) (g4 : N2 0 11 = M2 0 11) {A : qN} (c : qC 1 N1 A) (d : qDm N2 A) (w : qW A) : qR N1 N2 := by
  obtain ⟨-, ⟨S, p, s1, s2, s3, s4⟩, i0, i1⟩ := h
  have im : ∀ n, n < 2 → qIg M1 M2 n → qIg N1 N2 n := by
    intro n hn i
    rcases i with ⟨a, b⟩ | ⟨a, b, B, c, d, w⟩
    · exact Or.inl ⟨by rw [h1 38 (by omega) (by omega)]; exact a, by rw [g3]; exact b⟩
    · refine Or.inr ⟨by rw [h1 38 (by omega) (by omega)]; exact a, by rw [g3]; exact b, B, c.same (fun k k1 k2 => h1 k (by omega) (by omega)), ?_, w⟩
      show qDi N2 n B
      unfold qDi
      rw [g2]
      exact d
  exact ⟨⟨A, c, d, w⟩, ⟨S, p, s1, by rw [h2]; exact s2, by rw [g4]; exact s3, fun i hi => by rw [h3, g1]; exact s4 i hi⟩, im 0 (by omega) i0, im 1 (by omega) i1⟩
/-- a gallery's number, or not, to both -/
theorem gal (x : Int32) : (kX7_isGallery x = some 0 ∧ kX8_isGallery x = some 0) ∨ ∃ k, k < 10 ∧ x = nI k ∧ kX7_isGallery x = some 1 ∧ kX8_isGallery x = some 1 := by
  rw [X7_isGallery_eq, X8_isGallery_eq]
  by_cases h : 0 ≤ x ∧ x < 10
  · rw [if_pos h]
    rcases pk_ix x (n := 10) (by omega) with z | z | ⟨k, hk, e⟩
    · exact absurd h.1 (Int32.not_le.mpr z)
    · exact absurd h.2 (Int32.not_lt.mpr z)
    · exact Or.inr ⟨k, hk, e, rfl, rfl⟩
  · rw [if_neg h]; exact Or.inl ⟨rfl, rfl⟩
theorem le7 (x : Int32) : (0 ≤ x ∧ x ≤ 7) ↔ (0 ≤ x ∧ x < 8) := by
  rw [Int32.le_iff_toInt_le, Int32.le_iff_toInt_le, Int32.lt_iff_toInt_lt]
  have h7 : (7 : Int32).toInt = 7 := by decide
  have h8 : (8 : Int32).toInt = 8 := by decide
  omega
theorem voi (x : Int32) : (kX7_isVoice x = some 0 ∧ kX8_in x 0 7 = some 0) ∨ ∃ k, k < 8 ∧ x = nI k ∧ kX7_isVoice x = some 1 ∧ kX8_in x 0 7 = some 1 := by
  rw [X7_isVoice_eq, X8_in_eq]
  by_cases h : 0 ≤ x ∧ x < 8
  · rw [if_pos h, if_pos ((le7 x).mpr h)]
    rcases pk_ix x (n := 8) (by omega) with z | z | ⟨k, hk, e⟩
    · exact absurd h.1 (Int32.not_le.mpr z)
    · exact absurd h.2 (Int32.not_lt.mpr z)
    · exact Or.inr ⟨k, hk, e, rfl, rfl⟩
  · rw [if_neg h, if_neg (fun z => h ((le7 x).mp z))]; exact Or.inl ⟨rfl, rfl⟩
/-- a voice that is there, or not, to both -/
theorem thr {b : Nat} {M1 M2 : qM} {T : Nat} (h1 : M1 b 5 = nI T) (h2 : M2 0 2 = nI T) (hT : T < 256) (x : Int32) : (kX1_isThere b M1 x = some 0 ∧ kX8_isThere M2 x = some 0) ∨ ∃ k, k < 8 ∧ x = nI k ∧ T.testBit k = true ∧ kX1_isThere b M1 x = some 1 ∧ kX8_isThere M2 x = some 1 := by
  by_cases h : 0 ≤ x ∧ x < 8
  · rcases pk_ix x (n := 8) (by omega) with z | z | ⟨k, hk, e⟩
    · exact absurd h.1 (Int32.not_le.mpr z)
    · exact absurd h.2 (Int32.not_lt.mpr z)
    · subst e
      rw [X1_isThere_eq h1 hT hk, X8_isThere_eq h2 hT hk]
      by_cases t : T.testBit k = true
      · rw [if_pos t]; exact Or.inr ⟨k, hk, rfl, t, rfl, rfl⟩
      · rw [if_neg t]; exact Or.inl ⟨rfl, rfl⟩
  · exact Or.inl ⟨X1_isThere_out h, X8_isThere_out h⟩
/-- bits off and on -/
def clr (G g : Nat) : Nat := G &&& (2 ^ g ^^^ 4294967295)
theorem clr_I (G : Nat) {g : Nat} (hg : g < 31) : nI G &&& (((1 : Int32) <<< (nI g &&& 31)) ^^^ (-1)) = nI (clr G g) := by
  rw [shl1 hg, show (-1 : Int32) = nI 4294967295 from by decide, fa_xor, fa_and]
  rfl
theorem set_I (G : Nat) {g : Nat} (hg : g < 31) : nI G ||| ((1 : Int32) <<< (nI g &&& 31)) = nI (G ||| 2 ^ g) := by rw [shl1 hg, fa_or]
set_option maxRecDepth 100000 in
theorem clr_tab : ∀ g, g < 10 → ∀ G, G < 1024 → (clr G g ||| 2 ^ g = G ||| 2 ^ g ∧ G ||| 2 ^ g < 1024 ∧ clr G g < 1024) := by decide +kernel
set_option maxRecDepth 100000 in
theorem clr_tab8 : ∀ g, g < 8 → ∀ G, G < 256 → (G ||| 2 ^ g < 256 ∧ clr G g < 256 ∧ ∀ w, w < 8 → (clr G g).testBit w = (G.testBit w && decide (w ≠ g))) := by decide +kernel
theorem set_tb (G g w : Nat) : (G ||| 2 ^ g).testBit w = (G.testBit w || decide (g = w)) := by rw [Nat.testBit_or, Nat.testBit_two_pow]
/-- the reference's copy -/
theorem X8_asNow_eq (M : qM) : qOk (kX8_asNow M) (fun N => (∀ c, c ≠ 0 → c ≠ 2 → N c = M c) ∧ (∀ i, i < 36 → N 2 i = M 1 i) ∧ (∀ j, j ≠ 13 → j ≠ 14 → N 0 j = M 0 j) ∧ N 0 13 = -6 ∧ N 0 14 = -6) := by
  unfold kX8_asNow
  rw [qOk_b1]
  refine qlp_for (fun i s => s.1 = nI i ∧ (∀ c, c ≠ 2 → s.2 c = M c) ∧ ∀ j, j < i → s.2 2 j = M 1 j) 36 (by omega) ⟨rfl, fun _ _ => rfl, fun _ h => by omega⟩ ?_ ?_
  · rintro i ⟨a, N⟩ hi ⟨e, h1, h2⟩
    have e : a = nI i := e
    subst e
    have h1 : ∀ c, c ≠ 2 → N c = M c := h1
    show qOk (kX8_asNow_L2 (nI i) N) _
    unfold kX8_asNow_L2
    rw [if_neg (show ¬ (36 : Int32) ≤ nI i from nI_ge hi (by decide)), qrd_k hi (by omega), qwr_k hi (by omega), qvl_eq, qOk_some]
    refine ⟨nI_1 i, fun c hc => ?_, fun j hj => ?_⟩
    · show qst N 2 i _ c = M c
      rw [qst_n hc]; exact h1 c hc
    · show qst N 2 i _ 2 j = M 1 j
      rw [qst_at, h1 1 (by omega)]
      by_cases ej : j = i
      · rw [if_pos ej, ej]
      · rw [if_neg ej]; exact h2 j (by omega)
  · rintro ⟨a, N⟩ ⟨e, h1, h2⟩
    have e : a = nI 36 := e
    subst e
    have h1 : ∀ c, c ≠ 2 → N c = M c := h1
    show qOk (kX8_asNow_L2 (nI 36) N) _
    unfold kX8_asNow_L2
    rw [if_pos (show (36 : Int32) ≤ nI 36 from Int32.le_refl _), qOk_some]
    show qOk (qvl _ _) _
    rw [qvl_eq, qvl_eq, qOk_some]
    refine ⟨fun c c0 c2 => ?_, fun i hi => ?_, fun j j1 j2 => ?_, ?_, ?_⟩
    · rw [qst_n c0, qst_n c0]; exact h1 c c2
    · rw [qst_n (by decide), qst_n (by decide)]; exact h2 i hi
    · rw [qst_at, if_neg j2, qst_at, if_neg j1, h1 0 (by decide)]
    · rw [qst_at, if_neg (by decide), qst_at, if_pos rfl]
    · rw [qst_at, if_pos rfl]
theorem asNow_D {M N : qM} {A : qN} (h : qDm M A) (h1 : ∀ c, c ≠ 0 → c ≠ 2 → N c = M c) (h2 : ∀ i, i < 36 → N 2 i = M 1 i) (h3 : ∀ j, j ≠ 13 → j ≠ 14 → N 0 j = M 0 j) : qDn N A := by
  unfold qDn
  rw [h1 3 (by decide) (by decide), h1 4 (by decide) (by decide), h1 5 (by decide) (by decide), h1 6 (by decide) (by decide), h1 7 (by decide) (by decide), h1 8 (by decide) (by decide), h3 2 (by decide) (by decide), h3 8 (by decide) (by decide), h3 9 (by decide) (by decide)]
  exact h.bk_same h2
theorem asNow_K {M N : qM} (h1 : ∀ c, c ≠ 0 → c ≠ 2 → N c = M c) (h3 : ∀ j, j ≠ 13 → j ≠ 14 → N 0 j = M 0 j) : qK2 M N :=
  ⟨h1 1 (by decide) (by decide), h1 3 (by decide) (by decide), h1 4 (by decide) (by decide), h1 5 (by decide) (by decide), h1 6 (by decide) (by decide), h1 7 (by decide) (by decide), h1 8 (by decide) (by decide), h1 9 (by decide) (by decide), h1 15 (by decide) (by decide), h1 16 (by decide) (by decide), h3 2 (by decide) (by decide), h3 8 (by decide) (by decide), h3 9 (by decide) (by decide), h3 11 (by decide) (by decide)⟩
theorem qOk2_some {α β : Type} {a : α} {b : β} {P : α → β → Prop} : qOk2 (some (a, b)) P ↔ P a b := qOk_some
theorem qOk2_b1 {γ α β : Type} {x : Option γ} {F : γ → Option (α × β)} {P : α → β → Prop} : qOk2 (qb1 x F) P ↔ qOk x (fun a => qOk2 (F a) P) := qOk_b1
theorem qOk2_b2 {γ δ α β : Type} {x : Option (γ × δ)} {F : γ → δ → Option (α × β)} {P : α → β → Prop} : qOk2 (qb2 x F) P ↔ qOk2 x (fun a b => qOk2 (F a b) P) := qOk_b2
theorem qOk_b2' {γ δ α : Type} {x : Option (γ × δ)} {F : γ → δ → Option α} {P : α → Prop} : qOk (qb2 x F) P ↔ qOk2 x (fun a b => qOk (F a b) P) := qOk_b2
theorem qOk2.m {α β : Type} {x : Option (α × β)} {P P' : α → β → Prop} (h : qOk2 x P) (hm : ∀ a b, P a b → P' a b) : qOk2 x P' := qOk.m h (fun o => hm o.1 o.2)
theorem t_light : qT_light qR := by
  intro M1 M2 hR x1
  have hR0 := hR
  obtain ⟨⟨A, hc, hd, hw⟩, -, -, -⟩ := hR
  unfold kX7_light kX8_light
  rcases gal x1 with ⟨e1, e2⟩ | ⟨k, hk, rfl, e1, e2⟩
  · rw [e1, e2, qb1_some, qb1_some, if_pos rfl, if_pos rfl, qOk2_some, qOk2_some]
    exact ⟨rfl, hR0⟩
  · rw [e1, e2, qb1_some, qb1_some, if_neg (by decide), if_neg (by decide), qOk2_b1]
    refine qOk.m (X0_shineOn_eq hc hw (Or.inr (by omega))) (fun N1 hN => ?_)
    obtain ⟨f1, f2, f3⟩ := hN
    rw [qrd_k hk (by omega), qOk2_some, qOk2_b1]
    refine qOk.m (X8_asNow_eq M2) (fun N2 hN => ?_)
    obtain ⟨g1, g2, g3, -, -⟩ := hN
    rw [X8_lightOf_eq (asNow_D hd g1 g2 g3) hw hk, qb1_some, qOk2_some]
    exact ⟨(f2 k hk).symm, hR0.kept ⟨fun c hc => f1 c (by omega) (by omega) (by omega), by rw [f1 39 (by omega) (by omega) (by omega)], f1 40 (by omega) (by omega) (by omega)⟩ (asNow_K g1 g3)⟩
