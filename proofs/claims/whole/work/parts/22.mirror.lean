def kJ7_fill_53178_L5 (v1 : Int32) (k0 : Nat) (n0 : Nat) (x1 : Int32) (v2 : Int32) (M3 : qM) : Option ((Int32 × qM) ⊕ (qM)) :=
  if v1 ≤ v2 then (some (.inr M3)) else (qwr M3 k0 n0 v2 x1 (fun M5 => qvl (v2 + 1) (fun v6 => some (.inl (v6, M5)))))
def kJ7_fill_53178 (M : qM) (k0 : Nat) (n0 : Nat) (x1 : Int32) : Option (qM) :=
  qvl (nI n0) (fun v1 => qb1 (qlp (S := Int32 × qM) (E := (qM)) (fun s => kJ7_fill_53178_L5 v1 k0 n0 x1 s.1 s.2) qFu (0, M)) (fun M4 => some M4))

def kX1_isSinging (b0 : Nat) (M : qM) (x1 : Int32) : Option (Int32) :=
  qrd (M (b0 + 9)) 8 x1 (fun v1 => qb1 (α := Int32) (if v1 = (-1) then (some 0) else (some 1)) (fun v2 => qbl v2 (some v2)))

def kX7_has (x0 : Int32) (x1 : Int32) : Option (Int32) :=
  qb1 (α := Int32) (if ((x0 >>> (x1 &&& 31)) &&& 1) = 1 then (some 1) else (some 0)) (fun v1 => qbl v1 (some v1))

def kX1_singTogether (b0 : Nat) (M : qM) (x1 : Int32) (x2 : Int32) : Option (Int32) :=
  qrd (M (b0 + 9)) 8 x1 (fun v1 => qb1 (α := Int32) (if v1 = (-1) then (some 0) else (qrd (M (b0 + 9)) 8 x2 (fun v3 => if v3 = (-1) then (some 0) else (qrd (M (b0 + 8)) 8 x1 (fun v4 => qrd (M (b0 + 8)) 8 x2 (fun v5 => if v4 = v5 then (some 1) else (some 0))))))) (fun v2 => qbl v2 (some v2)))

def kX1_clash (b0 : Nat) (M : qM) (x1 : Int32) (x2 : Int32) : Option (Int32) :=
  qrd (M (b0 + 8)) 8 x1 (fun v1 => qb1 (kX7_has (M b0 3) v1) (fun v2 => if v2 = 0 then (some 0) else (qb1 (kX1_singTogether b0 M x1 x2) (fun v3 => if v3 = 0 then (some 0) else (qrd (M (b0 + 9)) 8 x1 (fun v4 => qrd (M (b0 + 9)) 8 x2 (fun v5 => qvl (if 0 ≤ (v4 - v5) then (v4 - v5) else 0 - (v4 - v5)) (fun v6 => qb1 (α := Int32) (if v6 = 3 then (some 1) else (if v6 = 4 then (some 1) else (some 0))) (fun v7 => qbl v7 (some v7))))))))))

def kX1_isTakenOut_L20 (b0 : Nat) (M : qM) (x1 : Int32) (v3 : Int32) : Option ((Int32) ⊕ ((Int32) ⊕ (Unit))) :=
  if 8 ≤ v3 then (some (.inr (.inr ()))) else (qb1 (kX1_clash b0 M x1 v3) (fun v4 => if v4 = 0 then (qvl (v3 + 1) (fun v5 => some (.inl v5))) else (some (.inr (.inl 1)))))
def kX1_isTakenOut (b0 : Nat) (M : qM) (x1 : Int32) : Option (Int32) :=
  qrd (M (b0 + 8)) 8 x1 (fun v1 => qb1 (kX7_has (M b0 3) v1) (fun v2 => if v2 = 0 then (some 0) else (qex0 (qlp (S := Int32) (E := ((Int32) ⊕ (Unit))) (fun s => kX1_isTakenOut_L20 b0 M x1 s) qFu 0) (fun rr => some rr) (some 0))))

def kX0_shineOn_L10 (b1 : Nat) (b0 : Nat) (v2 : Int32) (M3 : qM) : Option ((Int32 × qM) ⊕ (qM)) :=
  if 8 ≤ v2 then (some (.inr M3)) else (qb1 (kX1_isSinging b1 M3 v2) (fun v5 => qb1 (α := qM) (if v5 = 0 then (some M3) else (qb1 (kX1_isTakenOut b1 M3 v2) (fun v7 => if v7 = 0 then (qrd (M3 (b1 + 8)) 8 v2 (fun v8 => qrd (M3 (b0 + 1)) 10 v8 (fun v9 => qrd (M3 (b1 + 9)) 8 v2 (fun v10 => qwr M3 (b0 + 1) 10 v8 (if v9 < (1 + v10) then (1 + v10) else v9) (fun M11 => some M11))))) else (some M3)))) (fun M6 => qvl (v2 + 1) (fun v12 => some (.inl (v12, M6))))))
def kX0_shineOn_L85 (b1 : Nat) (b0 : Nat) (v14 : Int32) (M15 : qM) : Option ((Int32 × qM) ⊕ (qM)) :=
  if 10 ≤ v14 then (some (.inr M15)) else (qrd (M15 (b1 + 2)) 10 v14 (fun v17 => qrd (M15 (b0 + 2)) 10 v17 (fun v18 => qrd (M15 (b0 + 1)) 10 v14 (fun v19 => qwr M15 (b0 + 2) 10 v17 (if v18 < (v19 / 2) then (v19 / 2) else v18) (fun M20 => qvl (v14 + 1) (fun v21 => some (.inl (v21, M20))))))))
def kX0_shineOn_L134 (b0 : Nat) (v23 : Int32) (M24 : qM) : Option ((Int32 × qM) ⊕ (qM)) :=
  if 10 ≤ v23 then (some (.inr M24)) else (qrd (M24 (b0 + 2)) 10 v23 (fun v26 => qb1 (α := Int32) (if v26 ≤ 0 then (some 0) else (some ((1 : Int32) <<< (v23 &&& 31)))) (fun v27 => qvl (qst M24 b0 2 ((M24 b0 2) ||| v27)) (fun M28 => qvl (v23 + 1) (fun v29 => some (.inl (v29, M28)))))))
def kX0_shineOn (b0 : Nat) (M : qM) (b1 : Nat) : Option (qM) :=
  qb1 (kJ7_fill_53178 M (b0 + 1) 10 0) (fun M1 => qb1 (qlp (S := Int32 × qM) (E := (qM)) (fun s => kX0_shineOn_L10 b1 b0 s.1 s.2) qFu (0, M1)) (fun M4 => qvl (qcp M4 (b0 + 2) (va_cpy (M4 (b0 + 1)) (M4 (b0 + 2)) 0 0 10)) (fun M13 => qb1 (qlp (S := Int32 × qM) (E := (qM)) (fun s => kX0_shineOn_L85 b1 b0 s.1 s.2) qFu (0, M13)) (fun M16 => qvl (qst M16 b0 2 0) (fun M22 => qb1 (qlp (S := Int32 × qM) (E := (qM)) (fun s => kX0_shineOn_L134 b0 s.1 s.2) qFu (0, M22)) (fun M25 => some M25))))))

def kX1_become (b0 : Nat) (M : qM) (b1 : Nat) : Option (qM) :=
  qvl (qst M b0 3 (M b1 3)) (fun M1 => qvl (qst M1 b0 4 (M1 b1 4)) (fun M2 => qvl (qst M2 b0 5 (M2 b1 5)) (fun M3 => qvl (qst M3 b0 6 (M3 b1 6)) (fun M4 => qvl (qst M4 b0 7 (M4 b1 7)) (fun M5 => qvl (qcp M5 (b0 + 1) (va_cpy (M5 (b1 + 1)) (M5 (b0 + 1)) 0 0 10)) (fun M6 => qvl (qcp M6 (b0 + 2) (va_cpy (M6 (b1 + 2)) (M6 (b0 + 2)) 0 0 10)) (fun M7 => qvl (qcp M7 (b0 + 3) (va_cpy (M7 (b1 + 3)) (M7 (b0 + 3)) 0 0 10)) (fun M8 => qvl (qcp M8 (b0 + 4) (va_cpy (M8 (b1 + 4)) (M8 (b0 + 4)) 0 0 8)) (fun M9 => qvl (qcp M9 (b0 + 5) (va_cpy (M9 (b1 + 5)) (M9 (b0 + 5)) 0 0 8)) (fun M10 => qvl (qcp M10 (b0 + 6) (va_cpy (M10 (b1 + 6)) (M10 (b0 + 6)) 0 0 8)) (fun M11 => qvl (qcp M11 (b0 + 7) (va_cpy (M11 (b1 + 7)) (M11 (b0 + 7)) 0 0 8)) (fun M12 => qvl (qcp M12 (b0 + 8) (va_cpy (M12 (b1 + 8)) (M12 (b0 + 8)) 0 0 8)) (fun M13 => qvl (qcp M13 (b0 + 9) (va_cpy (M13 (b1 + 9)) (M13 (b0 + 9)) 0 0 8)) (fun M14 => qvl (qcp M14 (b0 + 10) (va_cpy (M14 (b1 + 10)) (M14 (b0 + 10)) 0 0 8)) (fun M15 => qvl (qcp M15 (b0 + 11) (va_cpy (M15 (b1 + 11)) (M15 (b0 + 11)) 0 0 8)) (fun M16 => some M16))))))))))))))))

def kX1_setPassage (b0 : Nat) (M : qM) (x1 : Int32) (x2 : Int32) (x3 : Int32) : Option (qM) :=
  qb1 (α := Int32) (if x3 = 0 then (qrd (M (b0 + 1)) 10 x1 (fun v2 => some (v2 &&& (((1 : Int32) <<< (x2 &&& 31)) ^^^ (-1))))) else (qrd (M (b0 + 1)) 10 x1 (fun v3 => some (v3 ||| ((1 : Int32) <<< (x2 &&& 31)))))) (fun v1 => qwr M (b0 + 1) 10 x1 v1 (fun M4 => qb1 (α := Int32) (if x3 = 0 then (qrd (M4 (b0 + 1)) 10 x2 (fun v6 => some (v6 &&& (((1 : Int32) <<< (x1 &&& 31)) ^^^ (-1))))) else (qrd (M4 (b0 + 1)) 10 x2 (fun v7 => some (v7 ||| ((1 : Int32) <<< (x1 &&& 31)))))) (fun v5 => qwr M4 (b0 + 1) 10 x2 v5 (fun M8 => some M8))))

def kJ6_bitCount_0f7a4 (x0 : Int32) : Option (Int32) :=
  qvl (x0 - ((((x0 : Int32).toUInt32 >>> ((1 : Int32).toUInt32 &&& Int32.toUInt32 31)).toInt32) &&& 1431655765)) (fun v1 => qvl ((v1 &&& 858993459) + ((((v1 : Int32).toUInt32 >>> ((2 : Int32).toUInt32 &&& Int32.toUInt32 31)).toInt32) &&& 858993459)) (fun v2 => qvl ((v2 + (((v2 : Int32).toUInt32 >>> ((4 : Int32).toUInt32 &&& Int32.toUInt32 31)).toInt32)) &&& 252645135) (fun v3 => qvl (v3 + (((v3 : Int32).toUInt32 >>> ((8 : Int32).toUInt32 &&& Int32.toUInt32 31)).toInt32)) (fun v4 => qvl (v4 + (((v4 : Int32).toUInt32 >>> ((16 : Int32).toUInt32 &&& Int32.toUInt32 31)).toInt32)) (fun v5 => some (v5 &&& 63))))))

def kX1_passageCount_L4 (M : qM) (b0 : Nat) (v1 : Int32) (v2 : Int32) : Option ((Int32 × Int32) ⊕ (Int32)) :=
  if 10 ≤ v2 then (some (.inr v1)) else (qrd (M (b0 + 1)) 10 v2 (fun v4 => qb1 (kJ6_bitCount_0f7a4 v4) (fun v5 => qvl (v1 + v5) (fun v6 => qvl (v2 + 1) (fun v7 => some (.inl (v6, v7)))))))
def kX1_passageCount (b0 : Nat) (M : qM) : Option (Int32) :=
  qb1 (qlp (S := Int32 × Int32) (E := (Int32)) (fun s => kX1_passageCount_L4 M b0 s.1 s.2) qFu (0, 0)) (fun v3 => some (v3 / 2))

def kX1_coalInAll_L4 (M : qM) (b0 : Nat) (v1 : Int32) (v2 : Int32) : Option ((Int32 × Int32) ⊕ (Int32)) :=
  if 10 ≤ v2 then (some (.inr v1)) else (qrd (M (b0 + 3)) 10 v2 (fun v4 => qvl (v1 + v4) (fun v5 => qvl (v2 + 1) (fun v6 => some (.inl (v5, v6))))))
def kX1_coalInAll (b0 : Nat) (M : qM) : Option (Int32) :=
  qb1 (qlp (S := Int32 × Int32) (E := (Int32)) (fun s => kX1_coalInAll_L4 M b0 s.1 s.2) qFu (0, 0)) (fun v3 => some v3)

def kX7_isVoice (x0 : Int32) : Option (Int32) :=
  qb1 (α := Int32) (if x0 < 0 then (some 0) else (if 8 ≤ x0 then (some 0) else (some 1))) (fun v1 => qbl v1 (some v1))

def kX1_isThere (b0 : Nat) (M : qM) (x1 : Int32) : Option (Int32) :=
  qb1 (kX7_isVoice x1) (fun v1 => qb1 (α := Int32) (if v1 = 0 then (some 0) else (qb1 (kX7_has (M b0 5) x1) (fun v3 => if v3 = 0 then (some 0) else (some 1)))) (fun v2 => qbl v2 (some v2)))

def kX1_noteOrNone (b0 : Nat) (M : qM) (x1 : Int32) : Option (Int32) :=
  qb1 (kX1_isSinging b0 M x1) (fun v1 => qb1 (α := Int32) (if v1 = 0 then (some (-6)) else (qrd (M (b0 + 9)) 8 x1 (fun v3 => some v3))) (fun v2 => some v2))

def kX1_singing_L4 (b0 : Nat) (M : qM) (v1 : Int32) (v2 : Int32) : Option ((Int32 × Int32) ⊕ (Int32)) :=
  if 8 ≤ v2 then (some (.inr v1)) else (qb1 (kX1_isSinging b0 M v2) (fun v4 => qb1 (α := Int32) (if v4 = 0 then (some v1) else (qvl (v1 ||| ((1 : Int32) <<< (v2 &&& 31))) (fun v6 => some v6))) (fun v5 => qvl (v2 + 1) (fun v7 => some (.inl (v5, v7))))))
def kX1_singing (b0 : Nat) (M : qM) : Option (Int32) :=
  qb1 (qlp (S := Int32 × Int32) (E := (Int32)) (fun s => kX1_singing_L4 b0 M s.1 s.2) qFu (0, 0)) (fun v3 => some v3)

def kX1_singersIn_L4 (b0 : Nat) (M : qM) (x1 : Int32) (v1 : Int32) (v2 : Int32) : Option ((Int32 × Int32) ⊕ (Int32)) :=
  if 8 ≤ v2 then (some (.inr v1)) else (qb1 (kX1_isSinging b0 M v2) (fun v4 => qb1 (α := Int32) (if v4 = 0 then (some v1) else (qrd (M (b0 + 8)) 8 v2 (fun v6 => if v6 = x1 then (qvl (v1 + 1) (fun v7 => some v7)) else (some v1)))) (fun v5 => qvl (v2 + 1) (fun v8 => some (.inl (v5, v8))))))
def kX1_singersIn (b0 : Nat) (M : qM) (x1 : Int32) : Option (Int32) :=
  qb1 (qlp (S := Int32 × Int32) (E := (Int32)) (fun s => kX1_singersIn_L4 b0 M x1 s.1 s.2) qFu (0, 0)) (fun v3 => some v3)

def kX2_signAt (M : qM) (x1 : Int32) : Option (Int32) :=
  qb1 (α := Int32) (if x1 < 0 then (some 0) else (if (M 39 1) ≤ x1 then (some 0) else (if 60 ≤ x1 then (some 0) else (qrd (M 40) 60 x1 (fun v2 => some v2))))) (fun v1 => some v1)

def kX2_addAct (M : qM) (x1 : Int32) (x2 : Int32) (x3 : Int32) : Option (Int32 × qM) :=
  if (M 39 5) < 60 then (qwr M 41 60 (M 39 5) x1 (fun M1 => qwr M1 42 60 (M1 39 5) x2 (fun M2 => qwr M2 43 60 (M2 39 5) x3 (fun M3 => qvl (qst M3 39 5 ((M3 39 5) + 1)) (fun M4 => some (1, M4)))))) else (some (0, M))

def kX2_readGallery (M : qM) (x1 : Int32) (x2 : Int32) : Option (Int32 × qM) :=
  qb1 (kX2_signAt M (M 39 6)) (fun v1 => if v1 < 48 then (some (0, M)) else (if v1 ≤ 57 then (qvl (qst M 39 6 ((M 39 6) + 1)) (fun M2 => qb2 (kX2_addAct M2 x1 x2 (v1 - 48)) (fun v4 M3 => qbl v4 (some (v4, M3))))) else (some (0, M))))

def kX2_readDeed (M : qM) (x1 : Int32) : Option (Int32 × qM) :=
  qb1 (kX2_signAt M (M 39 6)) (fun v1 => if v1 < 97 then (if v1 = 45 then (qvl (qst M 39 6 ((M 39 6) + 1)) (fun M5 => qb2 (kX2_addAct M5 1 x1 0) (fun v7 M6 => qbl v7 (some (v7, M6))))) else (if v1 = 62 then (qvl (qst M 39 6 ((M 39 6) + 1)) (fun M2 => qb2 (kX2_readGallery M2 2 x1) (fun v4 M3 => qbl v4 (some (v4, M3))))) else (some (0, M)))) else (if 121 ≤ v1 then (if v1 = 45 then (qvl (qst M 39 6 ((M 39 6) + 1)) (fun M11 => qb2 (kX2_addAct M11 1 x1 0) (fun v13 M12 => qbl v13 (some (v13, M12))))) else (if v1 = 62 then (qvl (qst M 39 6 ((M 39 6) + 1)) (fun M8 => qb2 (kX2_readGallery M8 2 x1) (fun v10 M9 => qbl v10 (some (v10, M9))))) else (some (0, M)))) else (qvl (qst M 39 6 ((M 39 6) + 1)) (fun M14 => qb2 (kX2_addAct M14 0 x1 (v1 - 97)) (fun v16 M15 => qbl v16 (some (v16, M15)))))))

def kX2_readAct (M : qM) : Option (Int32 × qM) :=
  qb1 (kX2_signAt M (M 39 6)) (fun v1 => if v1 = 46 then (qvl (qst M 39 6 ((M 39 6) + 1)) (fun M8 => qb2 (kX2_addAct M8 4 0 0) (fun v10 M9 => qbl v10 (some (v10, M9))))) else (if v1 = 42 then (qvl (qst M 39 6 ((M 39 6) + 1)) (fun M5 => qb2 (kX2_readGallery M5 3 0) (fun v7 M6 => qbl v7 (some (v7, M6))))) else (if v1 < 65 then (some (0, M)) else (if v1 < 73 then (qvl (qst M 39 6 ((M 39 6) + 1)) (fun M2 => qb2 (kX2_readDeed M2 (v1 - 65)) (fun v4 M3 => qbl v4 (some (v4, M3))))) else (some (0, M))))))

def kX2_readActs_L12  (v3 : Int32) (M4 : qM) : Option ((Int32 × qM) ⊕ ((Int32 × qM) ⊕ (qM))) :=
  if 60 ≤ v3 then (some (.inr (.inr M4))) else (if (M4 39 1) ≤ (M4 39 6) then (some (.inr (.inr M4))) else (qb2 (kX2_readAct M4) (fun v7 M6 => if v7 = 0 then (some (.inr (.inl ((M6 39 6), M6)))) else (qvl (v3 + 1) (fun v8 => some (.inl (v8, M6)))))))
def kX2_readActs (M : qM) : Option (Int32 × qM) :=
  qvl (qst M 39 5 0) (fun M1 => qvl (qst M1 39 6 0) (fun M2 => qex1 (qlp (S := Int32 × qM) (E := ((Int32 × qM) ⊕ (qM))) (fun s => kX2_readActs_L12 s.1 s.2) qFu (0, M2)) (fun rr => some rr) (fun M5 => some ((-6), M5))))

def kX6_measure_L41 (v3 : Int32) (b0 : Nat) (v5 : Int32) (k2 : Nat) (n2 : Nat) (v8 : Int32) (v9 : Int32) (M10 : qM) : Option ((Int32 × Int32 × qM) ⊕ (Int32 × qM)) :=
  if 10 ≤ v9 then (some (.inr (v8, M10))) else (qb1 (kX7_has v3 v9) (fun v13 => qb2 (α1 := Int32) (α2 := qM) (if v13 = 0 then (some (v8, M10)) else (qwr M10 (b0 + 1) 10 v9 v5 (fun M16 => qrd (M16 k2) n2 v9 (fun v17 => qvl (v8 ||| v17) (fun v18 => some (v18, M16)))))) (fun v14 M15 => qvl (v9 + 1) (fun v19 => some (.inl (v14, v19, M15))))))
def kX6_measure_L23 (b0 : Nat) (k2 : Nat) (n2 : Nat) (x3 : Int32) (v3 : Int32) (v4 : Int32) (v5 : Int32) (M6 : qM) : Option ((Int32 × Int32 × Int32 × qM) ⊕ (qM)) :=
  if 10 ≤ v5 then (some (.inr M6)) else (if v3 = 0 then (some (.inr M6)) else (qb2 (qlp (S := Int32 × Int32 × qM) (E := (Int32 × qM)) (fun s => kX6_measure_L41 v3 b0 v5 k2 n2 s.1 s.2.1 s.2.2) qFu (0, 0, M6)) (fun v11 M12 => qvl ((v11 &&& x3) &&& (v4 ^^^ (-1))) (fun v20 => qvl (v4 ||| v20) (fun v21 => qvl (v5 + 1) (fun v22 => some (.inl (v20, v21, v22, M12))))))))
def kX6_measure (b0 : Nat) (M : qM) (x1 : Int32) (k2 : Nat) (n2 : Nat) (x3 : Int32) : Option (qM) :=
  qb1 (kJ7_fill_53178 M (b0 + 1) 10 (-6)) (fun M1 => qvl (x3 &&& ((1 : Int32) <<< (x1 &&& 31))) (fun v2 => qb1 (qlp (S := Int32 × Int32 × Int32 × qM) (E := (qM)) (fun s => kX6_measure_L23 b0 k2 n2 x3 s.1 s.2.1 s.2.2.1 s.2.2.2) qFu (v2, v2, 0, M1)) (fun M7 => some M7)))

def kX3_notesHeardAs (x0 : Int32) (x1 : Int32) : Option (Int32) :=
  if 0 ≤ x1 then (if x0 = (-1) then (some (((1 : Int32) <<< (x1 &&& 31)) - 1)) else (qvl (x0 + x1) (fun v1 => qb1 (α := Int32) (if 24 ≤ v1 then (some 0) else (some ((1 : Int32) <<< (v1 &&& 31)))) (fun v2 => some v2)))) else (qb1 (α := Int32) (if x0 = (-1) then (some 16777215) else (some 0)) (fun v3 => some v3))

def kX3_findFits_L54 (b1 : Nat) (v2 : Int32) (v7 : Int32) (M8 : qM) : Option ((Int32 × qM) ⊕ (qM)) :=
  if 10 ≤ v7 then (some (.inr M8)) else (qrd (M8 68) 10 v7 (fun v10 => qrd (M8 (b1 + 11)) 8 v2 (fun v11 => qrd (M8 (66 + 1)) 10 v7 (fun v12 => qb1 (kX3_notesHeardAs v11 v12) (fun v13 => qwr M8 68 10 v7 (v10 &&& v13) (fun M14 => qvl (v7 + 1) (fun v15 => some (.inl (v15, M14)))))))))
def kX3_findFits_L11 (b1 : Nat) (v2 : Int32) (M3 : qM) : Option ((Int32 × qM) ⊕ (qM)) :=
  if (M3 b1 7) ≤ v2 then (some (.inr M3)) else (if 8 ≤ v2 then (some (.inr M3)) else (qrd (M3 (b1 + 10)) 8 v2 (fun v5 => qb1 (kX6_measure 66 M3 v5 (b1 + 1) 10 (1023 &&& ((M3 b1 4) ^^^ (-1)))) (fun M6 => qb1 (qlp (S := Int32 × qM) (E := (qM)) (fun s => kX3_findFits_L54 b1 v2 s.1 s.2) qFu (0, M6)) (fun M9 => qvl (v2 + 1) (fun v16 => some (.inl (v16, M9))))))))
def kX3_findFits (M : qM) (b1 : Nat) : Option (qM) :=
  qb1 (kJ7_fill_53178 M 68 10 16777215) (fun M1 => qb1 (qlp (S := Int32 × qM) (E := (qM)) (fun s => kX3_findFits_L11 b1 s.1 s.2) qFu (0, M1)) (fun M4 => some M4))

def kX3_fitCount_L4 (M : qM) (v1 : Int32) (v2 : Int32) : Option ((Int32 × Int32) ⊕ (Int32)) :=
  if 10 ≤ v2 then (some (.inr v1)) else (qrd (M 68) 10 v2 (fun v4 => qb1 (kJ6_bitCount_0f7a4 v4) (fun v5 => qvl (v1 + v5) (fun v6 => qvl (v2 + 1) (fun v7 => some (.inl (v6, v7)))))))
def kX3_fitCount (M : qM) : Option (Int32) :=
  qb1 (qlp (S := Int32 × Int32) (E := (Int32)) (fun s => kX3_fitCount_L4 M s.1 s.2) qFu (0, 0)) (fun v3 => some v3)

def kJ6_numberOfTrailingZeros_0f7a4 (x0 : Int32) : Option (Int32) :=
  qvl ((x0 ^^^ (-1)) &&& (x0 - 1)) (fun v1 => if 0 < v1 then (qb2 (α1 := Int32) (α2 := Int32) (if v1 ≤ 65536 then (some (v1, 1)) else (qvl (1 + 16) (fun v4 => qvl (((v1 : Int32).toUInt32 >>> ((16 : Int32).toUInt32 &&& Int32.toUInt32 31)).toInt32) (fun v5 => some (v5, v4))))) (fun v2 v3 => qb2 (α1 := Int32) (α2 := Int32) (if v2 ≤ 256 then (some (v2, v3)) else (qvl (v3 + 8) (fun v8 => qvl (((v2 : Int32).toUInt32 >>> ((8 : Int32).toUInt32 &&& Int32.toUInt32 31)).toInt32) (fun v9 => some (v9, v8))))) (fun v6 v7 => qb2 (α1 := Int32) (α2 := Int32) (if v6 ≤ 16 then (some (v6, v7)) else (qvl (v7 + 4) (fun v12 => qvl (((v6 : Int32).toUInt32 >>> ((4 : Int32).toUInt32 &&& Int32.toUInt32 31)).toInt32) (fun v13 => some (v13, v12))))) (fun v10 v11 => qb2 (α1 := Int32) (α2 := Int32) (if v10 ≤ 4 then (some (v10, v11)) else (qvl (v11 + 2) (fun v16 => qvl (((v10 : Int32).toUInt32 >>> ((2 : Int32).toUInt32 &&& Int32.toUInt32 31)).toInt32) (fun v17 => some (v17, v16))))) (fun v14 v15 => some (v15 + (((v14 : Int32).toUInt32 >>> ((1 : Int32).toUInt32 &&& Int32.toUInt32 31)).toInt32))))))) else (some (v1 &&& 32)))

def kX7_leastOf (x0 : Int32) : Option (Int32) :=
  qb1 (α := Int32) (if x0 = 0 then (some (-6)) else (qb1 (kJ6_numberOfTrailingZeros_0f7a4 x0) (fun v2 => some v2))) (fun v1 => some v1)

def kX3_bitAt_L4 (x1 : Int32) (v1 : Int32) (v2 : Int32) : Option ((Int32 × Int32) ⊕ (Int32)) :=
  if x1 ≤ v2 then (some (.inr v1)) else (qvl (v1 &&& (v1 - 1)) (fun v4 => qvl (v2 + 1) (fun v5 => some (.inl (v4, v5)))))
def kX3_bitAt (x0 : Int32) (x1 : Int32) : Option (Int32) :=
  qb1 (qlp (S := Int32 × Int32) (E := (Int32)) (fun s => kX3_bitAt_L4 x1 s.1 s.2) qFu (x0, 0)) (fun v3 => qb1 (kX7_leastOf v3) (fun v6 => some v6))

def kX3_fitAt_L11 (M : qM) (v1 : Int32) (v2 : Int32) : Option ((Int32 × Int32) ⊕ ((Int32) ⊕ (Unit))) :=
  if 10 ≤ v2 then (some (.inr (.inr ()))) else (qrd (M 68) 10 v2 (fun v3 => qb1 (kJ6_bitCount_0f7a4 v3) (fun v4 => if v4 ≤ v1 then (qvl (v1 - v4) (fun v5 => qvl (v2 + 1) (fun v6 => some (.inl (v5, v6))))) else (qrd (M 68) 10 v2 (fun v7 => qb1 (kX3_bitAt v7 v1) (fun v8 => some (.inr (.inl ((100 * v2) + v8)))))))))
def kX3_fitAt (M : qM) (x1 : Int32) : Option (Int32) :=
  if 0 ≤ x1 then (qex0 (qlp (S := Int32 × Int32) (E := ((Int32) ⊕ (Unit))) (fun s => kX3_fitAt_L11 M s.1 s.2) qFu (x1, 0)) (fun rr => some rr) (some (-6))) else (some (-6))

def kX3_countHeard_L20 (x1 : Int32) (x2 : Int32) (v1 : Int32) (M2 : qM) : Option ((Int32 × qM) ⊕ (qM)) :=
  if 24 ≤ v1 then (some (.inr M2)) else (qb1 (kX7_has x1 v1) (fun v4 => qb1 (α := qM) (if v4 = 0 then (some M2) else (qb1 (α := Int32) (if x2 ≤ v1 then (some ((1 + v1) - x2)) else (some 0)) (fun v6 => qrd (M2 69) 25 v6 (fun v7 => qwr M2 69 25 v6 (v7 + 1) (fun M8 => some M8))))) (fun M5 => qvl (v1 + 1) (fun v9 => some (.inl (v9, M5))))))
def kX3_countHeard (M : qM) (x1 : Int32) (x2 : Int32) : Option (qM) :=
  if 0 ≤ x2 then (qb1 (qlp (S := Int32 × qM) (E := (qM)) (fun s => kX3_countHeard_L20 x1 x2 s.1 s.2) qFu (0, M)) (fun M3 => some M3)) else (qrd (M 69) 25 0 (fun v10 => qb1 (kJ6_bitCount_0f7a4 x1) (fun v11 => qwr M 69 25 0 (v10 + v11) (fun M12 => some M12))))

def kX3_mostLeftHere_L10  (v2 : Int32) (M3 : qM) : Option ((Int32 × qM) ⊕ (qM)) :=
  if 10 ≤ v2 then (some (.inr M3)) else (qrd (M3 68) 10 v2 (fun v5 => qrd (M3 (66 + 1)) 10 v2 (fun v6 => qb1 (kX3_countHeard M3 v5 v6) (fun M7 => qvl (v2 + 1) (fun v8 => some (.inl (v8, M7)))))))
def kX3_mostLeftHere_L45 (M4 : qM) (v9 : Int32) (v10 : Int32) : Option ((Int32 × Int32) ⊕ (Int32)) :=
  if 24 < v10 then (some (.inr v9)) else (qrd (M4 69) 25 v10 (fun v12 => qvl (if v9 < v12 then v12 else v9) (fun v13 => qvl (v10 + 1) (fun v14 => some (.inl (v13, v14))))))
def kX3_mostLeftHere (M : qM) : Option (Int32 × qM) :=
  qb1 (kJ7_fill_53178 M 69 25 0) (fun M1 => qb1 (qlp (S := Int32 × qM) (E := (qM)) (fun s => kX3_mostLeftHere_L10 s.1 s.2) qFu (0, M1)) (fun M4 => qb1 (qlp (S := Int32 × Int32) (E := (Int32)) (fun s => kX3_mostLeftHere_L45 M4 s.1 s.2) qFu (0, 0)) (fun v11 => some (v11, M4))))

def kX3_chooseListening_L14 (b1 : Nat) (v3 : Int32) (M4 : qM) : Option ((Int32 × qM) ⊕ (qM)) :=
  if 10 ≤ v3 then (some (.inr M4)) else (qb1 (kX6_measure 66 M4 v3 (b1 + 1) 10 (1023 &&& ((M4 b1 4) ^^^ (-1)))) (fun M6 => qb2 (kX3_mostLeftHere M6) (fun v8 M7 => qb1 (α := qM) (if (M7 65 3) = (-6) then (qvl (qst M7 65 3 v3) (fun M10 => qvl (qst M10 65 4 v8) (fun M11 => some M11))) else (if (M7 65 4) ≤ v8 then (some M7) else (qvl (qst M7 65 3 v3) (fun M12 => qvl (qst M12 65 4 v8) (fun M13 => some M13))))) (fun M9 => qvl (v3 + 1) (fun v14 => some (.inl (v14, M9)))))))
def kX3_chooseListening (M : qM) (b1 : Nat) : Option (qM) :=
  qvl (qst M 65 3 (-6)) (fun M1 => qvl (qst M1 65 4 (-6)) (fun M2 => qb1 (qlp (S := Int32 × qM) (E := (qM)) (fun s => kX3_chooseListening_L14 b1 s.1 s.2) qFu (0, M2)) (fun M5 => some M5)))

def kX4_whyNotSing (M : qM) (x1 : Int32) (x2 : Int32) : Option (Int32) :=
  qb1 (kX1_isThere 48 M x1) (fun v1 => if v1 = 0 then (some 1) else (qrd (M (48 + 4)) 8 x1 (fun v2 => if x2 < v2 then (some 2) else (qrd (M (48 + 5)) 8 x1 (fun v3 => if x2 ≤ v3 then (qrd (M (48 + 9)) 8 x1 (fun v4 => if v4 = x2 then (some 3) else (qrd (M (48 + 7)) 8 x1 (fun v5 => qb1 (α := Int32) (if v5 = 0 then (some 4) else (some 0)) (fun v6 => some v6))))) else (some 2))))))

def kX4_whyNotGo (M : qM) (x1 : Int32) (x2 : Int32) : Option (Int32) :=
  qb1 (kX1_isThere 48 M x1) (fun v1 => if v1 = 0 then (some 1) else (qrd (M (48 + 8)) 8 x1 (fun v2 => qrd (M (48 + 1)) 10 v2 (fun v3 => qb1 (kX7_has v3 x2) (fun v4 => if v4 = 0 then (some 5) else (qb1 (kX7_has (M 48 4) v2) (fun v5 => qb1 (α := Int32) (if v5 = 0 then (qb1 (kX7_has (M 48 4) x2) (fun v7 => if v7 = 0 then (some 0) else (some 6))) else (some 6)) (fun v6 => some v6))))))))

def kX4_whyNot (M : qM) (x1 : Int32) (x2 : Int32) (x3 : Int32) : Option (Int32) :=
  if x1 = 0 then (qb1 (kX4_whyNotSing M x2 x3) (fun v1 => some v1)) else (if x1 = 1 then (qb1 (kX1_isThere 48 M x2) (fun v2 => qb1 (α := Int32) (if v2 = 0 then (some 1) else (qrd (M (48 + 9)) 8 x2 (fun v4 => if v4 = (-1) then (some 3) else (some 0)))) (fun v3 => some v3))) else (if x1 = 2 then (qb1 (kX4_whyNotGo M x2 x3) (fun v5 => some v5)) else (if x1 = 4 then (qb1 (α := Int32) (if (M 48 6) < 999 then (some 0) else (some 7)) (fun v6 => some v6)) else (some 0))))

def kX4_spendBreath (M : qM) (x1 : Int32) : Option (qM) :=
  qrd (M (48 + 7)) 8 x1 (fun v1 => qwr M (48 + 7) 8 x1 (v1 - 1) (fun M2 => qrd (M2 (48 + 7)) 8 x1 (fun v3 => qb1 (α := qM) (if 0 < v3 then (some M2) else (qwr M2 (48 + 7) 8 x1 0 (fun M5 => qwr M5 (48 + 9) 8 x1 (-1) (fun M6 => some M6)))) (fun M4 => some M4))))

def kX4_cutCoal (M : qM) (x1 : Int32) : Option (qM) :=
  qrd (M (48 + 8)) 8 x1 (fun v1 => qrd (M (60 + 2)) 10 v1 (fun v2 => qrd (M (48 + 3)) 10 v1 (fun v3 => qb1 (α := Int32) (if v2 ≤ 8 then (if v2 ≤ 0 then (some 0) else (some 1)) else (some 2)) (fun v4 => qwr M (48 + 3) 10 v1 (v3 + v4) (fun M5 => some M5)))))

def kX4_passBeat_L2  (v1 : Int32) (M2 : qM) : Option ((Int32 × qM) ⊕ (qM)) :=
  if 8 ≤ v1 then (some (.inr M2)) else (qb1 (kX1_isSinging 48 M2 v1) (fun v4 => qb1 (α := qM) (if v4 = 0 then (qb1 (kX1_isThere 48 M2 v1) (fun v6 => if v6 = 0 then (some M2) else (qb1 (kX4_cutCoal M2 v1) (fun M7 => qrd (M7 (48 + 6)) 8 v1 (fun v8 => qrd (M7 (48 + 7)) 8 v1 (fun v9 => qwr M7 (48 + 7) 8 v1 (if (v9 + 1) < v8 then (v9 + 1) else v8) (fun M10 => some M10))))))) else (qb1 (kX4_spendBreath M2 v1) (fun M11 => some M11))) (fun M5 => qvl (v1 + 1) (fun v12 => some (.inl (v12, M5))))))
def kX4_passBeat (M : qM) : Option (qM) :=
  qb1 (qlp (S := Int32 × qM) (E := (qM)) (fun s => kX4_passBeat_L2 s.1 s.2) qFu (0, M)) (fun M3 => qvl (qst M3 48 6 ((M3 48 6) + 1)) (fun M13 => some M13))

def kX4_act (M : qM) (x1 : Int32) (x2 : Int32) (x3 : Int32) : Option (qM) :=
  qb1 (α := qM) (if x1 = 0 then (qwr M (48 + 9) 8 x2 x3 (fun M2 => some M2)) else (if x1 = 1 then (qwr M (48 + 9) 8 x2 (-1) (fun M3 => some M3)) else (if x1 = 2 then (qwr M (48 + 8) 8 x2 x3 (fun M4 => some M4)) else (if x1 = 3 then (qvl (qst M 48 4 ((M 48 4) ^^^ ((1 : Int32) <<< (x3 &&& 31)))) (fun M5 => some M5)) else (qb1 (kX4_passBeat M) (fun M6 => some M6)))))) (fun M1 => some M1)

def kX4_rememberDark (M : qM) (x1 : Int32) (x2 : Int32) : Option (qM) :=
  qb1 (α := qM) (if (M 47 3) = (-6) then (if x2 = 0 then (some M) else (qvl (qst M 47 3 x1) (fun M2 => qb1 (kX7_leastOf x2) (fun v3 => qvl (qst M2 47 4 v3) (fun M4 => some M4))))) else (some M)) (fun M1 => some M1)

def kX4_tryActs_L45  (v7 : Int32) (M8 : qM) : Option ((Int32 × qM) ⊕ ((qM) ⊕ (qM))) :=
  if (M8 39 5) ≤ v7 then (some (.inr (.inr M8))) else (if 60 ≤ v7 then (some (.inr (.inr M8))) else (qrd (M8 41) 60 v7 (fun v10 => qrd (M8 42) 60 v7 (fun v11 => qrd (M8 43) 60 v7 (fun v12 => qb1 (kX4_whyNot M8 v10 v11 v12) (fun v13 => if v13 = 0 then (qvl (M8 60 2) (fun v14 => qrd (M8 41) 60 v7 (fun v15 => qrd (M8 42) 60 v7 (fun v16 => qrd (M8 43) 60 v7 (fun v17 => qb1 (kX4_act M8 v15 v16 v17) (fun M18 => qb1 (kX0_shineOn 60 M18 48) (fun M19 => qb1 (kX4_rememberDark M19 v7 (v14 &&& ((M19 60 2) ^^^ (-1)))) (fun M20 => qvl (v7 + 1) (fun v21 => some (.inl (v21, M20))))))))))) else (qvl (qst M8 47 1 v7) (fun M22 => qvl (qst M22 47 2 v13) (fun M23 => some (.inr (.inl M23)))))))))))
def kX4_tryActs (M : qM) (b2 : Nat) : Option (qM) :=
  qb1 (kX1_become 48 M b2) (fun M1 => qvl (qst M1 47 1 (-6)) (fun M2 => qvl (qst M2 47 2 (-6)) (fun M3 => qvl (qst M3 47 3 (-6)) (fun M4 => qvl (qst M4 47 4 (-6)) (fun M5 => qb1 (kX0_shineOn 60 M5 48) (fun M6 => qex1 (qlp (S := Int32 × qM) (E := ((qM) ⊕ (qM))) (fun s => kX4_tryActs_L45 s.1 s.2) qFu (0, M6)) (fun rr => some rr) (fun M9 => some M9)))))))

def kX4_drawnKind (x0 : Int32) : Option (Int32) :=
  if 2 < x0 then (if x0 = 3 then (some 1) else (if 5 < x0 then (qb1 (α := Int32) (if x0 = 6 then (some 3) else (some 4)) (fun v1 => some v1)) else (some 2))) else (some 0)

def kX4_drawActs_L14 (x3 : Int32) (v2 : Int32) (v3 : Int32) (M4 : qM) : Option ((Int32 × Int32 × qM) ⊕ (qM)) :=
  if x3 ≤ v3 then (some (.inr M4)) else (qvl (((75 * v2) + 74) - ((75 * v2) + 74) / 65537 * 65537) (fun v6 => qb1 (kX4_drawnKind ((v6 / 8) - (v6 / 8) / 8 * 8)) (fun v7 => qb1 (α := Int32) (if v7 = 0 then (some 24) else (some 10)) (fun v8 => qnz v8 (qvl ((v6 / 64) - (v6 / 64) / v8 * v8) (fun v9 => qb1 (kX4_whyNot M4 v7 (v6 - v6 / 8 * 8) v9) (fun v10 => qb1 (α := qM) (if v10 = 0 then (qb1 (α := qM) (if v7 = 4 then (qb1 (kX0_shineOn 60 M4 48) (fun M13 => some M13)) else (some M4)) (fun M12 => qb1 (kX4_act M12 v7 (v6 - v6 / 8 * 8) v9) (fun M14 => some M14))) else (some M4)) (fun M11 => qvl (v3 + 1) (fun v15 => some (.inl (v6, v15, M11)))))))))))
def kX4_drawActs (M : qM) (b1 : Nat) (x2 : Int32) (x3 : Int32) : Option (qM) :=
  qb1 (kX1_become 48 M b1) (fun M1 => qb1 (qlp (S := Int32 × Int32 × qM) (E := (qM)) (fun s => kX4_drawActs_L14 x3 s.1 s.2.1 s.2.2) qFu (x2, 0, M1)) (fun M5 => some M5))

def kX5_meet (M : qM) (x1 : Int32) : Option (qM) :=
  qb1 (α := qM) (if x1 < 0 then (some M) else (if 300 ≤ x1 then (some M) else (qrd (M 73) 300 x1 (fun v2 => if v2 = (-6) then (if 300 ≤ (M 70 4) then (some M) else (qwr M 73 300 x1 0 (fun M3 => qwr M3 74 300 (M3 70 4) x1 (fun M4 => qvl (qst M4 70 4 ((M4 70 4) + 1)) (fun M5 => some M5))))) else (some M))))) (fun M1 => some M1)

def kX5_firstOther (x0 : Int32) : Option (Int32) :=
  qb1 (α := Int32) (if x0 = 0 then (some 1) else (some 0)) (fun v1 => some v1)

def kX5_restLeft (M : qM) (x1 : Int32) (x2 : Int32) : Option (Int32) :=
  qvl (x1 / 100) (fun v1 => if x2 = v1 then (qrd (M 72) 3 x2 (fun v4 => some v4)) else (qb1 (kX5_firstOther v1) (fun v2 => qb1 (α := Int32) (if x2 = v2 then (some ((x1 / 10) - (x1 / 10) / 10 * 10)) else (some (x1 - x1 / 10 * 10))) (fun v3 => some v3))))

def kX5_secondOther (x0 : Int32) : Option (Int32) :=
  qb1 (α := Int32) (if x0 = 2 then (some 1) else (some 2)) (fun v1 => some v1)

def kX5_stateBehind (M : qM) (x1 : Int32) (x2 : Int32) : Option (Int32) :=
  qb1 (kX5_restLeft M x1 x2) (fun v1 => if v1 ≤ 0 then (qb1 (kX5_firstOther x2) (fun v2 => qb1 (kX5_restLeft M x1 v2) (fun v3 => qrd (M 71) 3 x2 (fun v4 => qvl (if 0 < (v3 - v4) then (v3 - v4) else 0) (fun v5 => qb1 (kX5_secondOther x2) (fun v6 => qb1 (kX5_restLeft M x1 v6) (fun v7 => qrd (M 71) 3 x2 (fun v8 => qvl (if 0 < (v7 - v8) then (v7 - v8) else 0) (fun v9 => some (((100 * x2) + (10 * v5)) + v9)))))))))) else (some (-6)))

def kX5_meetStates_L16  (v3 : Int32) (M4 : qM) : Option ((Int32 × qM) ⊕ (qM)) :=
  if 3 ≤ v3 then (some (.inr M4)) else (qb1 (kX5_meet M4 (100 * v3)) (fun M6 => qvl (v3 + 1) (fun v7 => some (.inl (v7, M6)))))
def kX5_meetStates_L54 (v8 : Int32) (v11 : Int32) (M12 : qM) : Option ((Int32 × qM) ⊕ (qM)) :=
  if 3 ≤ v11 then (some (.inr M12)) else (qrd (M12 74) 300 v8 (fun v14 => qb1 (kX5_stateBehind M12 v14 v11) (fun v15 => qb1 (kX5_meet M12 v15) (fun M16 => qvl (v11 + 1) (fun v17 => some (.inl (v17, M16)))))))
def kX5_meetStates_L37  (v8 : Int32) (M9 : qM) : Option ((Int32 × qM) ⊕ (qM)) :=
  if (M9 70 4) ≤ v8 then (some (.inr M9)) else (if 300 ≤ v8 then (some (.inr M9)) else (qb1 (qlp (S := Int32 × qM) (E := (qM)) (fun s => kX5_meetStates_L54 v8 s.1 s.2) qFu (0, M9)) (fun M13 => qvl (v8 + 1) (fun v18 => some (.inl (v18, M13))))))
def kX5_meetStates (M : qM) : Option (qM) :=
  qb1 (kJ7_fill_53178 M 73 300 (-6)) (fun M1 => qvl (qst M1 70 4 0) (fun M2 => qb1 (qlp (S := Int32 × qM) (E := (qM)) (fun s => kX5_meetStates_L16 s.1 s.2) qFu (0, M2)) (fun M5 => qb1 (qlp (S := Int32 × qM) (E := (qM)) (fun s => kX5_meetStates_L37 s.1 s.2) qFu (0, M5)) (fun M10 => some M10))))

def kX5_beatsBehind_L4 (M : qM) (x1 : Int32) (v1 : Int32) (v2 : Int32) : Option ((Int32 × Int32) ⊕ (Int32)) :=
  if 3 ≤ v2 then (some (.inr v1)) else (qb1 (kX5_stateBehind M x1 v2) (fun v4 => qb1 (α := Int32) (if v4 < 0 then (some v1) else (if 300 ≤ v4 then (some v1) else (qrd (M 71) 3 v2 (fun v6 => qrd (M 73) 300 v4 (fun v7 => qvl (if v1 < (v6 + v7) then (v6 + v7) else v1) (fun v8 => some v8)))))) (fun v5 => qvl (v2 + 1) (fun v9 => some (.inl (v5, v9))))))
def kX5_beatsBehind (M : qM) (x1 : Int32) : Option (Int32) :=
  qb1 (qlp (S := Int32 × Int32) (E := (Int32)) (fun s => kX5_beatsBehind_L4 M x1 s.1 s.2) qFu (0, 0)) (fun v3 => some (if v3 < 99 then v3 else 99))

def kX5_lookFurther_L9  (v2 : Int32) (v3 : Int32) (M4 : qM) : Option ((Int32 × Int32 × qM) ⊕ (Int32 × qM)) :=
  if v3 < 0 then (some (.inr (v2, M4))) else (qrd (M4 74) 300 v3 (fun v7 => qb1 (kX5_beatsBehind M4 v7) (fun v8 => qrd (M4 74) 300 v3 (fun v9 => qrd (M4 73) 300 v9 (fun v10 => qb2 (α1 := Int32) (α2 := qM) (if v8 ≤ v10 then (some (v2, M4)) else (qrd (M4 74) 300 v3 (fun v13 => qwr M4 73 300 v13 v8 (fun M14 => some (1, M14))))) (fun v11 M12 => qvl (v3 + (-1)) (fun v15 => some (.inl (v11, v15, M12)))))))))
def kX5_lookFurther (M : qM) : Option (Int32 × qM) :=
  qvl ((M 70 4) - 1) (fun v1 => qb2 (qlp (S := Int32 × Int32 × qM) (E := (Int32 × qM)) (fun s => kX5_lookFurther_L9 s.1 s.2.1 s.2.2) qFu (0, v1, M)) (fun v5 M6 => qbl v5 (some (v5, M6))))

def kX5_settle_L75  (v8 : Int32) (v9 : Int32) (M10 : qM) : Option ((Int32 × Int32 × qM) ⊕ (qM)) :=
  if 99 < v9 then (some (.inr M10)) else (if v8 = 0 then (some (.inr M10)) else (qb2 (kX5_lookFurther M10) (fun v13 M12 => qvl (v9 + 1) (fun v14 => some (.inl (v13, v14, M12))))))
def kX5_settle (M : qM) (x1 : Int32) (x2 : Int32) : Option (qM) :=
  qwr M 71 3 0 (x1 / 100) (fun M1 => qwr M1 71 3 1 ((x1 / 10) - (x1 / 10) / 10 * 10) (fun M2 => qwr M2 71 3 2 (x1 - x1 / 10 * 10) (fun M3 => qwr M3 72 3 0 (x2 / 100) (fun M4 => qwr M4 72 3 1 ((x2 / 10) - (x2 / 10) / 10 * 10) (fun M5 => qwr M5 72 3 2 (x2 - x2 / 10 * 10) (fun M6 => qb1 (kX5_meetStates M6) (fun M7 => qb1 (qlp (S := Int32 × Int32 × qM) (E := (qM)) (fun s => kX5_settle_L75 s.1 s.2.1 s.2.2) qFu (1, 0, M7)) (fun M11 => some M11))))))))

def kX5_beatsFrom (M : qM) (x1 : Int32) : Option (Int32) :=
  qrd (M 71) 3 x1 (fun v1 => qrd (M 73) 300 (100 * x1) (fun v2 => some (if (v1 + v2) < 99 then (v1 + v2) else 99)))

def kX5_bestFirst_L4 (M : qM) (v1 : Int32) (v2 : Int32) : Option ((Int32 × Int32) ⊕ (Int32)) :=
  if 3 ≤ v2 then (some (.inr v1)) else (qb1 (kX5_beatsFrom M v2) (fun v4 => qb1 (kX5_beatsFrom M v1) (fun v5 => qb1 (α := Int32) (if v4 ≤ v5 then (some v1) else (some v2)) (fun v6 => qvl (v2 + 1) (fun v7 => some (.inl (v6, v7)))))))
def kX5_bestFirst (M : qM) : Option (Int32) :=
  qb1 (qlp (S := Int32 × Int32) (E := (Int32)) (fun s => kX5_bestFirst_L4 M s.1 s.2) qFu (0, 1)) (fun v3 => some v3)

def kX6_nextFrom_L25 (M : qM) (k2 : Nat) (n2 : Nat) (x1 : Int32) (b0 : Nat) (v3 : Int32) : Option ((Int32) ⊕ ((Int32) ⊕ (Unit))) :=
  if 10 ≤ v3 then (some (.inr (.inr ()))) else (qrd (M k2) n2 x1 (fun v4 => qb1 (kX7_has v4 v3) (fun v5 => if v5 = 0 then (qvl (v3 + 1) (fun v6 => some (.inl v6))) else (qrd (M (b0 + 1)) 10 v3 (fun v7 => qrd (M (b0 + 1)) 10 x1 (fun v8 => if v7 = (v8 - 1) then (some (.inr (.inl v3))) else (qvl (v3 + 1) (fun v9 => some (.inl v9)))))))))
def kX6_nextFrom (b0 : Nat) (M : qM) (x1 : Int32) (k2 : Nat) (n2 : Nat) : Option (Int32) :=
  qrd (M (b0 + 1)) 10 x1 (fun v1 => if v1 = (-6) then (some (-6)) else (qrd (M (b0 + 1)) 10 x1 (fun v2 => if v2 = 0 then (some (-6)) else (qex0 (qlp (S := Int32) (E := ((Int32) ⊕ (Unit))) (fun s => kX6_nextFrom_L25 M k2 n2 x1 b0 s) qFu 0) (fun rr => some rr) (some (-6))))))

def kX7_isGallery (x0 : Int32) : Option (Int32) :=
  qb1 (α := Int32) (if x0 < 0 then (some 0) else (if 10 ≤ x0 then (some 0) else (some 1))) (fun v1 => qbl v1 (some v1))

def kX7_passage (M : qM) (x1 : Int32) (x2 : Int32) (x3 : Int32) : Option (Int32 × qM) :=
  qb1 (kX7_isGallery x1) (fun v1 => if v1 = 0 then (some ((-1), M)) else (qb1 (kX7_isGallery x2) (fun v2 => if v2 = 0 then (some ((-1), M)) else (if x1 = x2 then (some ((-1), M)) else (qb1 (kX1_setPassage 1 M x1 x2 x3) (fun M3 => qb1 (kX1_passageCount 1 M3) (fun v4 => some (v4, M3))))))))

def kX7_gallery (M : qM) (x1 : Int32) (x2 : Int32) (x3 : Int32) : Option (Int32 × qM) :=
  qb1 (kX7_isGallery x1) (fun v1 => if v1 = 0 then (some ((-1), M)) else (qb1 (kX7_isGallery x2) (fun v2 => if v2 = 0 then (some ((-1), M)) else (qrd (M (1 + 2)) 10 x1 (fun v3 => qwr M (1 + 2) 10 x1 x2 (fun M4 => qb1 (α := Int32) (if x3 = 0 then (some ((M4 1 3) &&& (((1 : Int32) <<< (x1 &&& 31)) ^^^ (-1)))) else (some ((M4 1 3) ||| ((1 : Int32) <<< (x1 &&& 31))))) (fun v5 => qvl (qst M4 1 3 v5) (fun M6 => some (v3, M6)))))))))

def kX7_voice (M : qM) (x1 : Int32) (x2 : Int32) (x3 : Int32) (x4 : Int32) (x5 : Int32) : Option (Int32 × qM) :=
  qb1 (kX7_isVoice x1) (fun v1 => if v1 = 0 then (some ((-1), M)) else (qb1 (kX7_isGallery x5) (fun v2 => if v2 = 0 then (some ((-1), M)) else (if x2 < 0 then (some ((-2), M)) else (if 24 ≤ x3 then (some ((-2), M)) else (if x3 < x2 then (some ((-2), M)) else (if x4 < 0 then (some ((-2), M)) else (if x4 ≤ 99 then (qvl (qst M 1 5 ((M 1 5) ||| ((1 : Int32) <<< (x1 &&& 31)))) (fun M3 => qwr M3 (1 + 4) 8 x1 x2 (fun M4 => qwr M4 (1 + 5) 8 x1 x3 (fun M5 => qwr M5 (1 + 6) 8 x1 x4 (fun M6 => qwr M6 (1 + 7) 8 x1 x4 (fun M7 => qwr M7 (1 + 8) 8 x1 x5 (fun M8 => qwr M8 (1 + 9) 8 x1 (-1) (fun M9 => qb1 (kJ6_bitCount_0f7a4 (M9 1 5)) (fun v10 => some (v10, M9)))))))))) else (some ((-2), M))))))))))

def kX7_breath (M : qM) (x1 : Int32) (x2 : Int32) : Option (Int32 × qM) :=
  qb1 (kX1_isThere 1 M x1) (fun v1 => if v1 = 0 then (some ((-1), M)) else (if x2 < 0 then (some ((-2), M)) else (qrd (M (1 + 6)) 8 x1 (fun v2 => if x2 ≤ v2 then (qrd (M (1 + 7)) 8 x1 (fun v3 => qwr M (1 + 7) 8 x1 x2 (fun M4 => qb1 (α := qM) (if x2 = 0 then (qwr M4 (1 + 9) 8 x1 (-1) (fun M6 => some M6)) else (some M4)) (fun M5 => some (v3, M5))))) else (some ((-2), M))))))

def kX7_leave (M : qM) (x1 : Int32) : Option (Int32 × qM) :=
  qb1 (kX1_isThere 1 M x1) (fun v1 => if v1 = 0 then (some ((-1), M)) else (qvl (qst M 1 5 ((M 1 5) &&& (((1 : Int32) <<< (x1 &&& 31)) ^^^ (-1)))) (fun M2 => qwr M2 (1 + 9) 8 x1 (-1) (fun M3 => qb1 (kJ6_bitCount_0f7a4 (M3 1 5)) (fun v4 => some (v4, M3))))))

def kX7_say (M : qM) (x1 : Int32) : Option (Int32 × qM) :=
  if x1 < 33 then (some ((-2), M)) else (if x1 ≤ 126 then (if (M 39 1) < 60 then (qwr M 40 60 (M 39 1) x1 (fun M1 => qvl (qst M1 39 1 ((M1 39 1) + 1)) (fun M2 => some ((M2 39 1), M2)))) else (some ((-4), M))) else (some ((-2), M)))

def kX7_wipe (M : qM) : Option (Int32 × qM) :=
  qvl (M 39 1) (fun v1 => qvl (qst M 39 1 0) (fun M2 => some (v1, M2)))

def kX7_fault (M : qM) : Option (Int32 × qM) :=
  qb2 (kX2_readActs M) (fun v2 M1 => some (v2, M1))

def kX7_judge (M : qM) (x1 : Int32) : Option (Int32 × qM) :=
  if x1 < 0 then (some ((-2), M)) else (if x1 ≤ 1 then (qb2 (kX2_readActs M) (fun v2 M1 => if v2 = (-6) then (qb1 (kX4_tryActs M1 1) (fun M3 => qb1 (α := Int32) (if x1 = 0 then (some (M3 47 1)) else (some (M3 47 2))) (fun v4 => some (v4, M3)))) else (some ((-5), M1)))) else (some ((-2), M)))

def kX7_canBeDone (M : qM) : Option (Int32 × qM) :=
  qb2 (kX2_readActs M) (fun v2 M1 => if v2 = (-6) then (qb1 (kX4_tryActs M1 1) (fun M3 => qb1 (α := Int32) (if (M3 47 1) = (-6) then (some 1) else (some 0)) (fun v4 => qbl v4 (some (v4, M3))))) else (some (0, M1)))

def kX7_done (M : qM) : Option (Int32 × qM) :=
  qb2 (kX7_canBeDone M) (fun v2 M1 => if v2 = 0 then (some ((-5), M1)) else (qb1 (kX1_become 1 M1 48) (fun M3 => qvl (qst M3 39 1 0) (fun M4 => some ((M4 39 5), M4)))))

def kX7_behind (M : qM) (x1 : Int32) (x2 : Int32) : Option (Int32 × qM) :=
  qb1 (kX1_isThere 1 M x1) (fun v1 => if v1 = 0 then (some ((-1), M)) else (if x2 < 0 then (some ((-2), M)) else (if x2 ≤ 2 then (qb2 (kX7_canBeDone M) (fun v3 M2 => if v3 = 0 then (some ((-5), M2)) else (if x2 = 0 then (qb1 (kX1_noteOrNone 48 M2 x1) (fun v7 => some (v7, M2))) else (qb1 (α := Int32) (if x2 = 1 then (qrd (M2 (48 + 7)) 8 x1 (fun v6 => some v6)) else (qrd (M2 (48 + 8)) 8 x1 (fun v5 => some v5))) (fun v4 => some (v4, M2)))))) else (some ((-2), M)))))

def kX7_seam (M : qM) (x1 : Int32) (x2 : Int32) : Option (Int32 × qM) :=
  qb1 (kX7_isGallery x1) (fun v1 => if v1 = 0 then (some ((-1), M)) else (if x2 < 0 then (some ((-2), M)) else (if x2 ≤ 1 then (qb2 (kX7_canBeDone M) (fun v3 M2 => if v3 = 0 then (some ((-5), M2)) else (if x2 = 1 then (qrd (M2 (48 + 3)) 10 x1 (fun v6 => some (v6, M2))) else (qb1 (kX0_shineOn 44 M2 48) (fun M4 => qrd (M4 (44 + 2)) 10 x1 (fun v5 => some (v5, M4))))))) else (some ((-2), M)))))

def kX7_then (M : qM) (x1 : Int32) : Option (Int32 × qM) :=
  if x1 < 0 then (some ((-2), M)) else (if x1 ≤ 4 then (qb2 (kX7_canBeDone M) (fun v2 M1 => if v2 = 0 then (some ((-5), M1)) else (if x1 = 0 then (qb1 (kX0_shineOn 44 M1 48) (fun M3 => some ((M3 44 2), M3))) else (if x1 = 1 then (some ((M1 48 6), M1)) else (if x1 = 2 then (qb1 (kX1_coalInAll 48 M1) (fun v4 => some (v4, M1))) else (if x1 = 3 then (some ((M1 47 3), M1)) else (some ((M1 47 4), M1)))))))) else (some ((-2), M)))

def kX7_light (M : qM) (x1 : Int32) : Option (Int32 × qM) :=
  qb1 (kX7_isGallery x1) (fun v1 => if v1 = 0 then (some ((-1), M)) else (qb1 (kX0_shineOn 44 M 1) (fun M2 => qrd (M2 (44 + 2)) 10 x1 (fun v3 => some (v3, M2)))))

def kX7_shakes_L12 (M : qM) (v2 : Int32) (v4 : Int32) (v5 : Int32) : Option ((Int32 × Int32) ⊕ (Int32)) :=
  if 8 ≤ v5 then (some (.inr v4)) else (qb1 (kX1_singTogether 1 M v2 v5) (fun v7 => qb1 (α := Int32) (if v7 = 0 then (some v4) else (qrd (M (1 + 9)) 8 v5 (fun v9 => qrd (M (1 + 9)) 8 v2 (fun v10 => if (v9 - v10) = 1 then (qrd (M (1 + 8)) 8 v2 (fun v11 => qvl (v4 ||| ((1 : Int32) <<< (v11 &&& 31))) (fun v12 => some v12))) else (some v4))))) (fun v8 => qvl (v5 + 1) (fun v13 => some (.inl (v8, v13))))))
def kX7_shakes_L4 (M : qM) (v1 : Int32) (v2 : Int32) : Option ((Int32 × Int32) ⊕ (Int32)) :=
  if 8 ≤ v2 then (some (.inr v1)) else (qb1 (qlp (S := Int32 × Int32) (E := (Int32)) (fun s => kX7_shakes_L12 M v2 s.1 s.2) qFu (v1, 0)) (fun v6 => qvl (v2 + 1) (fun v14 => some (.inl (v6, v14)))))
def kX7_shakes (M : qM) : Option (Int32) :=
  qb1 (qlp (S := Int32 × Int32) (E := (Int32)) (fun s => kX7_shakes_L4 M s.1 s.2) qFu (0, 0)) (fun v3 => some v3)

def kX7_way (M : qM) (x1 : Int32) (x2 : Int32) (x3 : Int32) : Option (Int32 × qM) :=
  qb1 (kX7_isGallery x1) (fun v1 => if v1 = 0 then (some ((-1), M)) else (qb1 (kX7_isGallery x2) (fun v2 => if v2 = 0 then (some ((-1), M)) else (if x3 < 0 then (some ((-2), M)) else (if x3 ≤ 1 then (qb1 (kX0_shineOn 44 M 1) (fun M3 => qb1 (kX6_measure 63 M3 x2 (1 + 1) 10 ((M3 44 2) &&& ((M3 1 4) ^^^ (-1)))) (fun M4 => qb1 (α := Int32) (if x3 = 0 then (qrd (M4 (63 + 1)) 10 x1 (fun v7 => some v7)) else (qb1 (kX6_nextFrom 63 M4 x1 (1 + 1) 10) (fun v6 => some v6))) (fun v5 => some (v5, M4))))) else (some ((-2), M)))))))

def kX7_isBetter_L34 (x1 : Int32) (M : qM) (v4 : Int32) (v5 : Int32) : Option ((Int32 × Int32) ⊕ (Int32)) :=
  if 10 ≤ v5 then (some (.inr v4)) else (qb1 (kX7_has x1 v5) (fun v7 => qb1 (α := Int32) (if v7 = 0 then (some v4) else (qrd (M (1 + 2)) 10 v5 (fun v9 => qvl (v4 ||| ((1 : Int32) <<< (v9 &&& 31))) (fun v10 => some v10)))) (fun v8 => qvl (v5 + 1) (fun v11 => some (.inl (v8, v11))))))
def kX7_isBetter (M : qM) (x1 : Int32) (x2 : Int32) (x3 : Int32) : Option (Int32) :=
  qb1 (kJ6_bitCount_0f7a4 x1) (fun v1 => qb1 (kJ6_bitCount_0f7a4 x2) (fun v2 => qvl (v1 - v2) (fun v3 => if 0 < v3 then (some 0) else (if v3 = 0 then (if x1 < x2 then (qb1 (qlp (S := Int32 × Int32) (E := (Int32)) (fun s => kX7_isBetter_L34 x1 M s.1 s.2) qFu (x1, 0)) (fun v15 => qb1 (α := Int32) (if (x3 &&& (v15 ^^^ (-1))) = 0 then (some 1) else (some 0)) (fun v21 => qbl v21 (some v21)))) else (some 0)) else (qb1 (qlp (S := Int32 × Int32) (E := (Int32)) (fun s => kX7_isBetter_L34 x1 M s.1 s.2) qFu (x1, 0)) (fun v6 => qb1 (α := Int32) (if (x3 &&& (v6 ^^^ (-1))) = 0 then (some 1) else (some 0)) (fun v12 => qbl v12 (some v12))))))))

def kX7_fewest_L28 (M : qM) (x1 : Int32) (v1 : Int32) (v2 : Int32) : Option ((Int32 × Int32) ⊕ (Int32)) :=
  if 1023 < v2 then (some (.inr v1)) else (qb1 (kX7_isBetter M v2 v1 x1) (fun v4 => qb1 (α := Int32) (if v4 = 0 then (some v1) else (some v2)) (fun v5 => qvl (v2 + 1) (fun v6 => some (.inl (v5, v6))))))
def kX7_fewest (M : qM) (x1 : Int32) (x2 : Int32) : Option (Int32) :=
  if x1 < 0 then (some (-2)) else (if 1023 < x1 then (some (-2)) else (if x2 < 0 then (some (-2)) else (if x2 ≤ 1 then (qb1 (qlp (S := Int32 × Int32) (E := (Int32)) (fun s => kX7_fewest_L28 M x1 s.1 s.2) qFu (x1, 0)) (fun v3 => qb1 (α := Int32) (if x2 = 0 then (qb1 (kJ6_bitCount_0f7a4 v3) (fun v8 => some v8)) else (some v3)) (fun v7 => some v7))) else (some (-2)))))

def kX7_canSingOn_L10 (v1 : Int32) (x1 : Int32) (M : qM) (v2 : Int32) : Option ((Int32) ⊕ ((Int32) ⊕ (Unit))) :=
  if v1 ≤ v2 then (some (.inr (.inr ()))) else (qb1 (kX7_has x1 v1) (fun v3 => if v3 = 0 then (qvl (v2 + 1) (fun v4 => some (.inl v4))) else (qb1 (kX7_has x1 v2) (fun v5 => if v5 = 0 then (qvl (v2 + 1) (fun v6 => some (.inl v6))) else (qb1 (kX1_clash 1 M v1 v2) (fun v7 => if v7 = 0 then (qvl (v2 + 1) (fun v8 => some (.inl v8))) else (some (.inr (.inl 0)))))))))
def kX7_canSingOn_L2 (x1 : Int32) (M : qM) (v1 : Int32) : Option ((Int32) ⊕ ((Int32) ⊕ (Unit))) :=
  if 8 ≤ v1 then (some (.inr (.inr ()))) else (qex0 (qlp (S := Int32) (E := ((Int32) ⊕ (Unit))) (fun s => kX7_canSingOn_L10 v1 x1 M s) qFu 0) (fun rr => some (.inr (.inl rr))) (qvl (v1 + 1) (fun v9 => some (.inl v9))))
def kX7_canSingOn (M : qM) (x1 : Int32) : Option (Int32) :=
  qex0 (qlp (S := Int32) (E := ((Int32) ⊕ (Unit))) (fun s => kX7_canSingOn_L2 x1 M s) qFu 0) (fun rr => some rr) (some 1)

def kX7_keep_L25 (v1 : Int32) (M : qM) (v2 : Int32) (v3 : Int32) : Option ((Int32 × Int32) ⊕ (Int32)) :=
  if v1 < v3 then (some (.inr v2)) else (qb1 (α := Int32) (if (v3 &&& (v1 ^^^ (-1))) = 0 then (qb1 (kJ6_bitCount_0f7a4 v3) (fun v6 => qb1 (kJ6_bitCount_0f7a4 v2) (fun v7 => if v6 ≤ v7 then (some v2) else (qb1 (kX7_canSingOn M v3) (fun v8 => if v8 = 0 then (some v2) else (some v3)))))) else (some v2)) (fun v5 => qvl (v3 + 1) (fun v9 => some (.inl (v5, v9)))))
def kX7_keep (M : qM) (x1 : Int32) : Option (Int32) :=
  if x1 < 0 then (some (-2)) else (if x1 ≤ 1 then (qb1 (kX1_singing 1 M) (fun v1 => qb1 (qlp (S := Int32 × Int32) (E := (Int32)) (fun s => kX7_keep_L25 v1 M s.1 s.2) qFu (0, 1)) (fun v4 => qb1 (α := Int32) (if x1 = 0 then (qb1 (kJ6_bitCount_0f7a4 v4) (fun v11 => some v11)) else (some v4)) (fun v10 => some v10)))) else (some (-2)))

def kX7_cut_L32 (M1 : qM) (v2 : Int32) (v3 : Int32) : Option ((Int32 × Int32) ⊕ (Int32)) :=
  if 8 ≤ v3 then (some (.inr v2)) else (qb1 (kX1_isThere 1 M1 v3) (fun v5 => qb1 (α := Int32) (if v5 = 0 then (some v2) else (qrd (M1 (1 + 8)) 8 v3 (fun v7 => qrd (M1 (63 + 1)) 10 v7 (fun v8 => if v8 = (-6) then (qvl (v2 ||| ((1 : Int32) <<< (v3 &&& 31))) (fun v9 => some v9)) else (some v2))))) (fun v6 => qvl (v3 + 1) (fun v10 => some (.inl (v6, v10))))))
def kX7_cut (M : qM) : Option (Int32 × qM) :=
  qb1 (kX6_measure 63 M 0 (1 + 1) 10 (1023 &&& ((M 1 4) ^^^ (-1)))) (fun M1 => qb1 (qlp (S := Int32 × Int32) (E := (Int32)) (fun s => kX7_cut_L32 M1 s.1 s.2) qFu (0, 0)) (fun v4 => some (v4, M1)))

def kX7_hold (M : qM) (x1 : Int32) (x2 : Int32) (x3 : Int32) : Option (Int32 × qM) :=
  if x1 < 111 then (some ((-2), M)) else (if 999 < x1 then (some ((-2), M)) else (if (x1 - x1 / 10 * 10) = 0 then (some ((-2), M)) else (if ((x1 / 10) - (x1 / 10) / 10 * 10) = 0 then (some ((-2), M)) else (if x2 < 0 then (some ((-2), M)) else (if 999 < x2 then (some ((-2), M)) else (if x3 < 0 then (some ((-2), M)) else (if x3 ≤ 1 then (qb1 (kX5_settle M x1 x2) (fun M1 => qb1 (kX5_bestFirst M1) (fun v2 => qb1 (α := Int32) (if x3 = 0 then (qb1 (kX5_beatsFrom M1 v2) (fun v4 => some v4)) else (some v2)) (fun v3 => some (v3, M1))))) else (some ((-2), M)))))))))

def kX7_round_L59 (x3 : Int32) (x4 : Int32) (x1 : Int32) (v2 : Int32) (v3 : Int32) : Option ((Int32 × Int32) ⊕ ((Int32) ⊕ (Unit))) :=
  if x3 ≤ v3 then (some (.inr (.inr ()))) else (qnz x3 (if ((v2 + x4) - (v2 + x4) / x3 * x3) = 0 then (some (.inr (.inl v2))) else (qvl (v2 + x1) (fun v4 => qvl (v3 + 1) (fun v5 => some (.inl (v4, v5)))))))
def kX7_round (M : qM) (x1 : Int32) (x2 : Int32) (x3 : Int32) (x4 : Int32) : Option (Int32) :=
  if x1 < 1 then (some (-2)) else (if 99 < x1 then (some (-2)) else (if x3 < 1 then (some (-2)) else (if 99 < x3 then (some (-2)) else (if x2 < 0 then (some (-2)) else (if 99 < x2 then (some (-2)) else (if x4 < 0 then (some (-2)) else (if x4 ≤ 99 then (qnz x1 (qnz x1 (qvl ((x1 - (x2 - x2 / x1 * x1)) - (x1 - (x2 - x2 / x1 * x1)) / x1 * x1) (fun v1 => qex0 (qlp (S := Int32 × Int32) (E := ((Int32) ⊕ (Unit))) (fun s => kX7_round_L59 x3 x4 x1 s.1 s.2) qFu (v1, 0)) (fun rr => some rr) (some (-6)))))) else (some (-2)))))))))

def kX7_heard (M : qM) (x1 : Int32) (x2 : Int32) : Option (Int32 × qM) :=
  qb1 (kX7_isGallery x1) (fun v1 => if v1 = 0 then (some ((-1), M)) else (if x2 < (-1) then (some ((-2), M)) else (if x2 < 24 then (if (M 1 7) < 8 then (qwr M (1 + 10) 8 (M 1 7) x1 (fun M2 => qwr M2 (1 + 11) 8 (M2 1 7) x2 (fun M3 => qvl (qst M3 1 7 ((M3 1 7) + 1)) (fun M4 => some ((M4 1 7), M4))))) else (some ((-4), M))) else (some ((-2), M)))))

def kX7_forget (M : qM) : Option (Int32 × qM) :=
  qvl (M 1 7) (fun v1 => qvl (qst M 1 7 0) (fun M2 => some (v1, M2)))

def kX7_losts (M : qM) (x1 : Int32) : Option (Int32 × qM) :=
  qb1 (kX3_findFits M 1) (fun M1 => qb1 (α := Int32) (if x1 = (-1) then (qb1 (kX3_fitCount M1) (fun v4 => some v4)) else (qb1 (kX3_fitAt M1 x1) (fun v3 => some v3))) (fun v2 => some (v2, M1)))

def kX7_listen (M : qM) (x1 : Int32) : Option (Int32 × qM) :=
  if x1 < 0 then (some ((-2), M)) else (if x1 ≤ 1 then (qb1 (kX3_findFits M 1) (fun M1 => qb1 (kX3_fitCount M1) (fun v2 => if v2 = 0 then (some ((-6), M1)) else (qb1 (kX3_chooseListening M1 1) (fun M3 => qb1 (α := Int32) (if x1 = 0 then (some (M3 65 3)) else (some (M3 65 4))) (fun v4 => some (v4, M3))))))) else (some ((-2), M)))

def kX7_power_L5 (x2 : Int32) (x0 : Int64) (v1 : Int64) (v2 : Int32) : Option ((Int64 × Int32) ⊕ (Int64)) :=
  if x2 ≤ v2 then (some (.inr v1)) else (qvl (v1 * x0) (fun v4 => qvl (v2 + 1) (fun v5 => some (.inl (v4, v5)))))
def kX7_power (x0 : Int64) (x2 : Int32) : Option (Int64) :=
  qb1 (qlp (S := Int64 × Int32) (E := (Int64)) (fun s => kX7_power_L5 x2 x0 s.1 s.2) qFu (1, 0)) (fun v3 => some v3)

def kX7_commonDivisor_L9  (v1 : Int64) (v2 : Int64) (v3 : Int32) : Option ((Int64 × Int64 × Int32) ⊕ (Int64)) :=
  if 100 ≤ v3 then (some (.inr v1)) else (if (lg_cmp v2 0) = 0 then (some (.inr v1)) else (qnl v2 (qvl (v1 - v1 / v2 * v2) (fun v5 => qvl (v3 + 1) (fun v6 => some (.inl (v2, v5, v6)))))))
def kX7_commonDivisor (x0 : Int64) (x2 : Int64) : Option (Int64) :=
  qb1 (qlp (S := Int64 × Int64 × Int32) (E := (Int64)) (fun s => kX7_commonDivisor_L9 s.1 s.2.1 s.2.2) qFu (x0, x2, 0)) (fun v4 => some v4)

def kX7_lowestTerms (x0 : Int64) (x2 : Int64) (x4 : Int32) : Option (Int64) :=
  qb1 (kX7_commonDivisor x0 x2) (fun v1 => if 0 ≤ (lg_cmp v1 1) then (qb1 (α := Int64) (if x4 = 0 then (qnl v1 (some (x0 / v1))) else (qnl v1 (some (x2 / v1)))) (fun v2 => some v2)) else (qb1 (α := Int64) (if x4 = 0 then (some x0) else (some x2)) (fun v3 => some v3)))

def kX7_cold (M : qM) (x1 : Int32) (x2 : Int32) (x3 : Int32) (x4 : Int32) (x5 : Int32) : Option (Int64) :=
  qb1 (kX7_isGallery x1) (fun v1 => if v1 = 0 then (some (-1000000000000000001)) else (if x2 < 0 then (some (-1000000000000000002)) else (if 10 < x2 then (some (-1000000000000000002)) else (if x3 < 0 then (some (-1000000000000000002)) else (if 9 < x3 then (some (-1000000000000000002)) else (if x4 < 0 then (some (-1000000000000000002)) else (if 1 < x4 then (some (-1000000000000000002)) else (if x5 < 0 then (some (-1000000000000000002)) else (if x5 ≤ 1 then (qb1 (kX1_singersIn 1 M x1) (fun v2 => if x4 = 0 then (if (x3 * v2) ≤ 18 then (qb1 (kX7_power 10 x3) (fun v9 => qb1 (kX7_power (((10 - x2) : Int32).toInt64) x3) (fun v10 => if x4 = 1 then (qb1 (kX7_lowestTerms (((v2 : Int32).toInt64) * v10) v9 x5) (fun v14 => some v14)) else (qb1 (kX7_power v9 v2) (fun v11 => qb1 (kX7_power (v9 - v10) v2) (fun v12 => qb1 (kX7_lowestTerms (v11 - v12) v11 x5) (fun v13 => some v13))))))) else (some (-1000000000000000003))) else (qb1 (kX7_power 10 x3) (fun v3 => qb1 (kX7_power (((10 - x2) : Int32).toInt64) x3) (fun v4 => if x4 = 1 then (qb1 (kX7_lowestTerms (((v2 : Int32).toInt64) * v4) v3 x5) (fun v8 => some v8)) else (qb1 (kX7_power v3 v2) (fun v5 => qb1 (kX7_power (v3 - v4) v2) (fun v6 => qb1 (kX7_lowestTerms (v5 - v6) v5 x5) (fun v7 => some v7))))))))) else (some (-1000000000000000002)))))))))))

def kX7_year (M : qM) (x1 : Int32) (x2 : Int32) (x3 : Int32) : Option (Int32 × qM) :=
  if x1 < 0 then (some ((-2), M)) else (if 9999 < x1 then (some ((-2), M)) else (if x2 < 1 then (some ((-2), M)) else (if 99 < x2 then (some ((-2), M)) else (if x3 < 0 then (some ((-2), M)) else (if x3 ≤ 2 then (qb1 (kX4_drawActs M 1 x1 x2) (fun M1 => if x3 = 0 then (qb1 (kX1_coalInAll 48 M1) (fun v6 => some (v6, M1))) else (if x3 = 2 then (qb1 (kX1_singing 48 M1) (fun v4 => qb1 (kJ6_bitCount_0f7a4 v4) (fun v5 => some (v5, M1)))) else (qb1 (kX0_shineOn 44 M1 48) (fun M2 => qb1 (kJ6_bitCount_0f7a4 (M2 44 2)) (fun v3 => some (v3, M2))))))) else (some ((-2), M)))))))

def kX7_image (M : qM) (x1 : Int32) : Option (Int32 × qM) :=
  if x1 < 0 then (some ((-2), M)) else (if x1 < 2 then (qck x1 2 (qb1 (kX1_become (qIm (x1 : Int32).toNatClampNeg) M 1) (fun M1 => qwr M1 38 2 x1 (vp_nar .boolean 1) (fun M2 => some (1, M2))))) else (some ((-2), M)))

def kX7_restore (M : qM) (x1 : Int32) : Option (Int32 × qM) :=
  if x1 < 0 then (some ((-2), M)) else (if x1 < 2 then (qrd (M 38) 2 x1 (fun v1 => if v1 = 0 then (some ((-3), M)) else (qck x1 2 (qb1 (kX1_become 1 M (qIm (x1 : Int32).toNatClampNeg)) (fun M2 => some (1, M2)))))) else (some ((-2), M)))

def kX7_toldOfGallery (M : qM) (x1 : Int32) (x2 : Int32) : Option (Int32) :=
  qb1 (kX7_isGallery x1) (fun v1 => if v1 = 0 then (some (-2)) else (if x2 = 0 then (qrd (M (1 + 2)) 10 x1 (fun v2 => some v2)) else (if x2 = 1 then (qrd (M (1 + 3)) 10 x1 (fun v3 => some v3)) else (if x2 = 2 then (qrd (M (1 + 1)) 10 x1 (fun v4 => some v4)) else (some (-2))))))

def kX7_toldOfVoice (M : qM) (x1 : Int32) (x2 : Int32) : Option (Int32) :=
  qb1 (kX1_isThere 1 M x1) (fun v1 => if v1 = 0 then (some (-2)) else (if x2 = 0 then (qrd (M (1 + 4)) 8 x1 (fun v2 => some v2)) else (if x2 = 1 then (qrd (M (1 + 5)) 8 x1 (fun v3 => some v3)) else (if x2 = 2 then (qrd (M (1 + 7)) 8 x1 (fun v4 => some v4)) else (if x2 = 3 then (qrd (M (1 + 6)) 8 x1 (fun v5 => some v5)) else (if x2 = 4 then (qrd (M (1 + 8)) 8 x1 (fun v6 => some v6)) else (if x2 = 5 then (qb1 (kX1_noteOrNone 1 M x1) (fun v7 => some v7)) else (some (-2)))))))))

def kX7_toldOfAll (M : qM) (x1 : Int32) : Option (Int32 × qM) :=
  if x1 = 0 then (some ((M 39 1), M)) else (if x1 = 1 then (some ((M 1 5), M)) else (if x1 = 2 then (qb1 (kX0_shineOn 44 M 1) (fun M1 => some ((M1 44 2), M1))) else (if x1 = 3 then (some ((M 1 6), M)) else (if x1 = 4 then (some ((M 1 4), M)) else (if x1 = 5 then (some ((M 1 3), M)) else (if x1 = 6 then (some ((M 1 7), M)) else (some ((-2), M))))))))

def kX7_told (M : qM) (x1 : Int32) : Option (Int32 × qM) :=
  if x1 < 0 then (some ((-2), M)) else (if x1 < 200 then (if x1 < 100 then (if x1 < 10 then (qb2 (kX7_toldOfAll M x1) (fun v2 M1 => some (v2, M1))) else (qb1 (kX7_toldOfVoice M ((x1 / 10) - 1) (x1 - x1 / 10 * 10)) (fun v3 => some (v3, M)))) else (qb1 (kX7_toldOfGallery M ((x1 - 100) / 10) (x1 - x1 / 10 * 10)) (fun v4 => some (v4, M)))) else (some ((-2), M)))

def kX8_in (x0 : Int32) (x1 : Int32) (x2 : Int32) : Option (Int32) :=
  qb1 (α := Int32) (if x0 < x1 then (some 0) else (if x2 < x0 then (some 0) else (some 1))) (fun v1 => qbl v1 (some v1))

def kX8_has (x0 : Int32) (x1 : Int32) : Option (Int32) :=
  qb1 (α := Int32) (if ((x0 >>> (x1 &&& 31)) &&& 1) = 1 then (some 1) else (some 0)) (fun v1 => qbl v1 (some v1))

def kX8_bits_L4 (x0 : Int32) (v1 : Int32) (v2 : Int32) : Option ((Int32 × Int32) ⊕ (Int32)) :=
  if 10 ≤ v2 then (some (.inr v1)) else (qvl (v1 + ((x0 >>> (v2 &&& 31)) &&& 1)) (fun v4 => qvl (v2 + 1) (fun v5 => some (.inl (v4, v5)))))
def kX8_bits (x0 : Int32) : Option (Int32) :=
  qb1 (qlp (S := Int32 × Int32) (E := (Int32)) (fun s => kX8_bits_L4 x0 s.1 s.2) qFu (0, 0)) (fun v3 => some v3)

def kX8_isGallery (x0 : Int32) : Option (Int32) :=
  qb1 (kX8_in x0 0 9) (fun v1 => qbl v1 (some v1))

def kX8_isThere (M : qM) (x1 : Int32) : Option (Int32) :=
  qb1 (kX8_in x1 0 7) (fun v1 => qb1 (α := Int32) (if v1 = 0 then (some 0) else (qb1 (kX8_has (M 0 2) x1) (fun v3 => if v3 = 0 then (some 0) else (some 1)))) (fun v2 => qbl v2 (some v2)))

def kX8_passage_L95 (M12 : qM) (v13 : Int32) (v14 : Int32) : Option ((Int32 × Int32) ⊕ (Int32)) :=
  if 10 ≤ v14 then (some (.inr v13)) else (qrd (M12 6) 10 v14 (fun v16 => qb1 (kX8_bits v16) (fun v17 => qvl (v13 + v17) (fun v18 => qvl (v14 + 1) (fun v19 => some (.inl (v18, v19)))))))
def kX8_passage (M : qM) (x1 : Int32) (x2 : Int32) (x3 : Int32) : Option (Int32 × qM) :=
  qb1 (kX8_isGallery x1) (fun v1 => if v1 = 0 then (some ((-1), M)) else (qb1 (kX8_isGallery x2) (fun v2 => if v2 = 0 then (some ((-1), M)) else (if x1 = x2 then (some ((-1), M)) else (qrd (M 6) 10 x1 (fun v3 => qwr M 6 10 x1 (v3 &&& (((1 : Int32) <<< (x2 &&& 31)) ^^^ (-1))) (fun M4 => qrd (M4 6) 10 x2 (fun v5 => qwr M4 6 10 x2 (v5 &&& (((1 : Int32) <<< (x1 &&& 31)) ^^^ (-1))) (fun M6 => qrd (M6 6) 10 x1 (fun v7 => qb1 (α := Int32) (if x3 = 0 then (some 0) else (some ((1 : Int32) <<< (x2 &&& 31)))) (fun v8 => qwr M6 6 10 x1 (v7 ||| v8) (fun M9 => qrd (M9 6) 10 x2 (fun v10 => qb1 (α := Int32) (if x3 = 0 then (some 0) else (some ((1 : Int32) <<< (x1 &&& 31)))) (fun v11 => qwr M9 6 10 x2 (v10 ||| v11) (fun M12 => qb1 (qlp (S := Int32 × Int32) (E := (Int32)) (fun s => kX8_passage_L95 M12 s.1 s.2) qFu (0, 0)) (fun v15 => some ((v15 / 2), M12)))))))))))))))))

def kX8_gallery (M : qM) (x1 : Int32) (x2 : Int32) (x3 : Int32) : Option (Int32 × qM) :=
  qb1 (kX8_isGallery x1) (fun v1 => if v1 = 0 then (some ((-1), M)) else (qb1 (kX8_isGallery x2) (fun v2 => if v2 = 0 then (some ((-1), M)) else (qrd (M 7) 10 x1 (fun v3 => qwr M 7 10 x1 x2 (fun M4 => qvl (qst M4 0 8 ((M4 0 8) &&& (((1 : Int32) <<< (x1 &&& 31)) ^^^ (-1)))) (fun M5 => qb1 (α := Int32) (if x3 = 0 then (some 0) else (some ((1 : Int32) <<< (x1 &&& 31)))) (fun v6 => qvl (qst M5 0 8 ((M5 0 8) ||| v6)) (fun M7 => some (v3, M7))))))))))

def kX8_voice (M : qM) (x1 : Int32) (x2 : Int32) (x3 : Int32) (x4 : Int32) (x5 : Int32) : Option (Int32 × qM) :=
  qb1 (kX8_in x1 0 7) (fun v1 => if v1 = 0 then (some ((-1), M)) else (qb1 (kX8_isGallery x5) (fun v2 => if v2 = 0 then (some ((-1), M)) else (qb1 (kX8_in x2 0 23) (fun v3 => if v3 = 0 then (some ((-2), M)) else (qb1 (kX8_in x3 x2 23) (fun v4 => if v4 = 0 then (some ((-2), M)) else (qb1 (kX8_in x4 0 99) (fun v5 => if v5 = 0 then (some ((-2), M)) else (qvl (qst M 0 2 ((M 0 2) ||| ((1 : Int32) <<< (x1 &&& 31)))) (fun M6 => qwr M6 3 8 x1 x2 (fun M7 => qwr M7 4 8 x1 x3 (fun M8 => qwr M8 5 8 x1 x4 (fun M9 => qwr M9 1 36 x1 (-6) (fun M10 => qwr M10 1 36 (8 + x1) x4 (fun M11 => qwr M11 1 36 (16 + x1) x5 (fun M12 => qb1 (kX8_bits (M12 0 2)) (fun v13 => some (v13, M12)))))))))))))))))))

def kX8_breath (M : qM) (x1 : Int32) (x2 : Int32) : Option (Int32 × qM) :=
  qb1 (kX8_isThere M x1) (fun v1 => if v1 = 0 then (some ((-1), M)) else (qrd (M 5) 8 x1 (fun v2 => qb1 (kX8_in x2 0 v2) (fun v3 => if v3 = 0 then (some ((-2), M)) else (qrd (M 1) 36 (8 + x1) (fun v4 => qwr M 1 36 (8 + x1) x2 (fun M5 => qb1 (α := Int32) (if x2 = 0 then (some (-6)) else (qrd (M5 1) 36 x1 (fun v7 => some v7))) (fun v6 => qwr M5 1 36 x1 v6 (fun M8 => some (v4, M8))))))))))

def kX8_leave (M : qM) (x1 : Int32) : Option (Int32 × qM) :=
  qb1 (kX8_isThere M x1) (fun v1 => if v1 = 0 then (some ((-1), M)) else (qvl (qst M 0 2 ((M 0 2) &&& (((1 : Int32) <<< (x1 &&& 31)) ^^^ (-1)))) (fun M2 => qb1 (kX8_bits (M2 0 2)) (fun v3 => some (v3, M2)))))

def kX8_say (M : qM) (x1 : Int32) : Option (Int32 × qM) :=
  qb1 (kX8_in x1 33 126) (fun v1 => if v1 = 0 then (some ((-2), M)) else (if (M 0 11) = 60 then (some ((-4), M)) else (qwr M 9 60 (M 0 11) x1 (fun M2 => qvl (qst M2 0 11 ((M2 0 11) + 1)) (fun M3 => some ((M3 0 11), M3))))))

def kX8_wipe (M : qM) : Option (Int32 × qM) :=
  qvl (M 0 11) (fun v1 => qvl (qst M 0 11 0) (fun M2 => some (v1, M2)))

def kX8_faultOf_L4 (M : qM) (v1 : Int32) (v2 : Int32) : Option ((Int32 × Int32) ⊕ ((Int32) ⊕ (Int32))) :=
  if (M 0 11) ≤ v2 then (some (.inr (.inr v1))) else (qrd (M 9) 60 v2 (fun v4 => qb1 (α := Int32) (if v1 = 0 then (qb1 (kX8_in v4 65 72) (fun v8 => if v8 = 0 then (if v4 = 42 then (some 1) else (if v4 = 46 then (some 1) else (some 0))) else (some 1))) else (if v1 = 1 then (qb1 (kX8_in v4 97 120) (fun v7 => if v7 = 0 then (if v4 = 45 then (some 1) else (if v4 = 62 then (some 1) else (some 0))) else (some 1))) else (qb1 (kX8_in v4 48 57) (fun v6 => some v6)))) (fun v5 => if v5 = 0 then (some (.inr (.inl v2))) else (qb1 (α := Int32) (if v1 = 0 then (if v4 = 46 then (some 0) else (if v4 = 42 then (some 2) else (some 1))) else (if v1 = 1 then (if v4 = 62 then (some 2) else (some 0)) else (some 0))) (fun v9 => qvl (v2 + 1) (fun v10 => some (.inl (v9, v10))))))))
def kX8_faultOf (M : qM) : Option (Int32) :=
  qex1 (qlp (S := Int32 × Int32) (E := ((Int32) ⊕ (Int32))) (fun s => kX8_faultOf_L4 M s.1 s.2) qFu (0, 0)) (fun rr => some rr) (fun v3 => qb1 (α := Int32) (if v3 = 0 then (some (-6)) else (some (M 0 11))) (fun v11 => some v11))

def kX8_fault (M : qM) : Option (Int32) :=
  qb1 (kX8_faultOf M) (fun v1 => some v1)

def kX8_sings (M : qM) (x1 : Int32) (x2 : Int32) : Option (Int32) :=
  qb1 (kX8_isThere M x1) (fun v1 => qb1 (α := Int32) (if v1 = 0 then (some 0) else (qrd (M 2) 36 (16 + x1) (fun v3 => if v3 = x2 then (qrd (M 2) 36 x1 (fun v4 => if v4 < 0 then (some 0) else (some 1))) else (some 0)))) (fun v2 => qbl v2 (some v2)))

def kX8_areHushed (M : qM) (x1 : Int32) (x2 : Int32) : Option (Int32) :=
  qrd (M 2) 36 x1 (fun v1 => qrd (M 2) 36 x2 (fun v2 => qvl (v1 - v2) (fun v3 => qb1 (α := Int32) (if 0 ≤ v3 then (some v3) else (some (-v3))) (fun v4 => qb1 (α := Int32) (if v4 = 3 then (some 1) else (if v4 = 4 then (some 1) else (some 0))) (fun v5 => qbl v5 (some v5))))))

def kX8_ownLight_L21 (M : qM) (x1 : Int32) (v2 : Int32) (v5 : Int32) (v6 : Int32) : Option ((Int32 × Int32) ⊕ (Int32)) :=
  if 8 ≤ v6 then (some (.inr v5)) else (if v5 = 0 then (some (.inr v5)) else (qb1 (kX8_has (M 0 8) x1) (fun v8 => qb1 (α := Int32) (if v8 = 0 then (some 1) else (if v6 = v2 then (some 1) else (qb1 (kX8_sings M v6 x1) (fun v10 => if v10 = 0 then (some 1) else (qb1 (kX8_areHushed M v2 v6) (fun v11 => if v11 = 0 then (some 1) else (some 0))))))) (fun v9 => qvl (v6 + 1) (fun v12 => some (.inl (v9, v12)))))))
def kX8_ownLight_L4 (M : qM) (x1 : Int32) (v1 : Int32) (v2 : Int32) : Option ((Int32 × Int32) ⊕ (Int32)) :=
  if 8 ≤ v2 then (some (.inr v1)) else (qb1 (kX8_sings M v2 x1) (fun v4 => qb1 (qlp (S := Int32 × Int32) (E := (Int32)) (fun s => kX8_ownLight_L21 M x1 v2 s.1 s.2) qFu (v4, 0)) (fun v7 => qb1 (α := Int32) (if v7 = 0 then (some v1) else (qrd (M 2) 36 v2 (fun v14 => if (v14 + 1) ≤ v1 then (some v1) else (qrd (M 2) 36 v2 (fun v15 => some (v15 + 1)))))) (fun v13 => qvl (v2 + 1) (fun v16 => some (.inl (v13, v16)))))))
def kX8_ownLight (M : qM) (x1 : Int32) : Option (Int32) :=
  qb1 (qlp (S := Int32 × Int32) (E := (Int32)) (fun s => kX8_ownLight_L4 M x1 s.1 s.2) qFu (0, 0)) (fun v3 => some v3)

def kX8_lightOf_L8 (x1 : Int32) (M : qM) (v2 : Int32) (v3 : Int32) : Option ((Int32 × Int32) ⊕ (Int32)) :=
  if 10 ≤ v3 then (some (.inr v2)) else (qb1 (α := Int32) (if v3 = x1 then (some v2) else (qrd (M 7) 10 v3 (fun v6 => if v6 = x1 then (qb1 (kX8_ownLight M v3) (fun v7 => qvl (v7 / 2) (fun v8 => qb1 (α := Int32) (if v8 ≤ v2 then (some v2) else (some v8)) (fun v9 => some v9)))) else (some v2)))) (fun v5 => qvl (v3 + 1) (fun v10 => some (.inl (v5, v10)))))
def kX8_lightOf (M : qM) (x1 : Int32) : Option (Int32) :=
  qb1 (kX8_ownLight M x1) (fun v1 => qb1 (qlp (S := Int32 × Int32) (E := (Int32)) (fun s => kX8_lightOf_L8 x1 M s.1 s.2) qFu (v1, 0)) (fun v4 => some v4))

def kX8_lamps_L4 (M : qM) (v1 : Int32) (v2 : Int32) : Option ((Int32 × Int32) ⊕ (Int32)) :=
  if 10 ≤ v2 then (some (.inr v1)) else (qb1 (kX8_lightOf M v2) (fun v4 => qb1 (α := Int32) (if v4 ≤ 0 then (some 0) else (some ((1 : Int32) <<< (v2 &&& 31)))) (fun v5 => qvl (v1 ||| v5) (fun v6 => qvl (v2 + 1) (fun v7 => some (.inl (v6, v7)))))))
def kX8_lamps (M : qM) : Option (Int32) :=
  qb1 (qlp (S := Int32 × Int32) (E := (Int32)) (fun s => kX8_lamps_L4 M s.1 s.2) qFu (0, 0)) (fun v3 => some v3)

def kX8_asNow_L2  (v1 : Int32) (M2 : qM) : Option ((Int32 × qM) ⊕ (qM)) :=
  if 36 ≤ v1 then (some (.inr M2)) else (qrd (M2 1) 36 v1 (fun v4 => qwr M2 2 36 v1 v4 (fun M5 => qvl (v1 + 1) (fun v6 => some (.inl (v6, M5))))))
def kX8_asNow (M : qM) : Option (qM) :=
  qb1 (qlp (S := Int32 × qM) (E := (qM)) (fun s => kX8_asNow_L2 s.1 s.2) qFu (0, M)) (fun M3 => qvl (qst M3 0 13 (-6)) (fun M7 => qvl (qst M7 0 14 (-6)) (fun M8 => some M8)))

def kX8_sing (M : qM) (x1 : Int32) (x2 : Int32) : Option (Int32 × qM) :=
  qb1 (kX8_isThere M x1) (fun v1 => if v1 = 0 then (some (1, M)) else (qrd (M 3) 8 x1 (fun v2 => qrd (M 4) 8 x1 (fun v3 => qb1 (kX8_in x2 v2 v3) (fun v4 => if v4 = 0 then (some (2, M)) else (qrd (M 2) 36 x1 (fun v5 => if v5 = x2 then (some (3, M)) else (qrd (M 2) 36 (8 + x1) (fun v6 => if v6 = 0 then (some (4, M)) else (qwr M 2 36 x1 x2 (fun M7 => some (0, M7))))))))))))

def kX8_hush (M : qM) (x1 : Int32) : Option (Int32 × qM) :=
  qb1 (kX8_isThere M x1) (fun v1 => if v1 = 0 then (some (1, M)) else (qrd (M 2) 36 x1 (fun v2 => if 0 ≤ v2 then (qwr M 2 36 x1 (-6) (fun M3 => some (0, M3))) else (some (3, M)))))

def kX8_go (M : qM) (x1 : Int32) (x2 : Int32) : Option (Int32 × qM) :=
  qb1 (kX8_isThere M x1) (fun v1 => if v1 = 0 then (some (1, M)) else (qrd (M 2) 36 (16 + x1) (fun v2 => qrd (M 6) 10 v2 (fun v3 => qb1 (kX8_has v3 x2) (fun v4 => if v4 = 0 then (some (5, M)) else (qrd (M 2) 36 34 (fun v5 => qb1 (kX8_has v5 v2) (fun v6 => if v6 = 0 then (qrd (M 2) 36 34 (fun v7 => qb1 (kX8_has v7 x2) (fun v8 => if v8 = 0 then (qwr M 2 36 (16 + x1) x2 (fun M9 => some (0, M9))) else (some (6, M))))) else (some (6, M))))))))))

def kX8_beat_L29  (v4 : Int32) (M5 : qM) : Option ((Int32 × qM) ⊕ (qM)) :=
  if 10 ≤ v4 then (some (.inr M5)) else (qb1 (kX8_lightOf M5 v4) (fun v7 => qwr M5 10 10 v4 v7 (fun M8 => qvl (v4 + 1) (fun v9 => some (.inl (v9, M8))))))
def kX8_beat_L54  (v10 : Int32) (M11 : qM) : Option ((Int32 × qM) ⊕ (qM)) :=
  if 8 ≤ v10 then (some (.inr M11)) else (qrd (M11 2) 36 (16 + v10) (fun v13 => qb1 (kX8_isThere M11 v10) (fun v14 => qb1 (α := qM) (if v14 = 0 then (qb1 (kX8_isThere M11 v10) (fun v16 => if v16 = 0 then (some M11) else (qvl (8 + v10) (fun v17 => qrd (M11 2) 36 v17 (fun v18 => qwr M11 2 36 v17 (v18 - 1) (fun M19 => qrd (M19 2) 36 (8 + v10) (fun v20 => qb1 (α := Int32) (if v20 = 0 then (some (-6)) else (qrd (M19 2) 36 v10 (fun v22 => some v22))) (fun v21 => qwr M19 2 36 v10 v21 (fun M23 => some M23))))))))) else (qrd (M11 2) 36 v10 (fun v24 => if 0 ≤ v24 then (qb1 (kX8_isThere M11 v10) (fun v25 => if v25 = 0 then (some M11) else (qvl (8 + v10) (fun v26 => qrd (M11 2) 36 v26 (fun v27 => qwr M11 2 36 v26 (v27 - 1) (fun M28 => qrd (M28 2) 36 (8 + v10) (fun v29 => qb1 (α := Int32) (if v29 = 0 then (some (-6)) else (qrd (M28 2) 36 v10 (fun v31 => some v31))) (fun v30 => qwr M28 2 36 v10 v30 (fun M32 => some M32))))))))) else (qvl (24 + v13) (fun v33 => qrd (M11 2) 36 v33 (fun v34 => qrd (M11 10) 10 v13 (fun v35 => qb1 (α := Int32) (if v35 ≤ 8 then (qrd (M11 10) 10 v13 (fun v37 => if v37 ≤ 0 then (some 0) else (some 1))) else (some 2)) (fun v36 => qwr M11 2 36 v33 (v34 + v36) (fun M38 => qvl (8 + v10) (fun v39 => qrd (M38 2) 36 v39 (fun v40 => qrd (M38 2) 36 (8 + v10) (fun v41 => qrd (M38 5) 8 v10 (fun v42 => qb1 (α := Int32) (if v42 ≤ v41 then (some 0) else (some 1)) (fun v43 => qwr M38 2 36 v39 (v40 + v43) (fun M44 => some M44))))))))))))))) (fun M15 => qvl (v10 + 1) (fun v45 => some (.inl (v45, M15)))))))
def kX8_beat (M : qM) : Option (Int32 × qM) :=
  qrd (M 2) 36 35 (fun v1 => if v1 = 999 then (some (7, M)) else (qrd (M 2) 36 35 (fun v2 => qwr M 2 36 35 (v2 + 1) (fun M3 => qb1 (qlp (S := Int32 × qM) (E := (qM)) (fun s => kX8_beat_L29 s.1 s.2) qFu (0, M3)) (fun M6 => qb1 (qlp (S := Int32 × qM) (E := (qM)) (fun s => kX8_beat_L54 s.1 s.2) qFu (0, M6)) (fun M12 => some (0, M12)))))))

def kX8_goShifts_L201 (v5 : Int32) (v33 : Int32) (v34 : Int32) (M35 : qM) : Option ((Int32 × qM) ⊕ (qM)) :=
  if 10 ≤ v34 then (some (.inr M35)) else (if 0 ≤ (M35 0 13) then (some (.inr M35)) else (qb1 (kX8_has (v5 &&& (v33 ^^^ (-1))) v34) (fun v37 => qb1 (α := qM) (if v37 = 0 then (some M35) else (qvl (qst M35 0 13 (M35 0 17)) (fun M39 => qvl (qst M39 0 14 v34) (fun M40 => some M40)))) (fun M38 => qvl (v34 + 1) (fun v41 => some (.inl (v41, M38)))))))
def kX8_goShifts_L16  (v4 : Int32) (v5 : Int32) (M6 : qM) : Option ((Int32 × Int32 × qM) ⊕ ((Int32 × qM) ⊕ (qM))) :=
  if (M6 0 11) ≤ v4 then (some (.inr (.inr M6))) else (qrd (M6 9) 60 v4 (fun v8 => qvl (qst M6 0 16 0) (fun M9 => qb2 (α1 := Int32) (α2 := qM) (if v8 = 46 then (qb2 (kX8_beat M9) (fun v30 M29 => qvl (qst M29 0 16 v30) (fun M31 => qvl (v4 + 1) (fun v32 => some (v32, M31))))) else (if v8 = 42 then (qrd (M9 2) 36 34 (fun v25 => qrd (M9 9) 60 (v4 + 1) (fun v26 => qwr M9 2 36 34 (v25 ^^^ ((1 : Int32) <<< ((v26 - 48) &&& 31))) (fun M27 => qvl (v4 + 2) (fun v28 => some (v28, M27)))))) else (qrd (M9 9) 60 (v4 + 1) (fun v12 => qb2 (α1 := Int32) (α2 := qM) (if v12 = 45 then (qb2 (kX8_hush M9 (v8 - 65)) (fun v21 M20 => some (v21, M20))) else (if v12 = 62 then (qrd (M9 9) 60 (v4 + 2) (fun v17 => qb2 (kX8_go M9 (v8 - 65) (v17 - 48)) (fun v19 M18 => some (v19, M18)))) else (qb2 (kX8_sing M9 (v8 - 65) (v12 - 97)) (fun v16 M15 => some (v16, M15))))) (fun v13 M14 => qvl (qst M14 0 16 v13) (fun M22 => qb1 (α := Int32) (if v12 = 62 then (some 3) else (some 2)) (fun v23 => qvl (v4 + v23) (fun v24 => some (v24, M22))))))))) (fun v10 M11 => if (M11 0 16) ≤ 0 then (qb1 (kX8_lamps M11) (fun v33 => qb1 (qlp (S := Int32 × qM) (E := (qM)) (fun s => kX8_goShifts_L201 v5 v33 s.1 s.2) qFu (0, M11)) (fun M36 => qvl (qst M36 0 17 ((M36 0 17) + 1)) (fun M42 => some (.inl (v10, v33, M42)))))) else (some (.inr (.inl ((M11 0 17), M11))))))))
def kX8_goShifts (M : qM) : Option (Int32 × qM) :=
  qb1 (kX8_asNow M) (fun M1 => qvl (qst M1 0 17 0) (fun M2 => qb1 (kX8_lamps M2) (fun v3 => qex1 (qlp (S := Int32 × Int32 × qM) (E := ((Int32 × qM) ⊕ (qM))) (fun s => kX8_goShifts_L16 s.1 s.2.1 s.2.2) qFu (0, v3, M2)) (fun rr => some rr) (fun M7 => some ((-6), M7)))))

def kX8_judge (M : qM) (x1 : Int32) : Option (Int32 × qM) :=
  qb1 (kX8_in x1 0 1) (fun v1 => if v1 = 0 then (some ((-2), M)) else (qb1 (kX8_faultOf M) (fun v2 => if v2 < 0 then (qb2 (kX8_goShifts M) (fun v4 M3 => qb1 (α := Int32) (if v4 < 0 then (some v4) else (if x1 = 0 then (some v4) else (some (M3 0 16)))) (fun v5 => some (v5, M3)))) else (some ((-5), M)))))

def kX8_barOfShifts (M : qM) : Option (Int32 × qM) :=
  qb1 (kX8_faultOf M) (fun v1 => qb2 (α1 := Int32) (α2 := qM) (if 0 ≤ v1 then (some ((-5), M)) else (qb2 (kX8_goShifts M) (fun v5 M4 => if v5 < 0 then (some (0, M4)) else (some ((-5), M4))))) (fun v2 M3 => some (v2, M3)))

def kX8_done_L12  (v3 : Int32) (M4 : qM) : Option ((Int32 × qM) ⊕ (qM)) :=
  if 36 ≤ v3 then (some (.inr M4)) else (qrd (M4 2) 36 v3 (fun v6 => qwr M4 1 36 v3 v6 (fun M7 => qvl (v3 + 1) (fun v8 => some (.inl (v8, M7))))))
def kX8_done (M : qM) : Option (Int32 × qM) :=
  qb2 (kX8_barOfShifts M) (fun v2 M1 => if 0 ≤ v2 then (qb1 (qlp (S := Int32 × qM) (E := (qM)) (fun s => kX8_done_L12 s.1 s.2) qFu (0, M1)) (fun M5 => qvl (qst M5 0 11 0) (fun M9 => some ((M9 0 17), M9)))) else (some ((-5), M1)))

def kX8_behind (M : qM) (x1 : Int32) (x2 : Int32) : Option (Int32 × qM) :=
  qb1 (kX8_isThere M x1) (fun v1 => if v1 = 0 then (some ((-1), M)) else (qb1 (kX8_in x2 0 2) (fun v2 => if v2 = 0 then (some ((-2), M)) else (qb2 (kX8_barOfShifts M) (fun v4 M3 => qb1 (α := Int32) (if 0 ≤ v4 then (qrd (M3 2) 36 ((8 * x2) + x1) (fun v6 => some v6)) else (some (-5))) (fun v5 => some (v5, M3)))))))

def kX8_seam (M : qM) (x1 : Int32) (x2 : Int32) : Option (Int32 × qM) :=
  qb1 (kX8_isGallery x1) (fun v1 => if v1 = 0 then (some ((-1), M)) else (qb1 (kX8_in x2 0 1) (fun v2 => if v2 = 0 then (some ((-2), M)) else (qb2 (kX8_barOfShifts M) (fun v4 M3 => if 0 ≤ v4 then (qb1 (α := Int32) (if x2 = 0 then (qb1 (kX8_lightOf M3 x1) (fun v7 => some v7)) else (qrd (M3 2) 36 (24 + x1) (fun v6 => some v6))) (fun v5 => some (v5, M3))) else (some ((-5), M3)))))))

def kX8_coal_L4 (M : qM) (v1 : Int32) (v2 : Int32) : Option ((Int32 × Int32) ⊕ (Int32)) :=
  if 10 ≤ v2 then (some (.inr v1)) else (qrd (M 2) 36 (24 + v2) (fun v4 => qvl (v1 + v4) (fun v5 => qvl (v2 + 1) (fun v6 => some (.inl (v5, v6))))))
def kX8_coal (M : qM) : Option (Int32) :=
  qb1 (qlp (S := Int32 × Int32) (E := (Int32)) (fun s => kX8_coal_L4 M s.1 s.2) qFu (0, 0)) (fun v3 => some v3)

def kX8_then (M : qM) (x1 : Int32) : Option (Int32 × qM) :=
  qb1 (kX8_in x1 0 4) (fun v1 => if v1 = 0 then (some ((-2), M)) else (qb2 (kX8_barOfShifts M) (fun v3 M2 => if 0 ≤ v3 then (if x1 = 0 then (qb1 (kX8_lamps M2) (fun v4 => some (v4, M2))) else (if x1 = 1 then (qrd (M2 2) 36 35 (fun v5 => some (v5, M2))) else (if x1 = 2 then (qb1 (kX8_coal M2) (fun v6 => some (v6, M2))) else (qb1 (α := Int32) (if x1 = 3 then (some (M2 0 13)) else (some (M2 0 14))) (fun v7 => some (v7, M2)))))) else (some ((-5), M2)))))

def kX8_light (M : qM) (x1 : Int32) : Option (Int32 × qM) :=
  qb1 (kX8_isGallery x1) (fun v1 => if v1 = 0 then (some ((-1), M)) else (qb1 (kX8_asNow M) (fun M2 => qb1 (kX8_lightOf M2 x1) (fun v3 => some (v3, M2)))))

def kX8_shakes_L16 (M1 : qM) (v3 : Int32) (v5 : Int32) (v6 : Int32) : Option ((Int32 × Int32) ⊕ (Int32)) :=
  if 8 ≤ v6 then (some (.inr v5)) else (qrd (M1 2) 36 (16 + v3) (fun v8 => qb1 (kX8_sings M1 v3 v8) (fun v9 => qb1 (α := Int32) (if v9 = 0 then (some 0) else (qb1 (kX8_sings M1 v6 v8) (fun v11 => if v11 = 0 then (some 0) else (qrd (M1 2) 36 v3 (fun v12 => qrd (M1 2) 36 v6 (fun v13 => if v12 = (v13 + 1) then (some ((1 : Int32) <<< (v8 &&& 31))) else (some 0))))))) (fun v10 => qvl (v5 ||| v10) (fun v14 => qvl (v6 + 1) (fun v15 => some (.inl (v14, v15))))))))
def kX8_shakes_L8 (M1 : qM) (v2 : Int32) (v3 : Int32) : Option ((Int32 × Int32) ⊕ (Int32)) :=
  if 8 ≤ v3 then (some (.inr v2)) else (qb1 (qlp (S := Int32 × Int32) (E := (Int32)) (fun s => kX8_shakes_L16 M1 v3 s.1 s.2) qFu (v2, 0)) (fun v7 => qvl (v3 + 1) (fun v16 => some (.inl (v7, v16)))))
def kX8_shakes (M : qM) : Option (Int32 × qM) :=
  qb1 (kX8_asNow M) (fun M1 => qb1 (qlp (S := Int32 × Int32) (E := (Int32)) (fun s => kX8_shakes_L8 M1 s.1 s.2) qFu (0, 0)) (fun v4 => some (v4, M1)))

def kX8_layFar_L2 (x1 : Int32) (x2 : Int32) (v1 : Int32) (M2 : qM) : Option ((Int32 × qM) ⊕ (qM)) :=
  if 10 ≤ v1 then (some (.inr M2)) else (qb1 (α := Int32) (if v1 = x1 then (qb1 (kX8_has x2 v1) (fun v5 => if v5 = 0 then (some 1000000) else (some 0))) else (some 1000000)) (fun v4 => qwr M2 11 10 v1 v4 (fun M6 => qvl (v1 + 1) (fun v7 => some (.inl (v7, M6))))))
def kX8_layFar_L60 (v11 : Int32) (x2 : Int32) (v14 : Int32) (M15 : qM) : Option ((Int32 × qM) ⊕ (qM)) :=
  if 10 ≤ v14 then (some (.inr M15)) else (qrd (M15 6) 10 v11 (fun v17 => qb1 (kX8_has v17 v14) (fun v18 => qb1 (α := Int32) (if v18 = 0 then (qrd (M15 11) 10 v14 (fun v20 => some v20)) else (qb1 (kX8_has x2 v14) (fun v21 => if v21 = 0 then (qrd (M15 11) 10 v14 (fun v22 => some v22)) else (qrd (M15 11) 10 v11 (fun v23 => qrd (M15 11) 10 v14 (fun v24 => if v24 ≤ (v23 + 1) then (qrd (M15 11) 10 v14 (fun v25 => some v25)) else (qrd (M15 11) 10 v11 (fun v26 => some (v26 + 1))))))))) (fun v19 => qwr M15 11 10 v14 v19 (fun M27 => qvl (v14 + 1) (fun v28 => some (.inl (v28, M27))))))))
def kX8_layFar_L50 (x2 : Int32) (v11 : Int32) (M12 : qM) : Option ((Int32 × qM) ⊕ (qM)) :=
  if 10 ≤ v11 then (some (.inr M12)) else (qb1 (qlp (S := Int32 × qM) (E := (qM)) (fun s => kX8_layFar_L60 v11 x2 s.1 s.2) qFu (0, M12)) (fun M16 => qvl (v11 + 1) (fun v29 => some (.inl (v29, M16)))))
def kX8_layFar_L41 (x2 : Int32) (v8 : Int32) (M9 : qM) : Option ((Int32 × qM) ⊕ (qM)) :=
  if 10 ≤ v8 then (some (.inr M9)) else (qb1 (qlp (S := Int32 × qM) (E := (qM)) (fun s => kX8_layFar_L50 x2 s.1 s.2) qFu (0, M9)) (fun M13 => qvl (v8 + 1) (fun v30 => some (.inl (v30, M13)))))
def kX8_layFar (M : qM) (x1 : Int32) (x2 : Int32) : Option (qM) :=
  qb1 (qlp (S := Int32 × qM) (E := (qM)) (fun s => kX8_layFar_L2 x1 x2 s.1 s.2) qFu (0, M)) (fun M3 => qb1 (qlp (S := Int32 × qM) (E := (qM)) (fun s => kX8_layFar_L41 x2 s.1 s.2) qFu (0, M3)) (fun M10 => some M10))

def kX8_way_L84 (x1 : Int32) (x2 : Int32) (M7 : qM) (v9 : Int32) (v10 : Int32) : Option ((Int32 × Int32) ⊕ (Int32)) :=
  if v10 < 0 then (some (.inr v9)) else (if x1 = x2 then (some (.inr v9)) else (qrd (M7 6) 10 x1 (fun v12 => qb1 (kX8_has v12 v10) (fun v13 => qb1 (α := Int32) (if v13 = 0 then (some v9) else (qrd (M7 11) 10 v10 (fun v15 => qrd (M7 11) 10 x1 (fun v16 => if (v15 + 1) = v16 then (some v10) else (some v9))))) (fun v14 => qvl (v10 + (-1)) (fun v17 => some (.inl (v14, v17))))))))
def kX8_way (M : qM) (x1 : Int32) (x2 : Int32) (x3 : Int32) : Option (Int32 × qM) :=
  qb1 (kX8_isGallery x1) (fun v1 => if v1 = 0 then (some ((-1), M)) else (qb1 (kX8_isGallery x2) (fun v2 => if v2 = 0 then (some ((-1), M)) else (qb1 (kX8_in x3 0 1) (fun v3 => if v3 = 0 then (some ((-2), M)) else (qb1 (kX8_asNow M) (fun M4 => qb1 (kX8_lamps M4) (fun v5 => qrd (M4 1) 36 34 (fun v6 => qb1 (kX8_layFar M4 x2 (v5 &&& (v6 ^^^ (-1)))) (fun M7 => qrd (M7 11) 10 x1 (fun v8 => if v8 < 1000000 then (if x3 = 0 then (qrd (M7 11) 10 x1 (fun v18 => some (v18, M7))) else (qb1 (qlp (S := Int32 × Int32) (E := (Int32)) (fun s => kX8_way_L84 x1 x2 M7 s.1 s.2) qFu ((-6), 9)) (fun v11 => some (v11, M7)))) else (some ((-6), M7)))))))))))))

def kX8_fewest_L45 (v4 : Int32) (M : qM) (v6 : Int32) (v7 : Int32) : Option ((Int32 × Int32) ⊕ (Int32)) :=
  if 10 ≤ v7 then (some (.inr v6)) else (qb1 (kX8_has v4 v7) (fun v9 => qb1 (α := Int32) (if v9 = 0 then (some 0) else (qrd (M 7) 10 v7 (fun v11 => some ((1 : Int32) <<< (v11 &&& 31))))) (fun v10 => qvl (v6 ||| v10) (fun v12 => qvl (v7 + 1) (fun v13 => some (.inl (v12, v13)))))))
def kX8_fewest_L30 (M : qM) (x1 : Int32) (v3 : Int32) (v4 : Int32) : Option ((Int32 × Int32) ⊕ (Int32)) :=
  if 1024 ≤ v4 then (some (.inr v3)) else (qb1 (qlp (S := Int32 × Int32) (E := (Int32)) (fun s => kX8_fewest_L45 v4 M s.1 s.2) qFu (v4, 0)) (fun v8 => qb1 (α := Int32) (if (x1 &&& (v8 ^^^ (-1))) = 0 then (qb1 (kX8_bits v4) (fun v15 => qb1 (kX8_bits v3) (fun v16 => if v16 ≤ v15 then (some v3) else (some v4)))) else (some v3)) (fun v14 => qvl (v4 + 1) (fun v17 => some (.inl (v14, v17))))))
def kX8_fewest (M : qM) (x1 : Int32) (x2 : Int32) : Option (Int32) :=
  qb1 (kX8_in x1 0 1023) (fun v1 => if v1 = 0 then (some (-2)) else (qb1 (kX8_in x2 0 1) (fun v2 => if v2 = 0 then (some (-2)) else (qb1 (qlp (S := Int32 × Int32) (E := (Int32)) (fun s => kX8_fewest_L30 M x1 s.1 s.2) qFu (1023, 0)) (fun v5 => qb1 (α := Int32) (if x2 = 1 then (some v5) else (qb1 (kX8_bits v5) (fun v19 => some v19))) (fun v18 => some v18))))))

def kX8_keep_L102 (v10 : Int32) (v4 : Int32) (M2 : qM) (v12 : Int32) (v16 : Int32) (v17 : Int32) : Option ((Int32 × Int32) ⊕ (Int32)) :=
  if v10 ≤ v17 then (some (.inr v16)) else (if v16 = 0 then (some (.inr v16)) else (qb1 (kX8_has v4 v10) (fun v19 => if v19 = 0 then (some (.inr v16)) else (qb1 (kX8_has v4 v17) (fun v20 => qb1 (α := Int32) (if v20 = 0 then (some 1) else (qb1 (kX8_has (M2 0 8) v12) (fun v22 => if v22 = 0 then (some 1) else (qb1 (kX8_sings M2 v17 v12) (fun v23 => if v23 = 0 then (some 1) else (qb1 (kX8_areHushed M2 v10 v17) (fun v24 => if v24 = 0 then (some 1) else (some 0)))))))) (fun v21 => qvl (v17 + 1) (fun v25 => some (.inl (v21, v25)))))))))
def kX8_keep_L48 (M2 : qM) (v4 : Int32) (v9 : Int32) (v10 : Int32) : Option ((Int32 × Int32) ⊕ (Int32)) :=
  if 8 ≤ v10 then (some (.inr v9)) else (if v9 = 0 then (some (.inr v9)) else (qrd (M2 2) 36 (16 + v10) (fun v12 => qb1 (kX8_has v4 v10) (fun v13 => qb1 (α := Int32) (if v13 = 0 then (some 1) else (qb1 (kX8_sings M2 v10 v12) (fun v15 => if v15 = 0 then (some 0) else (some 1)))) (fun v14 => qb1 (qlp (S := Int32 × Int32) (E := (Int32)) (fun s => kX8_keep_L102 v10 v4 M2 v12 s.1 s.2) qFu (v14, 0)) (fun v18 => qvl (v10 + 1) (fun v26 => some (.inl (v18, v26)))))))))
def kX8_keep_L20 (M2 : qM) (v3 : Int32) (v4 : Int32) : Option ((Int32 × Int32) ⊕ (Int32)) :=
  if 256 ≤ v4 then (some (.inr v3)) else (qb1 (kX8_bits v4) (fun v6 => qb1 (kX8_bits v3) (fun v7 => qb1 (α := Int32) (if v6 ≤ v7 then (some 0) else (some 1)) (fun v8 => qb1 (qlp (S := Int32 × Int32) (E := (Int32)) (fun s => kX8_keep_L48 M2 v4 s.1 s.2) qFu (v8, 0)) (fun v11 => qb1 (α := Int32) (if v11 = 0 then (some v3) else (some v4)) (fun v27 => qvl (v4 + 1) (fun v28 => some (.inl (v27, v28)))))))))
def kX8_keep (M : qM) (x1 : Int32) : Option (Int32 × qM) :=
  qb1 (kX8_in x1 0 1) (fun v1 => if v1 = 0 then (some ((-2), M)) else (qb1 (kX8_asNow M) (fun M2 => qb1 (qlp (S := Int32 × Int32) (E := (Int32)) (fun s => kX8_keep_L20 M2 s.1 s.2) qFu (0, 0)) (fun v5 => qb1 (α := Int32) (if x1 = 1 then (some v5) else (qb1 (kX8_bits v5) (fun v30 => some v30))) (fun v29 => some (v29, M2))))))

def kX8_cut_L22 (M2 : qM) (v3 : Int32) (v4 : Int32) : Option ((Int32 × Int32) ⊕ (Int32)) :=
  if 8 ≤ v4 then (some (.inr v3)) else (qb1 (kX8_has (M2 0 2) v4) (fun v6 => qb1 (α := Int32) (if v6 = 0 then (some 0) else (qrd (M2 1) 36 (16 + v4) (fun v8 => qrd (M2 11) 10 v8 (fun v9 => if v9 < 1000000 then (some 0) else (some ((1 : Int32) <<< (v4 &&& 31))))))) (fun v7 => qvl (v3 ||| v7) (fun v10 => qvl (v4 + 1) (fun v11 => some (.inl (v10, v11)))))))
def kX8_cut (M : qM) : Option (Int32 × qM) :=
  qrd (M 1) 36 34 (fun v1 => qb1 (kX8_layFar M 0 (1023 &&& (v1 ^^^ (-1)))) (fun M2 => qb1 (qlp (S := Int32 × Int32) (E := (Int32)) (fun s => kX8_cut_L22 M2 s.1 s.2) qFu (0, 0)) (fun v5 => some (v5, M2))))

def kX8_digit (x0 : Int32) (x1 : Int32) : Option (Int32) :=
  qb1 (α := Int32) (if x1 = 0 then (some (x0 / 100)) else (if x1 = 1 then (some ((x0 / 10) - (x0 / 10) / 10 * 10)) else (some (x0 - x0 / 10 * 10)))) (fun v1 => some v1)

def kX8_rested_L6 (x0 : Int32) (x2 : Int32) (x1 : Int32) (x3 : Int32) (v1 : Int32) (v2 : Int32) : Option ((Int32 × Int32) ⊕ (Int32)) :=
  if 3 ≤ v2 then (some (.inr v1)) else (qb1 (kX8_digit x0 v2) (fun v4 => qvl (v4 - x2) (fun v5 => qb1 (α := Int32) (if v2 = x1 then (some x3) else (if v5 ≤ 0 then (some 0) else (some v5))) (fun v6 => qvl ((10 * v1) + v6) (fun v7 => qvl (v2 + 1) (fun v8 => some (.inl (v7, v8))))))))
def kX8_rested (x0 : Int32) (x1 : Int32) (x2 : Int32) (x3 : Int32) : Option (Int32) :=
  qb1 (qlp (S := Int32 × Int32) (E := (Int32)) (fun s => kX8_rested_L6 x0 x2 x1 x3 s.1 s.2) qFu (0, 0)) (fun v3 => some v3)

def kX8_heldBy_L3  (v1 : Int32) (M2 : qM) : Option ((Int32 × qM) ⊕ (qM)) :=
  if 10000 ≤ v1 then (some (.inr M2)) else (qwr M2 12 10000 v1 (vp_nar .boolean 0) (fun M4 => qvl (v1 + 1) (fun v5 => some (.inl (v5, M4)))))
def kX8_heldBy_L81 (v11 : Int32) (v16 : Int32) (x2 : Int32) (x3 : Int32) (v20 : Int32) (v21 : Int32) (M22 : qM) : Option ((Int32 × Int32 × qM) ⊕ (Int32 × qM)) :=
  if 3 ≤ v21 then (some (.inr (v20, M22))) else (qrd (M22 12) 10000 ((1000 * (v11 - v11 / 10 * 10)) + v16) (fun v25 => if v25 = 0 then (some (.inr (v20, M22))) else (qb1 (kX8_digit v16 v21) (fun v26 => qb2 (α1 := Int32) (α2 := qM) (if v26 = 0 then (qb1 (kX8_digit x2 v21) (fun v29 => qb1 (α := Int32) (if (v11 + v29) ≤ 99 then (some (v11 + v29)) else (some 99)) (fun v30 => qb1 (kX8_digit x3 v21) (fun v31 => qb1 (kX8_rested v16 v21 v29 v31) (fun v32 => qwr M22 12 10000 ((1000 * ((v11 + v29) - (v11 + v29) / 10 * 10)) + v32) (vp_nar .boolean 1) (fun M33 => qb1 (α := Int32) (if v30 ≤ v20 then (some v20) else (some v30)) (fun v34 => some (v34, M33)))))))) else (some (v20, M22))) (fun v27 M28 => qvl (v21 + 1) (fun v35 => some (.inl (v27, v35, M28))))))))
def kX8_heldBy_L70 (v11 : Int32) (x2 : Int32) (x3 : Int32) (v15 : Int32) (v16 : Int32) (M17 : qM) : Option ((Int32 × Int32 × qM) ⊕ (Int32 × qM)) :=
  if 1000 ≤ v16 then (some (.inr (v15, M17))) else (qb2 (qlp (S := Int32 × Int32 × qM) (E := (Int32 × qM)) (fun s => kX8_heldBy_L81 v11 v16 x2 x3 s.1 s.2.1 s.2.2) qFu (v15, 0, M17)) (fun v23 M24 => qwr M24 12 10000 ((1000 * (v11 - v11 / 10 * 10)) + v16) (vp_nar .boolean 0) (fun M36 => qvl (v16 + 1) (fun v37 => some (.inl (v23, v37, M36))))))
def kX8_heldBy_L60 (x2 : Int32) (x3 : Int32) (v10 : Int32) (v11 : Int32) (M12 : qM) : Option ((Int32 × Int32 × qM) ⊕ (Int32 × qM)) :=
  if 99 ≤ v11 then (some (.inr (v10, M12))) else (qb2 (qlp (S := Int32 × Int32 × qM) (E := (Int32 × qM)) (fun s => kX8_heldBy_L70 v11 x2 x3 s.1 s.2.1 s.2.2) qFu (v10, 0, M12)) (fun v18 M19 => qvl (v11 + 1) (fun v38 => some (.inl (v18, v38, M19)))))
def kX8_heldBy (M : qM) (x1 : Int32) (x2 : Int32) (x3 : Int32) : Option (Int32 × qM) :=
  qb1 (qlp (S := Int32 × qM) (E := (qM)) (fun s => kX8_heldBy_L3 s.1 s.2) qFu (0, M)) (fun M3 => qb1 (kX8_digit x2 x1) (fun v6 => qb1 (kX8_digit x3 x1) (fun v7 => qb1 (kX8_rested 0 x1 v6 v7) (fun v8 => qwr M3 12 10000 ((1000 * v6) + v8) (vp_nar .boolean 1) (fun M9 => qb2 (qlp (S := Int32 × Int32 × qM) (E := (Int32 × qM)) (fun s => kX8_heldBy_L60 x2 x3 s.1 s.2.1 s.2.2) qFu (v6, 1, M9)) (fun v13 M14 => some (v13, M14)))))))

def kX8_hold_L61 (x1 : Int32) (x2 : Int32) (v4 : Int32) (v5 : Int32) (v6 : Int32) (M7 : qM) : Option ((Int32 × Int32 × Int32 × qM) ⊕ (Int32 × Int32 × qM)) :=
  if 3 ≤ v6 then (some (.inr (v4, v5, M7))) else (qb2 (kX8_heldBy M7 v6 x1 x2) (fun v12 M11 => qb1 (α := Int32) (if v12 ≤ v4 then (some v5) else (some v6)) (fun v13 => qb1 (α := Int32) (if v12 ≤ v4 then (some v4) else (some v12)) (fun v14 => qvl (v6 + 1) (fun v15 => some (.inl (v14, v13, v15, M11)))))))
def kX8_hold (M : qM) (x1 : Int32) (x2 : Int32) (x3 : Int32) : Option (Int32 × qM) :=
  qb1 (kX8_in x1 111 999) (fun v1 => if v1 = 0 then (some ((-2), M)) else (if (x1 - x1 / 10 * 10) = 0 then (some ((-2), M)) else (if ((x1 / 10) - (x1 / 10) / 10 * 10) = 0 then (some ((-2), M)) else (qb1 (kX8_in x2 0 999) (fun v2 => if v2 = 0 then (some ((-2), M)) else (qb1 (kX8_in x3 0 1) (fun v3 => if v3 = 0 then (some ((-2), M)) else (qb3 (qlp (S := Int32 × Int32 × Int32 × qM) (E := (Int32 × Int32 × qM)) (fun s => kX8_hold_L61 x1 x2 s.1 s.2.1 s.2.2.1 s.2.2.2) qFu (0, 0, 0, M)) (fun v8 v9 M10 => qb1 (α := Int32) (if x3 = 0 then (some v8) else (some v9)) (fun v16 => some (v16, M10)))))))))))

def kX8_round_L47 (x1 : Int32) (x3 : Int32) (x2 : Int32) (x4 : Int32) (v5 : Int32) : Option ((Int32) ⊕ ((Int32) ⊕ (Unit))) :=
  if (x1 * x3) ≤ v5 then (some (.inr (.inr ()))) else (qnz x1 (if ((v5 + x2) - (v5 + x2) / x1 * x1) = 0 then (qnz x3 (if ((v5 + x4) - (v5 + x4) / x3 * x3) = 0 then (some (.inr (.inl v5))) else (qvl (v5 + 1) (fun v7 => some (.inl v7))))) else (qvl (v5 + 1) (fun v6 => some (.inl v6)))))
def kX8_round (M : qM) (x1 : Int32) (x2 : Int32) (x3 : Int32) (x4 : Int32) : Option (Int32) :=
  qb1 (kX8_in x1 1 99) (fun v1 => if v1 = 0 then (some (-2)) else (qb1 (kX8_in x3 1 99) (fun v2 => if v2 = 0 then (some (-2)) else (qb1 (kX8_in x2 0 99) (fun v3 => if v3 = 0 then (some (-2)) else (qb1 (kX8_in x4 0 99) (fun v4 => if v4 = 0 then (some (-2)) else (qex0 (qlp (S := Int32) (E := ((Int32) ⊕ (Unit))) (fun s => kX8_round_L47 x1 x3 x2 x4 s) qFu 0) (fun rr => some rr) (some (-6))))))))))

def kX8_layApart_L28 (v1 : Int32) (v6 : Int32) (M7 : qM) : Option ((Int32 × qM) ⊕ (qM)) :=
  if 10 ≤ v6 then (some (.inr M7)) else (qrd (M7 11) 10 v6 (fun v9 => qwr M7 13 100 ((10 * v1) + v6) v9 (fun M10 => qvl (v6 + 1) (fun v11 => some (.inl (v11, M10))))))
def kX8_layApart_L2  (v1 : Int32) (M2 : qM) : Option ((Int32 × qM) ⊕ (qM)) :=
  if 10 ≤ v1 then (some (.inr M2)) else (qrd (M2 1) 36 34 (fun v4 => qb1 (kX8_layFar M2 v1 (1023 &&& (v4 ^^^ (-1)))) (fun M5 => qb1 (qlp (S := Int32 × qM) (E := (qM)) (fun s => kX8_layApart_L28 v1 s.1 s.2) qFu (0, M5)) (fun M8 => qvl (v1 + 1) (fun v12 => some (.inl (v12, M8)))))))
def kX8_layApart (M : qM) : Option (qM) :=
  qb1 (qlp (S := Int32 × qM) (E := (qM)) (fun s => kX8_layApart_L2 s.1 s.2) qFu (0, M)) (fun M3 => some M3)

def kX8_heard (M : qM) (x1 : Int32) (x2 : Int32) : Option (Int32 × qM) :=
  qb1 (kX8_isGallery x1) (fun v1 => if v1 = 0 then (some ((-1), M)) else (qb1 (kX8_in x2 (-1) 23) (fun v2 => if v2 = 0 then (some ((-2), M)) else (if (M 0 9) = 8 then (some ((-4), M)) else (qwr M 8 16 (2 * (M 0 9)) x1 (fun M3 => qwr M3 8 16 ((2 * (M3 0 9)) + 1) x2 (fun M4 => qvl (qst M4 0 9 ((M4 0 9) + 1)) (fun M5 => some ((M5 0 9), M5)))))))))

def kX8_forget (M : qM) : Option (Int32 × qM) :=
  qvl (M 0 9) (fun v1 => qvl (qst M 0 9 0) (fun M2 => some (v1, M2)))

def kX8_noteIn (M : qM) (x1 : Int32) (x2 : Int32) : Option (Int32) :=
  qrd (M 13) 100 (((x1 / 100) * 10) + x2) (fun v1 => qvl ((x1 - x1 / 100 * 100) - v1) (fun v2 => qb1 (α := Int32) (if 0 ≤ v2 then (some v2) else (some (-1))) (fun v3 => some v3)))

def kX8_isLost_L17 (M : qM) (x1 : Int32) (v2 : Int32) (v3 : Int32) : Option ((Int32 × Int32) ⊕ (Int32)) :=
  if (M 0 9) ≤ v3 then (some (.inr v2)) else (if v2 = 0 then (some (.inr v2)) else (qrd (M 8) 16 (2 * v3) (fun v5 => qb1 (kX8_noteIn M x1 v5) (fun v6 => qrd (M 8) 16 ((2 * v3) + 1) (fun v7 => qb1 (α := Int32) (if v6 = v7 then (some 1) else (some 0)) (fun v8 => qvl (v3 + 1) (fun v9 => some (.inl (v8, v9)))))))))
def kX8_isLost (M : qM) (x1 : Int32) : Option (Int32) :=
  qb1 (α := Int32) (if 24 ≤ (x1 - x1 / 100 * 100) then (some 0) else (some 1)) (fun v1 => qb1 (qlp (S := Int32 × Int32) (E := (Int32)) (fun s => kX8_isLost_L17 M x1 s.1 s.2) qFu (v1, 0)) (fun v4 => qbl v4 (some v4)))

def kX8_losts_L8 (M1 : qM) (x1 : Int32) (v2 : Int32) (v3 : Int32) : Option ((Int32 × Int32) ⊕ ((Int32 × qM) ⊕ (Int32))) :=
  if 1000 ≤ v3 then (some (.inr (.inr v2))) else (qb1 (kX8_isLost M1 v3) (fun v5 => if v5 = 0 then (qvl (v3 + 1) (fun v6 => some (.inl (v2, v6)))) else (if v2 = x1 then (some (.inr (.inl (v3, M1)))) else (qvl (v2 + 1) (fun v7 => qvl (v3 + 1) (fun v8 => some (.inl (v7, v8))))))))
def kX8_losts (M : qM) (x1 : Int32) : Option (Int32 × qM) :=
  qb1 (kX8_layApart M) (fun M1 => qex1 (qlp (S := Int32 × Int32) (E := ((Int32 × qM) ⊕ (Int32))) (fun s => kX8_losts_L8 M1 x1 s.1 s.2) qFu (0, 0)) (fun rr => some rr) (fun v4 => qb1 (α := Int32) (if x1 = (-1) then (some v4) else (some (-6))) (fun v9 => some (v9, M1))))

def kX8_listen_L38  (v10 : Int32) (M11 : qM) : Option ((Int32 × qM) ⊕ (qM)) :=
  if 25 ≤ v10 then (some (.inr M11)) else (qwr M11 14 25 v10 0 (fun M13 => qvl (v10 + 1) (fun v14 => some (.inl (v14, M13)))))
def kX8_listen_L62 (v5 : Int32) (v15 : Int32) (v16 : Int32) (M17 : qM) : Option ((Int32 × Int32 × qM) ⊕ (Int32 × qM)) :=
  if 1000 ≤ v16 then (some (.inr (v15, M17))) else (qb1 (kX8_isLost M17 v16) (fun v20 => qb2 (α1 := Int32) (α2 := qM) (if v20 = 0 then (some (v15, M17)) else (qb1 (kX8_noteIn M17 v16 v5) (fun v23 => qvl (v23 + 1) (fun v24 => qrd (M17 14) 25 v24 (fun v25 => qwr M17 14 25 v24 (v25 + 1) (fun M26 => qrd (M26 14) 25 v24 (fun v27 => qb1 (α := Int32) (if v27 ≤ v15 then (some v15) else (qrd (M26 14) 25 v24 (fun v29 => some v29))) (fun v28 => some (v28, M26))))))))) (fun v21 M22 => qvl (v16 + 1) (fun v30 => some (.inl (v21, v30, M22))))))
def kX8_listen_L25  (v3 : Int32) (v4 : Int32) (v5 : Int32) (M6 : qM) : Option ((Int32 × Int32 × Int32 × qM) ⊕ (Int32 × Int32 × qM)) :=
  if 10 ≤ v5 then (some (.inr (v3, v4, M6))) else (qb1 (qlp (S := Int32 × qM) (E := (qM)) (fun s => kX8_listen_L38 s.1 s.2) qFu (0, M6)) (fun M12 => qb2 (qlp (S := Int32 × Int32 × qM) (E := (Int32 × qM)) (fun s => kX8_listen_L62 v5 s.1 s.2.1 s.2.2) qFu (0, 0, M12)) (fun v18 M19 => qb1 (α := Int32) (if v18 ≤ 0 then (some 0) else (if v4 ≤ v18 then (some 0) else (some 1))) (fun v31 => qb1 (α := Int32) (if v31 = 0 then (some v3) else (some v5)) (fun v32 => qb1 (α := Int32) (if v31 = 0 then (some v4) else (some v18)) (fun v33 => qvl (v5 + 1) (fun v34 => some (.inl (v32, v33, v34, M19)))))))))
def kX8_listen (M : qM) (x1 : Int32) : Option (Int32 × qM) :=
  qb1 (kX8_in x1 0 1) (fun v1 => if v1 = 0 then (some ((-2), M)) else (qb1 (kX8_layApart M) (fun M2 => qb3 (qlp (S := Int32 × Int32 × Int32 × qM) (E := (Int32 × Int32 × qM)) (fun s => kX8_listen_L25 s.1 s.2.1 s.2.2.1 s.2.2.2) qFu ((-6), 1000000, 0, M2)) (fun v7 v8 M9 => qb1 (α := Int32) (if v7 < 0 then (some v7) else (if x1 = 0 then (some v7) else (some v8))) (fun v35 => some (v35, M9))))))

def kX8_power_L5 (x2 : Int32) (x0 : Int64) (v1 : Int64) (v2 : Int32) : Option ((Int64 × Int32) ⊕ (Int64)) :=
  if x2 ≤ v2 then (some (.inr v1)) else (qvl (v1 * x0) (fun v4 => qvl (v2 + 1) (fun v5 => some (.inl (v4, v5)))))
def kX8_power (x0 : Int64) (x2 : Int32) : Option (Int64) :=
  qb1 (qlp (S := Int64 × Int32) (E := (Int64)) (fun s => kX8_power_L5 x2 x0 s.1 s.2) qFu (1, 0)) (fun v3 => some v3)

def kX8_cold_L65 (M6 : qM) (x1 : Int32) (v7 : Int32) (v8 : Int32) : Option ((Int32 × Int32) ⊕ (Int32)) :=
  if 8 ≤ v8 then (some (.inr v7)) else (qb1 (kX8_sings M6 v8 x1) (fun v10 => qb1 (α := Int32) (if v10 = 0 then (some 0) else (some 1)) (fun v11 => qvl (v7 + v11) (fun v12 => qvl (v8 + 1) (fun v13 => some (.inl (v12, v13)))))))
def kX8_cold_L187  (v23 : Int64) (v24 : Int64) : Option ((Int64 × Int64) ⊕ (Int64)) :=
  if (lg_cmp v24 0) = 0 then (some (.inr v23)) else (qnl v24 (qvl (v23 - v23 / v24 * v24) (fun v26 => some (.inl (v24, v26)))))
def kX8_cold (M : qM) (x1 : Int32) (x2 : Int32) (x3 : Int32) (x4 : Int32) (x5 : Int32) : Option (Int64 × qM) :=
  qb1 (kX8_isGallery x1) (fun v1 => if v1 = 0 then (some ((-1000000000000000001), M)) else (qb1 (kX8_in x2 0 10) (fun v2 => if v2 = 0 then (some ((-1000000000000000002), M)) else (qb1 (kX8_in x3 0 9) (fun v3 => if v3 = 0 then (some ((-1000000000000000002), M)) else (qb1 (kX8_in x4 0 1) (fun v4 => if v4 = 0 then (some ((-1000000000000000002), M)) else (qb1 (kX8_in x5 0 1) (fun v5 => if v5 = 0 then (some ((-1000000000000000002), M)) else (qb1 (kX8_asNow M) (fun M6 => qb1 (qlp (S := Int32 × Int32) (E := (Int32)) (fun s => kX8_cold_L65 M6 x1 s.1 s.2) qFu (0, 0)) (fun v9 => if x4 = 0 then (if (x3 * v9) ≤ 18 then (qb1 (kX8_power 10 x3) (fun v28 => qb1 (kX8_power (10 - ((x2 : Int32).toInt64)) x3) (fun v29 => qvl (((v9 : Int32).toInt64) * v29) (fun v30 => qb2 (α1 := Int64) (α2 := Int64) (if x4 = 0 then (qb1 (kX8_power v28 v9) (fun v33 => qb1 (kX8_power (v28 - v29) v9) (fun v34 => qvl (v33 - v34) (fun v35 => qb1 (kX8_power v28 v9) (fun v36 => some (v36, v35)))))) else (some (v28, v30))) (fun v31 v32 => qb1 (qlp (S := Int64 × Int64) (E := (Int64)) (fun s => kX8_cold_L187 s.1 s.2) qFu (v32, v31)) (fun v39 => qb1 (α := Int64) (if x5 = 0 then (qnl v39 (some (v32 / v39))) else (qnl v39 (some (v31 / v39)))) (fun v41 => some (v41, M6)))))))) else (some ((-1000000000000000003), M6))) else (qb1 (kX8_power 10 x3) (fun v14 => qb1 (kX8_power (10 - ((x2 : Int32).toInt64)) x3) (fun v15 => qvl (((v9 : Int32).toInt64) * v15) (fun v16 => qb2 (α1 := Int64) (α2 := Int64) (if x4 = 0 then (qb1 (kX8_power v14 v9) (fun v19 => qb1 (kX8_power (v14 - v15) v9) (fun v20 => qvl (v19 - v20) (fun v21 => qb1 (kX8_power v14 v9) (fun v22 => some (v22, v21)))))) else (some (v14, v16))) (fun v17 v18 => qb1 (qlp (S := Int64 × Int64) (E := (Int64)) (fun s => kX8_cold_L187 s.1 s.2) qFu (v18, v17)) (fun v25 => qb1 (α := Int64) (if x5 = 0 then (qnl v25 (some (v18 / v25))) else (qnl v25 (some (v17 / v25)))) (fun v27 => some (v27, M6))))))))))))))))))))

def kX8_year_L43 (x2 : Int32) (v5 : Int32) (v6 : Int32) (M7 : qM) : Option ((Int32 × Int32 × qM) ⊕ (qM)) :=
  if x2 ≤ v6 then (some (.inr M7)) else (qvl (((75 * v5) + 74) - ((75 * v5) + 74) / 65537 * 65537) (fun v9 => qvl (v9 - v9 / 8 * 8) (fun v10 => qvl ((v9 / 8) - (v9 / 8) / 8 * 8) (fun v11 => qvl (v9 / 64) (fun v12 => qb1 (α := qM) (if 3 ≤ v11 then (if v11 = 3 then (qb2 (kX8_hush M7 v10) (fun v21 M20 => some M20)) else (if 6 ≤ v11 then (if v11 = 6 then (qrd (M7 2) 36 34 (fun v16 => qwr M7 2 36 34 (v16 ^^^ ((1 : Int32) <<< ((v12 - v12 / 10 * 10) &&& 31))) (fun M17 => some M17))) else (qb2 (kX8_beat M7) (fun v15 M14 => some M14))) else (qb2 (kX8_go M7 v10 (v12 - v12 / 10 * 10)) (fun v19 M18 => some M18)))) else (qb2 (kX8_sing M7 v10 (v12 - v12 / 24 * 24)) (fun v23 M22 => some M22))) (fun M13 => qvl (v6 + 1) (fun v24 => some (.inl (v9, v24, M13)))))))))
def kX8_year_L189 (M8 : qM) (v25 : Int32) (v26 : Int32) : Option ((Int32 × Int32) ⊕ (Int32)) :=
  if 8 ≤ v26 then (some (.inr v25)) else (qb1 (kX8_has (M8 0 2) v26) (fun v28 => qb1 (α := Int32) (if v28 = 0 then (some 0) else (qrd (M8 2) 36 v26 (fun v30 => if v30 < 0 then (some 0) else (some 1)))) (fun v29 => qvl (v25 + v29) (fun v31 => qvl (v26 + 1) (fun v32 => some (.inl (v31, v32)))))))
def kX8_year (M : qM) (x1 : Int32) (x2 : Int32) (x3 : Int32) : Option (Int32 × qM) :=
  qb1 (kX8_in x1 0 9999) (fun v1 => if v1 = 0 then (some ((-2), M)) else (qb1 (kX8_in x2 1 99) (fun v2 => if v2 = 0 then (some ((-2), M)) else (qb1 (kX8_in x3 0 2) (fun v3 => if v3 = 0 then (some ((-2), M)) else (qb1 (kX8_asNow M) (fun M4 => qb1 (qlp (S := Int32 × Int32 × qM) (E := (qM)) (fun s => kX8_year_L43 x2 s.1 s.2.1 s.2.2) qFu (x1, 0, M4)) (fun M8 => qb1 (qlp (S := Int32 × Int32) (E := (Int32)) (fun s => kX8_year_L189 M8 s.1 s.2) qFu (0, 0)) (fun v27 => qb1 (α := Int32) (if x3 = 0 then (qb1 (kX8_coal M8) (fun v36 => some v36)) else (if x3 = 1 then (qb1 (kX8_lamps M8) (fun v34 => qb1 (kX8_bits v34) (fun v35 => some v35))) else (some v27))) (fun v33 => some (v33, M8)))))))))))

def kX8_image_L19 (v2 : Int32) (v3 : Int32) (M4 : qM) : Option ((Int32 × qM) ⊕ (qM)) :=
  if 36 ≤ v3 then (some (.inr M4)) else (qrd (M4 1) 36 v3 (fun v6 => qwr M4 15 220 (v2 + v3) v6 (fun M7 => qvl (v3 + 1) (fun v8 => some (.inl (v8, M7))))))
def kX8_image_L47 (v2 : Int32) (v9 : Int32) (M10 : qM) : Option ((Int32 × qM) ⊕ (qM)) :=
  if 8 ≤ v9 then (some (.inr M10)) else (qrd (M10 3) 8 v9 (fun v12 => qwr M10 15 220 ((v2 + 36) + v9) v12 (fun M13 => qrd (M13 4) 8 v9 (fun v14 => qwr M13 15 220 ((v2 + 44) + v9) v14 (fun M15 => qrd (M15 5) 8 v9 (fun v16 => qwr M15 15 220 ((v2 + 52) + v9) v16 (fun M17 => qvl (v9 + 1) (fun v18 => some (.inl (v18, M17))))))))))
def kX8_image_L112 (v2 : Int32) (v19 : Int32) (M20 : qM) : Option ((Int32 × qM) ⊕ (qM)) :=
  if 10 ≤ v19 then (some (.inr M20)) else (qrd (M20 6) 10 v19 (fun v22 => qwr M20 15 220 ((v2 + 60) + v19) v22 (fun M23 => qrd (M23 7) 10 v19 (fun v24 => qwr M23 15 220 ((v2 + 70) + v19) v24 (fun M25 => qvl (v19 + 1) (fun v26 => some (.inl (v26, M25))))))))
def kX8_image_L160 (v2 : Int32) (v27 : Int32) (M28 : qM) : Option ((Int32 × qM) ⊕ (qM)) :=
  if 16 ≤ v27 then (some (.inr M28)) else (qrd (M28 8) 16 v27 (fun v30 => qwr M28 15 220 ((v2 + 80) + v27) v30 (fun M31 => qvl (v27 + 1) (fun v32 => some (.inl (v32, M31))))))
def kX8_image (M : qM) (x1 : Int32) : Option (Int32 × qM) :=
  qb1 (kX8_in x1 0 1) (fun v1 => if v1 = 0 then (some ((-2), M)) else (qvl (110 * x1) (fun v2 => qb1 (qlp (S := Int32 × qM) (E := (qM)) (fun s => kX8_image_L19 v2 s.1 s.2) qFu (0, M)) (fun M5 => qb1 (qlp (S := Int32 × qM) (E := (qM)) (fun s => kX8_image_L47 v2 s.1 s.2) qFu (0, M5)) (fun M11 => qb1 (qlp (S := Int32 × qM) (E := (qM)) (fun s => kX8_image_L112 v2 s.1 s.2) qFu (0, M11)) (fun M21 => qb1 (qlp (S := Int32 × qM) (E := (qM)) (fun s => kX8_image_L160 v2 s.1 s.2) qFu (0, M21)) (fun M29 => qwr M29 15 220 (v2 + 100) (M29 0 2) (fun M33 => qwr M33 15 220 (v2 + 101) (M33 0 8) (fun M34 => qwr M34 15 220 (v2 + 102) (M34 0 9) (fun M35 => qwr M35 16 2 x1 (vp_nar .boolean 1) (fun M36 => some (1, M36))))))))))))

def kX8_restore_L31 (v3 : Int32) (v4 : Int32) (M5 : qM) : Option ((Int32 × qM) ⊕ (qM)) :=
  if 36 ≤ v4 then (some (.inr M5)) else (qrd (M5 15) 220 (v3 + v4) (fun v7 => qwr M5 1 36 v4 v7 (fun M8 => qvl (v4 + 1) (fun v9 => some (.inl (v9, M8))))))
def kX8_restore_L59 (v3 : Int32) (v10 : Int32) (M11 : qM) : Option ((Int32 × qM) ⊕ (qM)) :=
  if 8 ≤ v10 then (some (.inr M11)) else (qrd (M11 15) 220 ((v3 + 36) + v10) (fun v13 => qwr M11 3 8 v10 v13 (fun M14 => qrd (M14 15) 220 ((v3 + 44) + v10) (fun v15 => qwr M14 4 8 v10 v15 (fun M16 => qrd (M16 15) 220 ((v3 + 52) + v10) (fun v17 => qwr M16 5 8 v10 v17 (fun M18 => qvl (v10 + 1) (fun v19 => some (.inl (v19, M18))))))))))
def kX8_restore_L124 (v3 : Int32) (v20 : Int32) (M21 : qM) : Option ((Int32 × qM) ⊕ (qM)) :=
  if 10 ≤ v20 then (some (.inr M21)) else (qrd (M21 15) 220 ((v3 + 60) + v20) (fun v23 => qwr M21 6 10 v20 v23 (fun M24 => qrd (M24 15) 220 ((v3 + 70) + v20) (fun v25 => qwr M24 7 10 v20 v25 (fun M26 => qvl (v20 + 1) (fun v27 => some (.inl (v27, M26))))))))
def kX8_restore_L172 (v3 : Int32) (v28 : Int32) (M29 : qM) : Option ((Int32 × qM) ⊕ (qM)) :=
  if 16 ≤ v28 then (some (.inr M29)) else (qrd (M29 15) 220 ((v3 + 80) + v28) (fun v31 => qwr M29 8 16 v28 v31 (fun M32 => qvl (v28 + 1) (fun v33 => some (.inl (v33, M32))))))
def kX8_restore (M : qM) (x1 : Int32) : Option (Int32 × qM) :=
  qb1 (kX8_in x1 0 1) (fun v1 => if v1 = 0 then (some ((-2), M)) else (qrd (M 16) 2 x1 (fun v2 => if v2 = 0 then (some ((-3), M)) else (qvl (110 * x1) (fun v3 => qb1 (qlp (S := Int32 × qM) (E := (qM)) (fun s => kX8_restore_L31 v3 s.1 s.2) qFu (0, M)) (fun M6 => qb1 (qlp (S := Int32 × qM) (E := (qM)) (fun s => kX8_restore_L59 v3 s.1 s.2) qFu (0, M6)) (fun M12 => qb1 (qlp (S := Int32 × qM) (E := (qM)) (fun s => kX8_restore_L124 v3 s.1 s.2) qFu (0, M12)) (fun M22 => qb1 (qlp (S := Int32 × qM) (E := (qM)) (fun s => kX8_restore_L172 v3 s.1 s.2) qFu (0, M22)) (fun M30 => qrd (M30 15) 220 (v3 + 100) (fun v34 => qvl (qst M30 0 2 v34) (fun M35 => qrd (M35 15) 220 (v3 + 101) (fun v36 => qvl (qst M35 0 8 v36) (fun M37 => qrd (M37 15) 220 (v3 + 102) (fun v38 => qvl (qst M37 0 9 v38) (fun M39 => some (1, M39))))))))))))))))

def kX8_toldVoice (M : qM) (x1 : Int32) (x2 : Int32) : Option (Int32) :=
  qb1 (kX8_isThere M x1) (fun v1 => if v1 = 0 then (some (-2)) else (if x2 = 0 then (qrd (M 3) 8 x1 (fun v2 => some v2)) else (if x2 = 1 then (qrd (M 4) 8 x1 (fun v3 => some v3)) else (if x2 = 2 then (qrd (M 1) 36 (8 + x1) (fun v4 => some v4)) else (if x2 = 3 then (qrd (M 5) 8 x1 (fun v5 => some v5)) else (if x2 = 4 then (qrd (M 1) 36 (16 + x1) (fun v6 => some v6)) else (qb1 (α := Int32) (if x2 = 5 then (qrd (M 1) 36 x1 (fun v8 => some v8)) else (some (-2))) (fun v7 => some v7))))))))

def kX8_told (M : qM) (x1 : Int32) : Option (Int32 × qM) :=
  if x1 < 100 then (if x1 < 10 then (if x1 = 0 then (some ((M 0 11), M)) else (if x1 = 1 then (some ((M 0 2), M)) else (if x1 = 2 then (qb1 (kX8_asNow M) (fun M1 => qb1 (kX8_lamps M1) (fun v2 => some (v2, M1)))) else (if x1 = 3 then (qrd (M 1) 36 35 (fun v3 => some (v3, M))) else (if x1 = 4 then (qrd (M 1) 36 34 (fun v4 => some (v4, M))) else (if x1 = 5 then (some ((M 0 8), M)) else (qb1 (α := Int32) (if x1 = 6 then (some (M 0 9)) else (some (-2))) (fun v5 => some (v5, M))))))))) else (qb1 (kX8_toldVoice M ((x1 / 10) - 1) (x1 - x1 / 10 * 10)) (fun v6 => some (v6, M)))) else (qvl ((x1 / 10) - 10) (fun v7 => qb1 (kX8_isGallery v7) (fun v8 => if v8 = 0 then (some ((-2), M)) else (if (x1 - x1 / 10 * 10) ≤ 2 then (qb1 (α := Int32) (if (x1 - x1 / 10 * 10) = 0 then (qrd (M 7) 10 v7 (fun v12 => some v12)) else (if (x1 - x1 / 10 * 10) = 1 then (qrd (M 1) 36 (24 + v7) (fun v11 => some v11)) else (qrd (M 6) 10 v7 (fun v10 => some v10)))) (fun v9 => some (v9, M))) else (some ((-2), M))))))
