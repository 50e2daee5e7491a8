noncomputable section
/-! ===== lists out of the tables: constant texts, nest links, casts; the classes of the world ===== -/
def sStr : List (String × Nat × String) := [("WavingDesks", 78, "the tape has not so many bytes"), ("WavingDesks$Reader", 259, ";()+-*/<="), ("WavingDesks$Reader", 217, "clerk"), ("WavingDesks$Reader", 219, "chief"), ("WavingDesks$Reader", 221, "codist"), ("WavingDesks$Reader", 223, "double"), ("WavingDesks$Reader", 225, "unmoved"), ("WavingDesks$Reader", 79, "line"), ("WavingDesks$Reader", 84, "secret"), ("WavingDesks$Reader", 89, "grudge"), ("WavingDesks$Reader", 94, "tells"), ("WavingDesks$Reader", 194, "not"), ("WavingDesks$Reader", 227, "worth"), ("WavingDesks$Reader", 228, "from"), ("WavingDesks$Reader", 230, "to"), ("WavingDesks$Reader", 232, "same"), ("WavingDesks$Reader", 234, "loyal"), ("WavingDesks$Reader", 236, "kin"), ("WavingDesks$Reader", 238, "day"), ("WavingDesks$Reader", 240, "own"), ("WavingDesks$Reader", 192, "and"), ("WavingDesks$Reader", 183, "or"), ("WavingDesks", 161, "no such what"), ("WavingDesks", 322, "no such agent"), ("WavingDesks", 324, "no such line"), ("WavingDesks", 326, "no such secret"), ("WavingDesks", 236, "no such one in the chain"), ("WavingDesks", 242, "no such side"), ("WavingDesks", 268, "no line goes from one to himself"), ("WavingDesks", 314, "not so many years"), ("WavingDesksModel", 11, "clerk"), ("WavingDesksModel", 13, "chief"), ("WavingDesksModel", 15, "codist"), ("WavingDesksModel", 17, "double"), ("WavingDesksModel", 19, "unmoved"), ("WavingDesksModel", 25, "worth"), ("WavingDesksModel", 27, "from"), ("WavingDesksModel", 29, "to"), ("WavingDesksModel", 31, "same"), ("WavingDesksModel", 33, "loyal"), ("WavingDesksModel", 35, "kin"), ("WavingDesksModel", 37, "day"), ("WavingDesksModel", 39, "own"), ("WavingDesksModel", 287, "tells"), ("WavingDesksModel", 265, "not"), ("WavingDesksModel", 273, "and"), ("WavingDesksModel", 278, "or"), ("WavingDesksModel", 292, "line"), ("WavingDesksModel", 297, "secret"), ("WavingDesksModel", 302, "grudge")]
def sNest : List (String × Nat × MethodName × String) := [("WavingDesks", 22, ⟨"WavingDesks$Offices", "<init>", "()V"⟩, "WavingDesks"), ("WavingDesks$Offices", 63, ⟨"WavingDesks$Rule", "<init>", "()V"⟩, "WavingDesks"), ("WavingDesks$Reader", 11, ⟨"WavingDesks$Offices", "<init>", "()V"⟩, "WavingDesks"), ("WavingDesks", 38, ⟨"WavingDesks$State", "<init>", "()V"⟩, "WavingDesks"), ("WavingDesks$State", 11, ⟨"WavingDesks$Setting", "<init>", "()V"⟩, "WavingDesks"), ("WavingDesks$State", 20, ⟨"WavingDesks$Acts", "<init>", "()V"⟩, "WavingDesks"), ("WavingDesks$State", 27, ⟨"WavingDesks$Seen", "<init>", "()V"⟩, "WavingDesks"), ("WavingDesks$WhatIf", 11, ⟨"WavingDesks$Setting", "<init>", "()V"⟩, "WavingDesks"), ("WavingDesks$Setting", 46, ⟨"WavingDesks", "copyRow", "([I[I)V"⟩, "WavingDesks"), ("WavingDesks$Acts", 28, ⟨"WavingDesks", "copyRow", "([I[I)V"⟩, "WavingDesks"), ("WavingDesks$Seen", 28, ⟨"WavingDesks", "copyRow", "([I[I)V"⟩, "WavingDesks"), ("WavingDesks$State", 55, ⟨"WavingDesks", "copyRow", "([I[I)V"⟩, "WavingDesks"), ("WavingDesks$Offices", 71, ⟨"WavingDesks", "copyRow", "([I[I)V"⟩, "WavingDesks")]
def sExN : List String := ["java/lang/IllegalArgumentException", "java/util/NoSuchElementException"]
theorem sAllAt {ws : List Cond} : ∀ {ps : List Nat}, ws.length ≤ ps.length → (ws.zip ps).all (fun q => sAt q.2 q.1) = true → ∀ w ∈ ws, w ∈ sB := by
  induction ws with
  | nil => intro ps _ _ w h; cases h
  | cons a t ih =>
    intro ps hl h w hw
    cases ps with
    | nil => simp at hl
    | cons p q =>
      simp only [List.zip_cons_cons, List.all_cons, Bool.and_eq_true] at h
      rcases List.mem_cons.mp hw with rfl | hw
      · exact sAt_ok h.1
      · exact ih (by simpa using hl) h.2 w hw
set_option maxRecDepth 100000 in
theorem sCls_0 : sOkC (RX0, TX0, 3) := ⟨tyX0, tyX0_ok, nmX0, sAllAt (ps := [368, 370, 372]) (by decide +kernel) (by decide +kernel), by decide +kernel, sAt_ok (pos := 356) (by decide +kernel), sAt_ok (pos := 108) (by decide +kernel)⟩
set_option maxRecDepth 100000 in
theorem sCls_1 : sOkC (RX1, TX1, 5) := ⟨tyX1, tyX1_ok, nmX1, sAllAt (ps := [427, 429, 431, 433, 435]) (by decide +kernel) (by decide +kernel), by decide +kernel, sAt_ok (pos := 417) (by decide +kernel), sAt_ok (pos := 110) (by decide +kernel)⟩
set_option maxRecDepth 100000 in
theorem sCls_2 : sOkC (RX2, TX2, 17) := ⟨tyX2, tyX2_ok, nmX2, sAllAt (ps := [222, 224, 226, 228, 230, 232, 234, 236, 238, 240, 242, 244, 246, 248, 250, 252, 254]) (by decide +kernel) (by decide +kernel), by decide +kernel, sAt_ok (pos := 135) (by decide +kernel), sAt_ok (pos := 103) (by decide +kernel)⟩
set_option maxRecDepth 100000 in
theorem sCls_3 : sOkC (RX3, TX3, 9) := ⟨tyX3, tyX3_ok, nmX3, sAllAt (ps := [276, 278, 280, 282, 284, 286, 288, 290, 292]) (by decide +kernel) (by decide +kernel), by decide +kernel, sAt_ok (pos := 258) (by decide +kernel), sAt_ok (pos := 105) (by decide +kernel)⟩
set_option maxRecDepth 100000 in
theorem sCls_4 : sOkC (RX4, TX4, 3) := ⟨tyX4, tyX4_ok, nmX4, sAllAt (ps := [149, 151, 153]) (by decide +kernel) (by decide +kernel), by decide +kernel, sAt_ok (pos := 141) (by decide +kernel), sAt_ok (pos := 104) (by decide +kernel)⟩
set_option maxRecDepth 100000 in
theorem sCls_5 : sOkC (RX5, TX5, 5) := ⟨tyX5, tyX5_ok, nmX5, sAllAt (ps := [388, 390, 392, 394, 396]) (by decide +kernel) (by decide +kernel), by decide +kernel, sAt_ok (pos := 376) (by decide +kernel), sAt_ok (pos := 109) (by decide +kernel)⟩
set_option maxRecDepth 100000 in
theorem sCls_6 : sOkC (RX6, TX6, 10) := ⟨tyX6, tyX6_ok, nmX6, sAllAt (ps := [334, 336, 338, 340, 342, 344, 346, 348, 350, 352]) (by decide +kernel) (by decide +kernel), by decide +kernel, sAt_ok (pos := 302) (by decide +kernel), sAt_ok (pos := 107) (by decide +kernel)⟩
set_option maxRecDepth 100000 in
theorem sCls_7 : sOkC (RX7, TX7, 4) := ⟨tyX7, tyX7_ok, nmX7, sAllAt (ps := [407, 409, 411, 413]) (by decide +kernel) (by decide +kernel), by decide +kernel, sAt_ok (pos := 296) (by decide +kernel), sAt_ok (pos := 106) (by decide +kernel)⟩
set_option maxRecDepth 100000 in
theorem sCls_8 : sOkC (RX8, TX8, 6) := ⟨tyX8, tyX8_ok, nmX8, sAllAt (ps := [454, 456, 458, 460, 462, 464]) (by decide +kernel) (by decide +kernel), by decide +kernel, sAt_ok (pos := 439) (by decide +kernel), sAt_ok (pos := 111) (by decide +kernel)⟩
set_option maxRecDepth 100000 in
theorem sCls_9 : sOkC (RX9, TX9, 10) := ⟨tyX9, tyX9_ok, nmX9, sAllAt (ps := [477, 479, 481, 483, 485, 487, 489, 491, 493, 495]) (by decide +kernel) (by decide +kernel), by decide +kernel, sAt_ok (pos := 127) (by decide +kernel), sAt_ok (pos := 102) (by decide +kernel)⟩
set_option maxRecDepth 100000 in
theorem sCls_10 : sOkC (RX10, TX10, 62) := ⟨tyX10, tyX10_ok, nmX10, sAllAt (ps := [1459, 1461, 1463, 1465, 1467, 1469, 1471, 1473, 1475, 1477, 1479, 1481, 1483, 1485, 1487, 1489, 1491, 1493, 1495, 1497, 1499, 1501, 1503, 1505, 1507, 1509, 1511, 1513, 1515, 1517, 1519, 1521, 1523, 1525, 1527, 1529, 1531, 1533, 1535, 1537, 1539, 1541, 1543, 1545, 1547, 1549, 1551, 1553, 1555, 1557, 1559, 1561, 1563, 1565, 1567, 1569, 1571, 1573, 1575, 1577, 1579, 1581]) (by decide +kernel) (by decide +kernel), by decide +kernel, sAt_ok (pos := 1377) (by decide +kernel), sAt_ok (pos := 112) (by decide +kernel)⟩
theorem sCls : ∀ (ci : Nat) (q : vw_C), vwCl[ci]? = some q → sOkC q := by
  intro ci q h
  match ci, h with
  | 0, h => cases h; exact sCls_0
  | 1, h => cases h; exact sCls_1
  | 2, h => cases h; exact sCls_2
  | 3, h => cases h; exact sCls_3
  | 4, h => cases h; exact sCls_4
  | 5, h => cases h; exact sCls_5
  | 6, h => cases h; exact sCls_6
  | 7, h => cases h; exact sCls_7
  | 8, h => cases h; exact sCls_8
  | 9, h => cases h; exact sCls_9
  | 10, h => cases h; exact sCls_10
  | k + 11, h => simp [vwCl] at h
theorem sArr_int : Cond.arrayClass .int ∈ sB := sAt_ok (pos := 157) (by decide +kernel)
theorem sArr_byte : Cond.arrayClass .byte ∈ sB := sAt_ok (pos := 156) (by decide +kernel)
theorem sArr_long : Cond.arrayClass .long ∈ sB := sAt_ok (pos := 2001) (by decide +kernel)
end
