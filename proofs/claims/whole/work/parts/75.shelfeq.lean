/-! ===== shelves by number ===== -/
theorem hd6 {d : Nat} (h : d < 6) : d = 0 ∨ d = 1 ∨ d = 2 ∨ d = 3 ∨ d = 4 ∨ d = 5 := by omega
theorem g_isEmpty (sc : zSc) (S : zS)  {d : Nat} (hd : d < 6) : zcI sc zm_X6_isEmpty [.ref (39 + 2 * d)] S = (if S.1 (39 + 2 * d) 1 ≠ (-1 : Int32) then some ((0 : Int32), S) else (if S.1 (39 + 2 * d) 3 ≠ (-1 : Int32) then some ((0 : Int32), S) else some ((1 : Int32), S))) := by
  rcases hd6 hd with rfl | rfl | rfl | rfl | rfl | rfl
  · exact c_X6_isEmpty_39 sc S
  · exact c_X6_isEmpty_41 sc S
  · exact c_X6_isEmpty_43 sc S
  · exact c_X6_isEmpty_45 sc S
  · exact c_X6_isEmpty_47 sc S
  · exact c_X6_isEmpty_49 sc S
theorem g_isRow (sc : zSc) (S : zS)  {d : Nat} (hd : d < 6) : zcI sc zm_X6_isRow [.ref (39 + 2 * d)] S = (if S.1 (39 + 2 * d) 1 = (-1 : Int32) then some ((0 : Int32), S) else some ((1 : Int32), S)) := by
  rcases hd6 hd with rfl | rfl | rfl | rfl | rfl | rfl
  · exact c_X6_isRow_39 sc S
  · exact c_X6_isRow_41 sc S
  · exact c_X6_isRow_43 sc S
  · exact c_X6_isRow_45 sc S
  · exact c_X6_isRow_47 sc S
  · exact c_X6_isRow_49 sc S
theorem g_isRowOf (sc : zSc) (S : zS) (a1 : Int32) {d : Nat} (hd : d < 6) : zcI sc zm_X6_isRowOf [.ref (39 + 2 * d), .int a1] S = ((zcI sc zm_X6_isRow [.ref (39 + 2 * d)] S).bind (fun q1 => (if q1.1 = 0 then some ((0 : Int32), q1.2) else (if q1.2.1 (39 + 2 * d) 1 ≠ a1 then some ((0 : Int32), q1.2) else some ((1 : Int32), q1.2))))) := by
  rcases hd6 hd with rfl | rfl | rfl | rfl | rfl | rfl
  · exact c_X6_isRowOf_39 sc S a1
  · exact c_X6_isRowOf_41 sc S a1
  · exact c_X6_isRowOf_43 sc S a1
  · exact c_X6_isRowOf_45 sc S a1
  · exact c_X6_isRowOf_47 sc S a1
  · exact c_X6_isRowOf_49 sc S a1
theorem g_has (sc : zSc) (S : zS) (a1 : Int32) (a2 : Int32) {d : Nat} (hd : d < 6) : zcI sc zm_X6_has [.ref (39 + 2 * d), .int a1, .int a2] S = (if a1 < 0 then some ((0 : Int32), S) else (if a2 < 0 then some ((0 : Int32), S) else (if S.1 (39 + 2 * d) 2 < a2 then some ((0 : Int32), S) else (if (S.1 (39 + 2 * d) 2) - a2 < a1 then some ((0 : Int32), S) else some ((1 : Int32), S))))) := by
  rcases hd6 hd with rfl | rfl | rfl | rfl | rfl | rfl
  · exact c_X6_has_39 sc S a1 a2
  · exact c_X6_has_41 sc S a1 a2
  · exact c_X6_has_43 sc S a1 a2
  · exact c_X6_has_45 sc S a1 a2
  · exact c_X6_has_47 sc S a1 a2
  · exact c_X6_has_49 sc S a1 a2
theorem g_refusalAt (sc : zSc) (S : zS) (a1 : Int32) {d : Nat} (hd : d < 6) : zcI sc zm_X6_refusalAt [.ref (39 + 2 * d), .int a1] S = ((zcI sc zm_X6_isEmpty [.ref (39 + 2 * d)] S).bind (fun q1 => (if q1.1 = 0 then ((zcI sc zm_X6_isRow [.ref (39 + 2 * d)] q1.2).bind (fun q2 => (if q2.1 ≠ 0 then ((zcI sc zm_X6_has [.ref (39 + 2 * d), .int a1, .int (1 : Int32)] q2.2).bind (fun q3 => (if q3.1 = 0 then some ((-13 : Int32), q3.2) else some ((0 : Int32), q3.2)))) else some ((-12 : Int32), q2.2)))) else some ((-11 : Int32), q1.2)))) := by
  rcases hd6 hd with rfl | rfl | rfl | rfl | rfl | rfl
  · exact c_X6_refusalAt_39 sc S a1
  · exact c_X6_refusalAt_41 sc S a1
  · exact c_X6_refusalAt_43 sc S a1
  · exact c_X6_refusalAt_45 sc S a1
  · exact c_X6_refusalAt_47 sc S a1
  · exact c_X6_refusalAt_49 sc S a1
theorem g_get (sc : zSc) (S : zS) (a1 : Int32) {d : Nat} (hd : d < 6) : zcL sc zm_X6_get [.ref (39 + 2 * d), .int a1] S = ((zcI sc zm_X6_has [.ref (39 + 2 * d), .int a1, .int (1 : Int32)] S).bind (fun q1 => (if q1.1 = 0 then some ((Int64.ofNat 0), q1.2) else (if a1 < 0 ∨ 60 ≤ a1.toNatClampNeg then none else some (q1.2.2 (40 + 2 * d) a1.toNatClampNeg, q1.2))))) := by
  rcases hd6 hd with rfl | rfl | rfl | rfl | rfl | rfl
  · exact c_X6_get_39 sc S a1
  · exact c_X6_get_41 sc S a1
  · exact c_X6_get_43 sc S a1
  · exact c_X6_get_45 sc S a1
  · exact c_X6_get_47 sc S a1
  · exact c_X6_get_49 sc S a1
theorem g_set (sc : zSc) (S : zS) (a1 : Int32) (a2 : Int64) {d : Nat} (hd : d < 6) : zcV sc zm_X6_set [.ref (39 + 2 * d), .int a1, .long a2] S = ((zcI sc zm_X6_has [.ref (39 + 2 * d), .int a1, .int (1 : Int32)] S).bind (fun q1 => (if q1.1 = 0 then some q1.2 else ((zcL sc zm_X6_lowestBits [.ref (39 + 2 * d), .long a2] q1.2).bind (fun q2 => (if a1 < 0 ∨ 60 ≤ a1.toNatClampNeg then none else some (zw2 q2.2 (40 + 2 * d) a1.toNatClampNeg q2.1))))))) := by
  rcases hd6 hd with rfl | rfl | rfl | rfl | rfl | rfl
  · exact c_X6_set_39 sc S a1 a2
  · exact c_X6_set_41 sc S a1 a2
  · exact c_X6_set_43 sc S a1 a2
  · exact c_X6_set_45 sc S a1 a2
  · exact c_X6_set_47 sc S a1 a2
  · exact c_X6_set_49 sc S a1 a2
theorem g_lowestBits (sc : zSc) (S : zS) (a1 : Int64) {d : Nat} (hd : d < 6) : zcL sc zm_X6_lowestBits [.ref (39 + 2 * d), .long a1] S = (if S.1 (39 + 2 * d) 1 = (0 : Int32) then some (a1.toInt32.toInt8.toInt32.toInt64, S) else (if S.1 (39 + 2 * d) 1 = (1 : Int32) then some (a1.toInt32.toInt16.toInt32.toInt64, S) else (if S.1 (39 + 2 * d) 1 = (2 : Int32) then some (a1.toInt32.toInt64, S) else (if S.1 (39 + 2 * d) 1 = (3 : Int32) then some (a1, S) else (if S.1 (39 + 2 * d) 1 = (4 : Int32) then (if lg_cmp a1 (Int64.ofNat 0) = 0 then some ((Int64.ofNat 0), S) else some ((Int64.ofNat 1), S)) else some (a1, S)))))) := by
  rcases hd6 hd with rfl | rfl | rfl | rfl | rfl | rfl
  · exact c_X6_lowestBits_39 sc S a1
  · exact c_X6_lowestBits_41 sc S a1
  · exact c_X6_lowestBits_43 sc S a1
  · exact c_X6_lowestBits_45 sc S a1
  · exact c_X6_lowestBits_47 sc S a1
  · exact c_X6_lowestBits_49 sc S a1
theorem g_holdRow (sc : zSc) (S : zS) (a1 : Int32) (a2 : Int32) {d : Nat} (hd : d < 6) : zcV sc zm_X6_holdRow [.ref (39 + 2 * d), .int a1, .int a2] S = ((zcV sc zm_J7_fill_d0a16 [.ref (40 + 2 * d), .long (Int64.ofNat 0)] (zw1 (zw1 (zw1 S (39 + 2 * d) 3 (-1 : Int32)) (39 + 2 * d) 1 a1) (39 + 2 * d) 2 (if (0 : Int32) < (if a2 < (60 : Int32) then a2 else (60 : Int32)) then (if a2 < (60 : Int32) then a2 else (60 : Int32)) else (0 : Int32)))).bind (fun q1 => some q1)) := by
  rcases hd6 hd with rfl | rfl | rfl | rfl | rfl | rfl
  · exact c_X6_holdRow_39 sc S a1 a2
  · exact c_X6_holdRow_41 sc S a1 a2
  · exact c_X6_holdRow_43 sc S a1 a2
  · exact c_X6_holdRow_45 sc S a1 a2
  · exact c_X6_holdRow_47 sc S a1 a2
  · exact c_X6_holdRow_49 sc S a1 a2
theorem g_comesFrom (sc : zSc) (S : zS) (a2 : Int32) {d : Nat} (hd : d < 6) : zcI sc zm_X10_comesFrom [.ref 0, .ref (39 + 2 * d), .int a2] S = ((zcL sc zm_X6_get [.ref (39 + 2 * d), .int a2] S).bind (fun q1 => ((zcL sc zm_X6_get [.ref (39 + 2 * d), .int (a2 + (1 : Int32))] q1.2).bind (fun q2 => ((zcL sc zm_X6_get [.ref (39 + 2 * d), .int (a2 + (2 : Int32))] q2.2).bind (fun q3 => ((zcI sc zm_X4_fits [.int (0 : Int32), .int q1.1.toInt32] q3.2).bind (fun q4 => (if q4.1 = 0 then some ((0 : Int32), q4.2) else ((zcI sc zm_X4_fits [.int (1 : Int32), .int q2.1.toInt32] q4.2).bind (fun q5 => (if q5.1 = 0 then some ((0 : Int32), q5.2) else ((zcI sc zm_X4_fits [.int (2 : Int32), .int q3.1.toInt32] q5.2).bind (fun q6 => (if q6.1 = 0 then some ((0 : Int32), q6.2) else ((zcI sc zm_X4_add [.ref 1, .int q1.1.toInt32, .int q2.1.toInt32, .int q3.1.toInt32] q6.2).bind (fun q7 => (if q7.1 < 0 then some ((0 : Int32), q7.2) else some ((1 : Int32), q7.2))))))))))))))))))) := by
  rcases hd6 hd with rfl | rfl | rfl | rfl | rfl | rfl
  · exact c_X10_comesFrom_39 sc S a2
  · exact c_X10_comesFrom_41 sc S a2
  · exact c_X10_comesFrom_43 sc S a2
  · exact c_X10_comesFrom_45 sc S a2
  · exact c_X10_comesFrom_47 sc S a2
  · exact c_X10_comesFrom_49 sc S a2
theorem g_fill (sc : zSc) (S : zS) (a1 : Int64) {d : Nat} (hd : d < 6) : zcV sc zm_J7_fill_d0a16 [.ref (40 + 2 * d), .long a1] S = zO zgV sc (zg1, (zm_J7_fill_d0a16, 1), 6, S, [some (.ref (40 + 2 * d)), some (.long a1), none, some (.int (0 : Int32)), some (.int (Int32.ofNat 60))], []) := by
  rcases hd6 hd with rfl | rfl | rfl | rfl | rfl | rfl
  · exact c_J7_fill_d0a16_40 sc S a1
  · exact c_J7_fill_d0a16_42 sc S a1
  · exact c_J7_fill_d0a16_44 sc S a1
  · exact c_J7_fill_d0a16_46 sc S a1
  · exact c_J7_fill_d0a16_48 sc S a1
  · exact c_J7_fill_d0a16_50 sc S a1
theorem g_fill6 (sc : zSc) (S : zS) (x1 : Int64) (x3 : Int32) (x4 : Int32) {d : Nat} (hd : d < 6) : zO zgV sc (zg1, (zm_J7_fill_d0a16, 1), 6, S, [some (.ref (40 + 2 * d)), some (.long x1), none, some (.int x3), some (.int x4)], []) = (if x4 ≤ x3 then some S else (if x3 < 0 ∨ 60 ≤ x3.toNatClampNeg then none else zO zgV sc (zg1, (zm_J7_fill_d0a16, 1), 6, (zw2 S (40 + 2 * d) x3.toNatClampNeg x1), [some (.ref (40 + 2 * d)), some (.long x1), none, some (.int (x3 + (1 : Int32))), some (.int x4)], []))) := by
  rcases hd6 hd with rfl | rfl | rfl | rfl | rfl | rfl
  · exact e_J7_fill_d0a16_40_6 sc S x1 x3 x4
  · exact e_J7_fill_d0a16_42_6 sc S x1 x3 x4
  · exact e_J7_fill_d0a16_44_6 sc S x1 x3 x4
  · exact e_J7_fill_d0a16_46_6 sc S x1 x3 x4
  · exact e_J7_fill_d0a16_48_6 sc S x1 x3 x4
  · exact e_J7_fill_d0a16_50_6 sc S x1 x3 x4
theorem g_row (sc : zSc) (S : zS) (a2 : Int32) (a3 : Int32) {d : Nat} (hd : d < 6) : zcI sc zm_X10_row [.ref 0, .int (nI d), .int a2, .int a3] S = ((zcI sc zm_X10_isShelf [.int (nI d)] S).bind (fun q1 => (if q1.1 = 0 then some ((-1 : Int32), q1.2) else ((zcI sc zm_X10_within [.int a2, .int (0 : Int32), .int (4 : Int32)] q1.2).bind (fun q2 => (if q2.1 = 0 then some ((-1 : Int32), q2.2) else (if a3 ≤ (60 : Int32) then (if 0 ≤ a3 then ((zcV sc zm_X6_holdRow [.ref (39 + 2 * d), .int a2, .int a3] q2.2).bind (fun q3 => some ((1 : Int32), q3))) else some ((-14 : Int32), q2.2)) else some ((-1 : Int32), q2.2)))))))) := by
  rcases hd6 hd with rfl | rfl | rfl | rfl | rfl | rfl
  · exact c_X10_row_L0 sc S a2 a3
  · exact c_X10_row_L1 sc S a2 a3
  · exact c_X10_row_L2 sc S a2 a3
  · exact c_X10_row_L3 sc S a2 a3
  · exact c_X10_row_L4 sc S a2 a3
  · exact c_X10_row_L5 sc S a2 a3
theorem g_put (sc : zSc) (S : zS) (a2 : Int32) (a3 : Int64) {d : Nat} (hd : d < 6) : zcI sc zm_X10_put [.ref 0, .int (nI d), .int a2, .long a3] S = ((zcI sc zm_X10_isShelf [.int (nI d)] S).bind (fun q1 => (if q1.1 ≠ 0 then ((zcI sc zm_X6_refusalAt [.ref (39 + 2 * d), .int a2] q1.2).bind (fun q2 => (if q2.1 = 0 then ((zcV sc zm_X6_set [.ref (39 + 2 * d), .int a2, .long a3] q2.2).bind (fun q3 => some ((1 : Int32), q3))) else some (q2.1, q2.2)))) else some ((-1 : Int32), q1.2)))) := by
  rcases hd6 hd with rfl | rfl | rfl | rfl | rfl | rfl
  · exact c_X10_put_L0 sc S a2 a3
  · exact c_X10_put_L1 sc S a2 a3
  · exact c_X10_put_L2 sc S a2 a3
  · exact c_X10_put_L3 sc S a2 a3
  · exact c_X10_put_L4 sc S a2 a3
  · exact c_X10_put_L5 sc S a2 a3
theorem g_element (sc : zSc) (S : zS) (a2 : Int32) {d : Nat} (hd : d < 6) : zcL sc zm_X10_element [.ref 0, .int (nI d), .int a2] S = ((zcI sc zm_X10_isShelf [.int (nI d)] S).bind (fun q1 => (if q1.1 = 0 then some ((-9223372036854775808 : Int64), q1.2) else ((zcI sc zm_X6_refusalAt [.ref (39 + 2 * d), .int a2] q1.2).bind (fun q2 => (if q2.1 = 0 then ((zcL sc zm_X6_get [.ref (39 + 2 * d), .int a2] q2.2).bind (fun q3 => some (q3.1, q3.2))) else some ((-9223372036854775808 : Int64), q2.2))))))) := by
  rcases hd6 hd with rfl | rfl | rfl | rfl | rfl | rfl
  · exact c_X10_element_L0 sc S a2
  · exact c_X10_element_L1 sc S a2
  · exact c_X10_element_L2 sc S a2
  · exact c_X10_element_L3 sc S a2
  · exact c_X10_element_L4 sc S a2
  · exact c_X10_element_L5 sc S a2
theorem g_taken (sc : zSc) (S : zS) (a2 : Int32) {d : Nat} (hd : d < 6) : zcI sc zm_X10_taken [.ref 0, .int (nI d), .int a2] S = ((zcI sc zm_X10_isShelf [.int (nI d)] S).bind (fun q1 => (if q1.1 = 0 then some ((-1 : Int32), q1.2) else ((zcI sc zm_X10_within [.int a2, .int (0 : Int32), .int (7 : Int32)] q1.2).bind (fun q2 => (if q2.1 ≠ 0 then ((zcI sc zm_X6_isEmpty [.ref (39 + 2 * d)] q2.2).bind (fun q3 => (if q3.1 = 0 then ((zcI sc zm_X6_isRow [.ref (39 + 2 * d)] q3.2).bind (fun q4 => (if q4.1 = 0 then ((zcI sc zm_X9_kindOf [.ref 35, .int (q4.2.1 (39 + 2 * d) 3)] q4.2).bind (fun q5 => ((zcI sc zm_X9_isUnder [.int q5.1, .int a2] q5.2).bind (fun q6 => (if q6.1 = 0 then some ((-12 : Int32), q6.2) else some (q5.1, q6.2)))))) else ((zcI sc zm_X9_isUnder [.int (-1 : Int32), .int a2] q4.2).bind (fun q7 => (if q7.1 = 0 then some ((-12 : Int32), q7.2) else some ((-1 : Int32), q7.2))))))) else some ((-11 : Int32), q3.2)))) else some ((-1 : Int32), q2.2))))))) := by
  rcases hd6 hd with rfl | rfl | rfl | rfl | rfl | rfl
  · exact c_X10_taken_L0 sc S a2
  · exact c_X10_taken_L1 sc S a2
  · exact c_X10_taken_L2 sc S a2
  · exact c_X10_taken_L3 sc S a2
  · exact c_X10_taken_L4 sc S a2
  · exact c_X10_taken_L5 sc S a2
theorem g_pupils (sc : zSc) (S : zS) (a2 : Int32) (a3 : Int32) {d : Nat} (hd : d < 6) : zcI sc zm_X10_pupils [.ref 0, .int (nI d), .int a2, .int a3] S = ((zcI sc zm_X10_isShelf [.int (nI d)] S).bind (fun q1 => (if q1.1 = 0 then some ((-1 : Int32), q1.2) else ((zcI sc zm_X10_within [.int a3, .int (1 : Int32), .int (8 : Int32)] q1.2).bind (fun q2 => (if q2.1 ≠ 0 then ((zcI sc zm_X6_isEmpty [.ref (39 + 2 * d)] q2.2).bind (fun q3 => (if q3.1 = 0 then ((zcI sc zm_X6_isRowOf [.ref (39 + 2 * d), .int (0 : Int32)] q3.2).bind (fun q4 => (if q4.1 ≠ 0 then zO zgI sc (zg1, (zm_X10_pupils, 6), 55, q4.2, [some (.ref 0), some (.int (nI d)), some (.int a2), some (.int a3), some (.ref (39 + 2 * d)), some (.int (0 : Int32)), some (.int a2)], []) else some ((-12 : Int32), q4.2)))) else some ((0 : Int32), q3.2)))) else some ((-1 : Int32), q2.2))))))) := by
  rcases hd6 hd with rfl | rfl | rfl | rfl | rfl | rfl
  · exact c_X10_pupils_L0 sc S a2 a3
  · exact c_X10_pupils_L1 sc S a2 a3
  · exact c_X10_pupils_L2 sc S a2 a3
  · exact c_X10_pupils_L3 sc S a2 a3
  · exact c_X10_pupils_L4 sc S a2 a3
  · exact c_X10_pupils_L5 sc S a2 a3
theorem g_pupils55 (sc : zSc) (S : zS) (x2 : Int32) (x3 : Int32) (x5 : Int32) (x6 : Int32) {d : Nat} (hd : d < 6) : zO zgI sc (zg1, (zm_X10_pupils, 6), 55, S, [some (.ref 0), some (.int (nI d)), some (.int x2), some (.int x3), some (.ref (39 + 2 * d)), some (.int x5), some (.int x6)], []) = (if x3 ≤ x5 then some (x5, S) else ((zcI sc zm_X6_has [.ref (39 + 2 * d), .int x6, .int (3 : Int32)] S).bind (fun q1 => (if q1.1 = 0 then some (x5, q1.2) else ((zcI sc zm_X10_comesFrom [.ref 0, .ref (39 + 2 * d), .int x6] q1.2).bind (fun q2 => (if q2.1 = 0 then some (x5, q2.2) else zO zgI sc (zg1, (zm_X10_pupils, 6), 55, q2.2, [some (.ref 0), some (.int (nI d)), some (.int x2), some (.int x3), some (.ref (39 + 2 * d)), some (.int (x5 + (1 : Int32))), some (.int (x6 + (3 : Int32)))], [])))))))) := by
  rcases hd6 hd with rfl | rfl | rfl | rfl | rfl | rfl
  · exact e_X10_pupils_L0_55 sc S x2 x3 x5 x6
  · exact e_X10_pupils_L1_55 sc S x2 x3 x5 x6
  · exact e_X10_pupils_L2_55 sc S x2 x3 x5 x6
  · exact e_X10_pupils_L3_55 sc S x2 x3 x5 x6
  · exact e_X10_pupils_L4_55 sc S x2 x3 x5 x6
  · exact e_X10_pupils_L5_55 sc S x2 x3 x5 x6
theorem g_shift (sc : zSc) (S : zS) (a2 : Int32) (a4 : Int32) (a5 : Int32) {d d2 : Nat} (hd : d < 6) (hd2 : d2 < 6) : zcI sc zm_X10_shift [.ref 0, .int (nI d), .int a2, .int (nI d2), .int a4, .int a5] S = ((zcI sc zm_X10_isShelf [.int (nI d)] S).bind (fun q1 => (if q1.1 = 0 then some ((-1 : Int32), q1.2) else ((zcI sc zm_X10_isShelf [.int (nI d2)] q1.2).bind (fun q2 => (if q2.1 ≠ 0 then ((zcI sc zm_X6_isEmpty [.ref (39 + 2 * d)] q2.2).bind (fun q3 => (if q3.1 ≠ 0 then some ((-11 : Int32), q3.2) else ((zcI sc zm_X6_isEmpty [.ref (39 + 2 * d2)] q3.2).bind (fun q4 => (if q4.1 = 0 then ((zcI sc zm_X6_isRow [.ref (39 + 2 * d)] q4.2).bind (fun q5 => (if q5.1 = 0 then some ((-12 : Int32), q5.2) else ((zcI sc zm_X6_isRowOf [.ref (39 + 2 * d2), .int (q5.2.1 (39 + 2 * d) 1)] q5.2).bind (fun q6 => (if q6.1 ≠ 0 then ((zcI sc zm_X6_has [.ref (39 + 2 * d), .int a2, .int a5] q6.2).bind (fun q7 => (if q7.1 = 0 then some ((-13 : Int32), q7.2) else ((zcI sc zm_X6_has [.ref (39 + 2 * d2), .int a4, .int a5] q7.2).bind (fun q8 => (if q8.1 ≠ 0 then (if a2 < 0 ∨ a4 < 0 ∨ a5 < 0 ∨ 60 < a2.toNatClampNeg + a5.toNatClampNeg ∨ 60 < a4.toNatClampNeg + a5.toNatClampNeg then none else some (a5, (zwc2 q8.2 (40 + 2 * d2) (va_cpy (q8.2.2 (40 + 2 * d)) (q8.2.2 (40 + 2 * d2)) a2.toNatClampNeg a4.toNatClampNeg a5.toNatClampNeg)))) else some ((-13 : Int32), q8.2))))))) else some ((-12 : Int32), q6.2))))))) else some ((-11 : Int32), q4.2))))))) else some ((-1 : Int32), q2.2))))))) := by
  rcases hd6 hd with rfl | rfl | rfl | rfl | rfl | rfl
  · rcases hd6 hd2 with rfl | rfl | rfl | rfl | rfl | rfl
    · exact c_X10_shift_L0_L0 sc S a2 a4 a5
    · exact c_X10_shift_L0_L1 sc S a2 a4 a5
    · exact c_X10_shift_L0_L2 sc S a2 a4 a5
    · exact c_X10_shift_L0_L3 sc S a2 a4 a5
    · exact c_X10_shift_L0_L4 sc S a2 a4 a5
    · exact c_X10_shift_L0_L5 sc S a2 a4 a5
  · rcases hd6 hd2 with rfl | rfl | rfl | rfl | rfl | rfl
    · exact c_X10_shift_L1_L0 sc S a2 a4 a5
    · exact c_X10_shift_L1_L1 sc S a2 a4 a5
    · exact c_X10_shift_L1_L2 sc S a2 a4 a5
    · exact c_X10_shift_L1_L3 sc S a2 a4 a5
    · exact c_X10_shift_L1_L4 sc S a2 a4 a5
    · exact c_X10_shift_L1_L5 sc S a2 a4 a5
  · rcases hd6 hd2 with rfl | rfl | rfl | rfl | rfl | rfl
    · exact c_X10_shift_L2_L0 sc S a2 a4 a5
    · exact c_X10_shift_L2_L1 sc S a2 a4 a5
    · exact c_X10_shift_L2_L2 sc S a2 a4 a5
    · exact c_X10_shift_L2_L3 sc S a2 a4 a5
    · exact c_X10_shift_L2_L4 sc S a2 a4 a5
    · exact c_X10_shift_L2_L5 sc S a2 a4 a5
  · rcases hd6 hd2 with rfl | rfl | rfl | rfl | rfl | rfl
    · exact c_X10_shift_L3_L0 sc S a2 a4 a5
    · exact c_X10_shift_L3_L1 sc S a2 a4 a5
    · exact c_X10_shift_L3_L2 sc S a2 a4 a5
    · exact c_X10_shift_L3_L3 sc S a2 a4 a5
    · exact c_X10_shift_L3_L4 sc S a2 a4 a5
    · exact c_X10_shift_L3_L5 sc S a2 a4 a5
  · rcases hd6 hd2 with rfl | rfl | rfl | rfl | rfl | rfl
    · exact c_X10_shift_L4_L0 sc S a2 a4 a5
    · exact c_X10_shift_L4_L1 sc S a2 a4 a5
    · exact c_X10_shift_L4_L2 sc S a2 a4 a5
    · exact c_X10_shift_L4_L3 sc S a2 a4 a5
    · exact c_X10_shift_L4_L4 sc S a2 a4 a5
    · exact c_X10_shift_L4_L5 sc S a2 a4 a5
  · rcases hd6 hd2 with rfl | rfl | rfl | rfl | rfl | rfl
    · exact c_X10_shift_L5_L0 sc S a2 a4 a5
    · exact c_X10_shift_L5_L1 sc S a2 a4 a5
    · exact c_X10_shift_L5_L2 sc S a2 a4 a5
    · exact c_X10_shift_L5_L3 sc S a2 a4 a5
    · exact c_X10_shift_L5_L4 sc S a2 a4 a5
    · exact c_X10_shift_L5_L5 sc S a2 a4 a5
