/-! what an act answers and which bodies begin: k the own kind, v the own number, f whose body -/
def saN (f : Nat) : List Nat := if f = 1 ∨ f = 4 ∨ f = 7 then [20, 1] else if f = 6 then [70, 1] else [1]
def saV (v : Int32) (f : Nat) (x : Int32) : Int32 := if f = 1 ∨ f = 4 ∨ f = 7 then x + v + 3 else if f = 6 then (x + v) * 2 else x + v
def maN (k f : Nat) : List Nat := if f = 3 ∨ f = 5 then [40, 11] else if f = 4 ∨ f = 7 then 50 :: 11 :: saN k else [11]
def maV (v : Int32) (k f : Nat) (x : Int32) : Int32 := if f = 3 ∨ f = 5 then (x ^^^ v) * 3 else if f = 4 ∨ f = 7 then (x ^^^ v) - saV v k 2 else x ^^^ v
def heN (k f : Nat) : List Nat := if f = 3 ∨ f = 5 then 41 :: 30 :: 10 :: saN k else if f = 2 then 30 :: 10 :: saN k else if f = 7 then 80 :: 10 :: (saN k ++ maN k k) else 10 :: saN k
def heV (v : Int32) (k f : Nat) (x : Int32) : Int32 := if f = 3 ∨ f = 5 then -(saV v k (x + 1) * 2) else if f = 2 then -(saV v k x * 2) else if f = 7 then saV v k x * 2 + maV v k k 2 else saV v k x * 2
def teN (k f : Nat) : List Nat := if f = 5 then 60 :: 2 :: (heN k k ++ maN k k) else if f = 7 then 81 :: 2 :: (heN k k ++ maN k k) else 2 :: (heN k k ++ maN k k)
def teV (v : Int32) (k f : Nat) (x : Int32) : Int32 := if f = 5 then (heV v k k x - maV v k k 1) ^^^ 5 else if f = 7 then heV v k k x - maV v k k 1 - 1 else heV v k k x - maV v k k 1
theorem saN_len (f : Nat) : (saN f).length ≤ 2 := by unfold saN; split <;> (try split) <;> decide
theorem maN_len (k f : Nat) : (maN k f).length ≤ 4 := by
  have := saN_len k
  unfold maN
  split
  · decide
  · split
    · rw [List.length_cons, List.length_cons]; omega
    · decide
theorem heN_len (k f : Nat) : (heN k f).length ≤ 8 := by
  have := saN_len k
  have := maN_len k k
  unfold heN
  split
  · rw [List.length_cons, List.length_cons, List.length_cons]; omega
  · split
    · rw [List.length_cons, List.length_cons]; omega
    · split
      · rw [List.length_cons, List.length_cons, List.length_append]; omega
      · rw [List.length_cons]; omega
theorem lv_says (S : zS) (x : Int32) {f : Nat} (hf : f < 100) : zlv zm_X11_saysAs [.ref 51, .int (nI f), .int x] S = 8 + f := by
  show 8 + (nI f).toNatClampNeg = _
  rw [n_cl (by omega)]
theorem lv_hears (S : zS) (x : Int32) {f : Nat} (hf : f < 100) : zlv zm_X11_hearsAs [.ref 51, .int (nI f), .int x] S = 24 + f := by
  show 24 + (nI f).toNatClampNeg = _
  rw [n_cl (by omega)]
theorem lv_marks (S : zS) (x : Int32) {f : Nat} (hf : f < 100) : zlv zm_X11_marksAs [.ref 51, .int (nI f), .int x] S = 16 + f := by
  show 16 + (nI f).toNatClampNeg = _
  rw [n_cl (by omega)]
theorem lv_tells (S : zS) (x : Int32) {f : Nat} (hf : f < 100) : zlv zm_X11_tellsAs [.ref 51, .int (nI f), .int x] S = 32 + f := by
  show 32 + (nI f).toNatClampNeg = _
  rw [n_cl (by omega)]
theorem f8 {f : Nat} (h : f ≤ 7) : f = 0 ∨ f = 1 ∨ f = 2 ∨ f = 3 ∨ f = 4 ∨ f = 5 ∨ f = 6 ∨ f = 7 := by omega
theorem c_sa0 (sc : zSc) {S : zS} {f r dp : Nat} {v x : Int32} (hf : f ≤ 7) (hr : S.1 35 3 = nI r) (hr2 : r < 95000) (hd : dp ≤ 40) (hv : S.1 35 4 = v) (hw : whb 9 0 f = 8) : zcI sc zm_X9_run [.ref 35, .int (nI 0), .int (nI f), .int x, .int (nI (dp))] S = some (x + v, ntC r 1 S) :=
  r_1 sc (a := 0) (w := 8) (by decide) (by omega) hw (by omega) (by decide) hr (by omega) (by omega) hv
theorem c_says (sc : zSc) {S : zS} {f r dp : Nat} {v x : Int32} (hf : f ≤ 7) (hr : S.1 35 3 = nI r) (hr2 : r < 90000) (hd : dp ≤ 39) (hv : S.1 35 4 = v) : zcI sc zm_X9_run [.ref 35, .int (nI 0), .int (nI f), .int x, .int (nI (dp))] S = some (saV v f x, ntsC r (saN f) S) := by
  rcases f8 hf with rfl | rfl | rfl | rfl | rfl | rfl | rfl | rfl
  · exact c_sa0 sc hf hr (by omega) (by omega) hv (by decide)
  · exact r_20 sc (a := 0) (w := 1) (g := nI 0) (by decide) (by omega) (by decide) (by omega) (by decide) hr (by omega) (by omega) (by decide) (c_sa0 sc (dp := dp + 1) (f := 0) (by omega) (ntC_r r 20 S) (by omega) (by omega) ((ntC_n r 20 S (by decide) (by decide)).trans hv) (by decide))
  · exact c_sa0 sc hf hr (by omega) (by omega) hv (by decide)
  · exact c_sa0 sc hf hr (by omega) (by omega) hv (by decide)
  · exact r_20 sc (a := 0) (w := 1) (g := nI 0) (by decide) (by omega) (by decide) (by omega) (by decide) hr (by omega) (by omega) (by decide) (c_sa0 sc (dp := dp + 1) (f := 0) (by omega) (ntC_r r 20 S) (by omega) (by omega) ((ntC_n r 20 S (by decide) (by decide)).trans hv) (by decide))
  · exact c_sa0 sc hf hr (by omega) (by omega) hv (by decide)
  · exact r_70 sc (a := 0) (w := 6) (g := nI 0) (by decide) (by omega) (by decide) (by omega) (by decide) hr (by omega) (by omega) (by decide) (c_sa0 sc (dp := dp + 1) (f := 0) (by omega) (ntC_r r 70 S) (by omega) (by omega) ((ntC_n r 70 S (by decide) (by decide)).trans hv) (by decide))
  · exact r_20 sc (a := 0) (w := 1) (g := nI 0) (by decide) (by omega) (by decide) (by omega) (by decide) hr (by omega) (by omega) (by decide) (c_sa0 sc (dp := dp + 1) (f := 0) (by omega) (ntC_r r 20 S) (by omega) (by omega) ((ntC_n r 20 S (by decide) (by decide)).trans hv) (by decide))
theorem c_ma0 (sc : zSc) {S : zS} {f r dp : Nat} {v x : Int32} (hf : f ≤ 7) (hr : S.1 35 3 = nI r) (hr2 : r < 95000) (hd : dp ≤ 40) (hv : S.1 35 4 = v) (hw : whb 9 2 f = 0) : zcI sc zm_X9_run [.ref 35, .int (nI 2), .int (nI f), .int x, .int (nI (dp))] S = some (x ^^^ v, ntC r 11 S) :=
  r_11 sc (a := 2) (w := 0) (by decide) (by omega) hw (by omega) (by decide) hr (by omega) (by omega) hv
theorem c_marks (sc : zSc) {S : zS} {f k r dp : Nat} {v x : Int32} (hf : f ≤ 7) (hr : S.1 35 3 = nI r) (hr2 : r < 80000) (hd : dp ≤ 38) (hv : S.1 35 4 = v) (hk : k ≤ 7) (h5 : S.1 35 5 = nI k) : zcI sc zm_X9_run [.ref 35, .int (nI 2), .int (nI f), .int x, .int (nI (dp))] S = some (maV v k f x, ntsC r (maN k f) S) := by
  rcases f8 hf with rfl | rfl | rfl | rfl | rfl | rfl | rfl | rfl
  · exact c_ma0 sc hf hr (by omega) (by omega) hv (by decide)
  · exact c_ma0 sc hf hr (by omega) (by omega) hv (by decide)
  · exact c_ma0 sc hf hr (by omega) (by omega) hv (by decide)
  · exact r_40 sc (a := 2) (w := 3) (g := nI 2) (by decide) (by omega) (by decide) (by omega) (by decide) hr (by omega) (by omega) (by decide) (c_ma0 sc (dp := dp + 1) (f := 2) (by omega) (ntC_r r 40 S) (by omega) (by omega) ((ntC_n r 40 S (by decide) (by decide)).trans hv) (by decide))
  · exact r_50 sc (a := 2) (w := 4) (g := nI 1) (k := nI k) (by decide) (by omega) (by decide) (by omega) (by decide) hr (by omega) (by omega) (by decide)
      ((ntC_n (r + 1) 11 (ntC r 50 S) (by decide) (by decide)).trans ((ntC_n r 50 S (by decide) (by decide)).trans h5))
      (c_ma0 sc (dp := dp + 1) (f := 1) (by omega) (ntC_r r 50 S) (by omega) (by omega) ((ntC_n r 50 S (by decide) (by decide)).trans hv) (by decide))
      (c_says sc (dp := dp + 1) (f := k) hk (ntC_r (r + 1) 11 (ntC r 50 S)) (by omega) (by omega) ((ntC_n (r + 1) 11 (ntC r 50 S) (by decide) (by decide)).trans ((ntC_n r 50 S (by decide) (by decide)).trans hv)))
  · exact r_40 sc (a := 2) (w := 3) (g := nI 2) (by decide) (by omega) (by decide) (by omega) (by decide) hr (by omega) (by omega) (by decide) (c_ma0 sc (dp := dp + 1) (f := 2) (by omega) (ntC_r r 40 S) (by omega) (by omega) ((ntC_n r 40 S (by decide) (by decide)).trans hv) (by decide))
  · exact c_ma0 sc hf hr (by omega) (by omega) hv (by decide)
  · exact r_50 sc (a := 2) (w := 4) (g := nI 1) (k := nI k) (by decide) (by omega) (by decide) (by omega) (by decide) hr (by omega) (by omega) (by decide)
      ((ntC_n (r + 1) 11 (ntC r 50 S) (by decide) (by decide)).trans ((ntC_n r 50 S (by decide) (by decide)).trans h5))
      (c_ma0 sc (dp := dp + 1) (f := 1) (by omega) (ntC_r r 50 S) (by omega) (by omega) ((ntC_n r 50 S (by decide) (by decide)).trans hv) (by decide))
      (c_says sc (dp := dp + 1) (f := k) hk (ntC_r (r + 1) 11 (ntC r 50 S)) (by omega) (by omega) ((ntC_n (r + 1) 11 (ntC r 50 S) (by decide) (by decide)).trans ((ntC_n r 50 S (by decide) (by decide)).trans hv)))
theorem c_he0 (sc : zSc) {S : zS} {f k r dp : Nat} {v x : Int32} (hf : f ≤ 7) (hr : S.1 35 3 = nI r) (hr2 : r < 75000) (hd : dp ≤ 38) (hv : S.1 35 4 = v) (hk : k ≤ 7) (h5 : S.1 35 5 = nI k) (hw : whb 9 1 f = 0) : zcI sc zm_X9_run [.ref 35, .int (nI 1), .int (nI f), .int x, .int (nI (dp))] S = some (saV v k x * 2, ntsC r (10 :: saN k) S) :=
  r_10 sc (a := 1) (w := 0) (g := nI k) (by decide) (by omega) hw (by omega) (by decide) hr (by omega) (by omega) h5 (c_says sc (dp := dp + 1) (f := k) hk (ntC_r r 10 S) (by omega) (by omega) ((ntC_n r 10 S (by decide) (by decide)).trans hv))
theorem c_he2 (sc : zSc) {S : zS} {f k r dp : Nat} {v x : Int32} (hf : f ≤ 7) (hr : S.1 35 3 = nI r) (hr2 : r < 72000) (hd : dp ≤ 37) (hv : S.1 35 4 = v) (hk : k ≤ 7) (h5 : S.1 35 5 = nI k) (hw : whb 9 1 f = 2) : zcI sc zm_X9_run [.ref 35, .int (nI 1), .int (nI f), .int x, .int (nI (dp))] S = some (-(saV v k x * 2), ntsC r (30 :: 10 :: saN k) S) :=
  r_30 sc (a := 1) (w := 2) (g := nI 0) (by decide) (by omega) hw (by omega) (by decide) hr (by omega) (by omega) (by decide) (c_he0 sc (dp := dp + 1) (f := 0) (k := k) (by omega) (ntC_r r 30 S) (by omega) (by omega) ((ntC_n r 30 S (by decide) (by decide)).trans hv) hk ((ntC_n r 30 S (by decide) (by decide)).trans h5) (by decide))
theorem c_hears (sc : zSc) {S : zS} {f k r dp : Nat} {v x : Int32} (hf : f ≤ 7) (hr : S.1 35 3 = nI r) (hr2 : r < 70000) (hd : dp ≤ 36) (hv : S.1 35 4 = v) (hk : k ≤ 7) (h5 : S.1 35 5 = nI k) : zcI sc zm_X9_run [.ref 35, .int (nI 1), .int (nI f), .int x, .int (nI (dp))] S = some (heV v k f x, ntsC r (heN k f) S) := by
  rcases f8 hf with rfl | rfl | rfl | rfl | rfl | rfl | rfl | rfl
  · exact c_he0 sc hf hr (by omega) (by omega) hv hk h5 (by decide)
  · exact c_he0 sc hf hr (by omega) (by omega) hv hk h5 (by decide)
  · exact c_he2 sc hf hr (by omega) (by omega) hv hk h5 (by decide)
  · exact r_41 sc (a := 1) (w := 3) (g := nI 2) (by decide) (by omega) (by decide) (by omega) (by decide) hr (by omega) (by omega) (by decide) (c_he2 sc (dp := dp + 1) (f := 2) (k := k) (by omega) (ntC_r r 41 S) (by omega) (by omega) ((ntC_n r 41 S (by decide) (by decide)).trans hv) hk ((ntC_n r 41 S (by decide) (by decide)).trans h5) (by decide))
  · exact c_he0 sc hf hr (by omega) (by omega) hv hk h5 (by decide)
  · exact r_41 sc (a := 1) (w := 3) (g := nI 2) (by decide) (by omega) (by decide) (by omega) (by decide) hr (by omega) (by omega) (by decide) (c_he2 sc (dp := dp + 1) (f := 2) (k := k) (by omega) (ntC_r r 41 S) (by omega) (by omega) ((ntC_n r 41 S (by decide) (by decide)).trans hv) hk ((ntC_n r 41 S (by decide) (by decide)).trans h5) (by decide))
  · exact c_he0 sc hf hr (by omega) (by omega) hv hk h5 (by decide)
  · have e : ntsC r (heN k 7) S = ntsC (r + 1 + (10 :: saN k).length) (maN k k) (ntsC (r + 1) (10 :: saN k) (ntC r 80 S)) := ntsC_app (10 :: saN k) (maN k k) (r + 1) (ntC r 80 S)
    have l1 : (10 :: saN k).length ≤ 3 := by rw [List.length_cons]; have := saN_len k; omega
    rw [e]
    exact r_80 sc (a := 1) (w := 7) (g := nI 4) (k := nI k) (by decide) (by omega) (by decide) (by omega) (by decide) hr (by omega) (by omega) (by decide)
      ((ntsC_n (10 :: saN k) (r + 1) (ntC r 80 S) (by decide) (by decide)).trans ((ntC_n r 80 S (by decide) (by decide)).trans h5))
      (c_he0 sc (dp := dp + 1) (f := 4) (k := k) (by omega) (ntC_r r 80 S) (by omega) (by omega) ((ntC_n r 80 S (by decide) (by decide)).trans hv) hk ((ntC_n r 80 S (by decide) (by decide)).trans h5) (by decide))
      (c_marks sc (dp := dp + 1) (f := k) (k := k) hk (ntsC_r (10 :: saN k) (r + 1) (ntC r 80 S) (ntC_r r 80 S)) (by omega) (by omega) ((ntsC_n (10 :: saN k) (r + 1) (ntC r 80 S) (by decide) (by decide)).trans ((ntC_n r 80 S (by decide) (by decide)).trans hv)) hk ((ntsC_n (10 :: saN k) (r + 1) (ntC r 80 S) (by decide) (by decide)).trans ((ntC_n r 80 S (by decide) (by decide)).trans h5)))
theorem c_te0 (sc : zSc) {S : zS} {f k r dp : Nat} {v x : Int32} (hf : f ≤ 7) (hr : S.1 35 3 = nI r) (hr2 : r < 60000) (hd : dp ≤ 35) (hv : S.1 35 4 = v) (hk : k ≤ 7) (h5 : S.1 35 5 = nI k) (hw : whb 9 3 f = 8) : zcI sc zm_X9_run [.ref 35, .int (nI 3), .int (nI f), .int x, .int (nI (dp))] S = some (heV v k k x - maV v k k 1, ntsC r (2 :: (heN k k ++ maN k k)) S) := by
  have e : ntsC r (2 :: (heN k k ++ maN k k)) S = ntsC (r + 1 + (heN k k).length) (maN k k) (ntsC (r + 1) (heN k k) (ntC r 2 S)) := ntsC_app (heN k k) (maN k k) (r + 1) (ntC r 2 S)
  have l1 := heN_len k k
  rw [e]
  exact r_2 sc (a := 3) (w := 8) (g := nI k) (by decide) (by omega) hw (by omega) (by decide) hr (by omega) (by omega) h5 ((ntsC_n (heN k k) (r + 1) (ntC r 2 S) (by decide) (by decide)).trans ((ntC_n r 2 S (by decide) (by decide)).trans h5))
    (c_hears sc (dp := dp + 1) (f := k) (k := k) hk (ntC_r r 2 S) (by omega) (by omega) ((ntC_n r 2 S (by decide) (by decide)).trans hv) hk ((ntC_n r 2 S (by decide) (by decide)).trans h5))
    (c_marks sc (dp := dp + 1) (f := k) (k := k) hk (ntsC_r (heN k k) (r + 1) (ntC r 2 S) (ntC_r r 2 S)) (by omega) (by omega) ((ntsC_n (heN k k) (r + 1) (ntC r 2 S) (by decide) (by decide)).trans ((ntC_n r 2 S (by decide) (by decide)).trans hv)) hk ((ntsC_n (heN k k) (r + 1) (ntC r 2 S) (by decide) (by decide)).trans ((ntC_n r 2 S (by decide) (by decide)).trans h5)))
theorem c_tells (sc : zSc) {S : zS} {f k r dp : Nat} {v x : Int32} (hf : f ≤ 7) (hr : S.1 35 3 = nI r) (hr2 : r < 50000) (hd : dp ≤ 34) (hv : S.1 35 4 = v) (hk : k ≤ 7) (h5 : S.1 35 5 = nI k) : zcI sc zm_X9_run [.ref 35, .int (nI 3), .int (nI f), .int x, .int (nI (dp))] S = some (teV v k f x, ntsC r (teN k f) S) := by
  rcases f8 hf with rfl | rfl | rfl | rfl | rfl | rfl | rfl | rfl
  · exact c_te0 sc hf hr (by omega) (by omega) hv hk h5 (by decide)
  · exact c_te0 sc hf hr (by omega) (by omega) hv hk h5 (by decide)
  · exact c_te0 sc hf hr (by omega) (by omega) hv hk h5 (by decide)
  · exact c_te0 sc hf hr (by omega) (by omega) hv hk h5 (by decide)
  · exact c_te0 sc hf hr (by omega) (by omega) hv hk h5 (by decide)
  · exact r_60 sc (a := 3) (w := 5) (g := nI 3) (by decide) (by omega) (by decide) (by omega) (by decide) hr (by omega) (by omega) (by decide) (c_te0 sc (dp := dp + 1) (f := 3) (k := k) (by omega) (ntC_r r 60 S) (by omega) (by omega) ((ntC_n r 60 S (by decide) (by decide)).trans hv) hk ((ntC_n r 60 S (by decide) (by decide)).trans h5) (by decide))
  · exact c_te0 sc hf hr (by omega) (by omega) hv hk h5 (by decide)
  · exact r_81 sc (a := 3) (w := 7) (g := nI 4) (by decide) (by omega) (by decide) (by omega) (by decide) hr (by omega) (by omega) (by decide) (c_te0 sc (dp := dp + 1) (f := 4) (k := k) (by omega) (ntC_r r 81 S) (by omega) (by omega) ((ntC_n r 81 S (by decide) (by decide)).trans hv) hk ((ntC_n r 81 S (by decide) (by decide)).trans h5) (by decide))
theorem m_sa0 (sc : zSc) {S : zS} {f r : Nat} {v x : Int32} (hf : f ≤ 7) (hr : S.1 51 37 = nI r) (hr2 : r < 95000) (hv : S.1 51 39 = v) (hw : f = 0 ∨ f = 2 ∨ f = 3 ∨ f = 5) : zcI sc zm_X11_saysAs [.ref 51, .int (nI f), .int x] S = some (x + v, ntM r 1 S) := by
  rcases hw with rfl | rfl | rfl | rfl
  ·
    have hb : zcV sc zm_X11_begins [.ref 51, .int (1 : Int32)] S = some (ntM r 1 S) := m_begins sc hr (by omega) 1
    show zO zgI sc (zg1, (zm_X11_saysAs, zlv zm_X11_saysAs [.ref 51, .int (nI 0), .int x] S), 0, S, [some (.ref 51), some (.int (nI 0)), some (.int x)], []) = _
    rw [lv_says S x (by omega), e_X11_saysAs_0, if_neg (by decide), if_neg (by decide), if_pos (by decide), if_pos (by decide), if_pos (Nat.lt_of_lt_of_le (lv_begins S _) (by omega)), hb, Option.bind_some]
    rw [ntM_n r 1 S (by decide) (by decide), hv]
  ·
    have hb : zcV sc zm_X11_begins [.ref 51, .int (1 : Int32)] S = some (ntM r 1 S) := m_begins sc hr (by omega) 1
    show zO zgI sc (zg1, (zm_X11_saysAs, zlv zm_X11_saysAs [.ref 51, .int (nI 2), .int x] S), 0, S, [some (.ref 51), some (.int (nI 2)), some (.int x)], []) = _
    rw [lv_says S x (by omega), e_X11_saysAs_0, if_neg (by decide), if_neg (by decide), if_pos (by decide), if_pos (by decide), if_pos (Nat.lt_of_lt_of_le (lv_begins S _) (by omega)), hb, Option.bind_some]
    rw [ntM_n r 1 S (by decide) (by decide), hv]
  ·
    have hb : zcV sc zm_X11_begins [.ref 51, .int (1 : Int32)] S = some (ntM r 1 S) := m_begins sc hr (by omega) 1
    show zO zgI sc (zg1, (zm_X11_saysAs, zlv zm_X11_saysAs [.ref 51, .int (nI 3), .int x] S), 0, S, [some (.ref 51), some (.int (nI 3)), some (.int x)], []) = _
    rw [lv_says S x (by omega), e_X11_saysAs_0, if_neg (by decide), if_neg (by decide), if_pos (by decide), if_pos (by decide), if_pos (Nat.lt_of_lt_of_le (lv_begins S _) (by omega)), hb, Option.bind_some]
    rw [ntM_n r 1 S (by decide) (by decide), hv]
  ·
    have hb : zcV sc zm_X11_begins [.ref 51, .int (1 : Int32)] S = some (ntM r 1 S) := m_begins sc hr (by omega) 1
    show zO zgI sc (zg1, (zm_X11_saysAs, zlv zm_X11_saysAs [.ref 51, .int (nI 5), .int x] S), 0, S, [some (.ref 51), some (.int (nI 5)), some (.int x)], []) = _
    rw [lv_says S x (by omega), e_X11_saysAs_0, if_neg (by decide), if_neg (by decide), if_pos (by decide), if_pos (by decide), if_pos (Nat.lt_of_lt_of_le (lv_begins S _) (by omega)), hb, Option.bind_some]
    rw [ntM_n r 1 S (by decide) (by decide), hv]
theorem m_says (sc : zSc) {S : zS} {f r : Nat} {v x : Int32} (hf : f ≤ 7) (hr : S.1 51 37 = nI r) (hr2 : r < 90000) (hv : S.1 51 39 = v) : zcI sc zm_X11_saysAs [.ref 51, .int (nI f), .int x] S = some (saV v f x, ntsM r (saN f) S) := by
  rcases f8 hf with rfl | rfl | rfl | rfl | rfl | rfl | rfl | rfl
  · exact m_sa0 sc hf hr (by omega) hv (by omega)
  ·
    have hb : zcV sc zm_X11_begins [.ref 51, .int (20 : Int32)] S = some (ntM r 20 S) := m_begins sc hr (by omega) 20
    show zO zgI sc (zg1, (zm_X11_saysAs, zlv zm_X11_saysAs [.ref 51, .int (nI 1), .int x] S), 0, S, [some (.ref 51), some (.int (nI 1)), some (.int x)], []) = _
    rw [lv_says S x (by omega), e_X11_saysAs_0, if_pos (by decide), if_pos (Nat.lt_of_lt_of_le (lv_begins S _) (by omega)), hb, Option.bind_some]
    have h0 : zcI sc zm_X11_saysAs [.ref 51, .int (0 : Int32), .int x] (ntM r 20 S) = some (x + v, ntM (r + 1) 1 (ntM r 20 S)) := m_sa0 sc (f := 0) (by omega) (ntM_r r 20 S) (by omega) ((ntM_n r 20 S (by decide) (by decide)).trans hv) (by omega)
    rw [if_pos (show zlv zm_X11_saysAs [.ref 51, .int (0 : Int32), .int x] (ntM r 20 S) < _ by rw [show zlv zm_X11_saysAs [.ref 51, .int (0 : Int32), .int x] (ntM r 20 S) = _ from lv_says _ _ (f := 0) (by omega)]; omega), h0, Option.bind_some]; rfl
  · exact m_sa0 sc hf hr (by omega) hv (by omega)
  · exact m_sa0 sc hf hr (by omega) hv (by omega)
  ·
    have hb : zcV sc zm_X11_begins [.ref 51, .int (20 : Int32)] S = some (ntM r 20 S) := m_begins sc hr (by omega) 20
    show zO zgI sc (zg1, (zm_X11_saysAs, zlv zm_X11_saysAs [.ref 51, .int (nI 4), .int x] S), 0, S, [some (.ref 51), some (.int (nI 4)), some (.int x)], []) = _
    rw [lv_says S x (by omega), e_X11_saysAs_0, if_neg (by decide), if_pos (by decide), if_pos (Nat.lt_of_lt_of_le (lv_begins S _) (by omega)), hb, Option.bind_some]
    have h0 : zcI sc zm_X11_saysAs [.ref 51, .int (0 : Int32), .int x] (ntM r 20 S) = some (x + v, ntM (r + 1) 1 (ntM r 20 S)) := m_sa0 sc (f := 0) (by omega) (ntM_r r 20 S) (by omega) ((ntM_n r 20 S (by decide) (by decide)).trans hv) (by omega)
    rw [if_pos (show zlv zm_X11_saysAs [.ref 51, .int (0 : Int32), .int x] (ntM r 20 S) < _ by rw [show zlv zm_X11_saysAs [.ref 51, .int (0 : Int32), .int x] (ntM r 20 S) = _ from lv_says _ _ (f := 0) (by omega)]; omega), h0, Option.bind_some]; rfl
  · exact m_sa0 sc hf hr (by omega) hv (by omega)
  ·
    have hb : zcV sc zm_X11_begins [.ref 51, .int (70 : Int32)] S = some (ntM r 70 S) := m_begins sc hr (by omega) 70
    show zO zgI sc (zg1, (zm_X11_saysAs, zlv zm_X11_saysAs [.ref 51, .int (nI 6), .int x] S), 0, S, [some (.ref 51), some (.int (nI 6)), some (.int x)], []) = _
    rw [lv_says S x (by omega), e_X11_saysAs_0, if_neg (by decide), if_neg (by decide), if_pos (by decide), if_neg (by decide), if_pos (Nat.lt_of_lt_of_le (lv_begins S _) (by omega)), hb, Option.bind_some]
    have h0 : zcI sc zm_X11_saysAs [.ref 51, .int (0 : Int32), .int x] (ntM r 70 S) = some (x + v, ntM (r + 1) 1 (ntM r 70 S)) := m_sa0 sc (f := 0) (by omega) (ntM_r r 70 S) (by omega) ((ntM_n r 70 S (by decide) (by decide)).trans hv) (by omega)
    rw [if_pos (show zlv zm_X11_saysAs [.ref 51, .int (0 : Int32), .int x] (ntM r 70 S) < _ by rw [show zlv zm_X11_saysAs [.ref 51, .int (0 : Int32), .int x] (ntM r 70 S) = _ from lv_says _ _ (f := 0) (by omega)]; omega), h0, Option.bind_some]; rfl
  ·
    have hb : zcV sc zm_X11_begins [.ref 51, .int (20 : Int32)] S = some (ntM r 20 S) := m_begins sc hr (by omega) 20
    show zO zgI sc (zg1, (zm_X11_saysAs, zlv zm_X11_saysAs [.ref 51, .int (nI 7), .int x] S), 0, S, [some (.ref 51), some (.int (nI 7)), some (.int x)], []) = _
    rw [lv_says S x (by omega), e_X11_saysAs_0, if_neg (by decide), if_neg (by decide), if_neg (by decide), if_pos (Nat.lt_of_lt_of_le (lv_begins S _) (by omega)), hb, Option.bind_some]
    have h0 : zcI sc zm_X11_saysAs [.ref 51, .int (0 : Int32), .int x] (ntM r 20 S) = some (x + v, ntM (r + 1) 1 (ntM r 20 S)) := m_sa0 sc (f := 0) (by omega) (ntM_r r 20 S) (by omega) ((ntM_n r 20 S (by decide) (by decide)).trans hv) (by omega)
    rw [if_pos (show zlv zm_X11_saysAs [.ref 51, .int (0 : Int32), .int x] (ntM r 20 S) < _ by rw [show zlv zm_X11_saysAs [.ref 51, .int (0 : Int32), .int x] (ntM r 20 S) = _ from lv_says _ _ (f := 0) (by omega)]; omega), h0, Option.bind_some]; rfl
theorem m_ma0 (sc : zSc) {S : zS} {f r : Nat} {v x : Int32} (hf : f ≤ 7) (hr : S.1 51 37 = nI r) (hr2 : r < 95000) (hv : S.1 51 39 = v) (hw : f = 0 ∨ f = 1 ∨ f = 2 ∨ f = 6) : zcI sc zm_X11_marksAs [.ref 51, .int (nI f), .int x] S = some (x ^^^ v, ntM r 11 S) := by
  rcases hw with rfl | rfl | rfl | rfl
  ·
    have hb : zcV sc zm_X11_begins [.ref 51, .int (11 : Int32)] S = some (ntM r 11 S) := m_begins sc hr (by omega) 11
    show zO zgI sc (zg1, (zm_X11_marksAs, zlv zm_X11_marksAs [.ref 51, .int (nI 0), .int x] S), 0, S, [some (.ref 51), some (.int (nI 0)), some (.int x), none], []) = _
    rw [lv_marks S x (by omega), e_X11_marksAs_0, if_neg (by decide), if_pos (by decide), if_neg (by decide), if_pos (by decide), if_pos (Nat.lt_of_lt_of_le (lv_begins S _) (by omega)), hb, Option.bind_some]
    rw [ntM_n r 11 S (by decide) (by decide), hv]
  ·
    have hb : zcV sc zm_X11_begins [.ref 51, .int (11 : Int32)] S = some (ntM r 11 S) := m_begins sc hr (by omega) 11
    show zO zgI sc (zg1, (zm_X11_marksAs, zlv zm_X11_marksAs [.ref 51, .int (nI 1), .int x] S), 0, S, [some (.ref 51), some (.int (nI 1)), some (.int x), none], []) = _
    rw [lv_marks S x (by omega), e_X11_marksAs_0, if_neg (by decide), if_pos (by decide), if_neg (by decide), if_pos (by decide), if_pos (Nat.lt_of_lt_of_le (lv_begins S _) (by omega)), hb, Option.bind_some]
    rw [ntM_n r 11 S (by decide) (by decide), hv]
  ·
    have hb : zcV sc zm_X11_begins [.ref 51, .int (11 : Int32)] S = some (ntM r 11 S) := m_begins sc hr (by omega) 11
    show zO zgI sc (zg1, (zm_X11_marksAs, zlv zm_X11_marksAs [.ref 51, .int (nI 2), .int x] S), 0, S, [some (.ref 51), some (.int (nI 2)), some (.int x), none], []) = _
    rw [lv_marks S x (by omega), e_X11_marksAs_0, if_neg (by decide), if_pos (by decide), if_neg (by decide), if_pos (by decide), if_pos (Nat.lt_of_lt_of_le (lv_begins S _) (by omega)), hb, Option.bind_some]
    rw [ntM_n r 11 S (by decide) (by decide), hv]
  ·
    have hb : zcV sc zm_X11_begins [.ref 51, .int (11 : Int32)] S = some (ntM r 11 S) := m_begins sc hr (by omega) 11
    show zO zgI sc (zg1, (zm_X11_marksAs, zlv zm_X11_marksAs [.ref 51, .int (nI 6), .int x] S), 0, S, [some (.ref 51), some (.int (nI 6)), some (.int x), none], []) = _
    rw [lv_marks S x (by omega), e_X11_marksAs_0, if_neg (by decide), if_pos (by decide), if_neg (by decide), if_pos (by decide), if_pos (Nat.lt_of_lt_of_le (lv_begins S _) (by omega)), hb, Option.bind_some]
    rw [ntM_n r 11 S (by decide) (by decide), hv]
theorem m_marks (sc : zSc) {S : zS} {f k r : Nat} {v x : Int32} (hf : f ≤ 7) (hr : S.1 51 37 = nI r) (hr2 : r < 80000) (hv : S.1 51 39 = v) (hk : k ≤ 7) (h5 : S.1 51 38 = nI k) : zcI sc zm_X11_marksAs [.ref 51, .int (nI f), .int x] S = some (maV v k f x, ntsM r (maN k f) S) := by
  rcases f8 hf with rfl | rfl | rfl | rfl | rfl | rfl | rfl | rfl
  · exact m_ma0 sc hf hr (by omega) hv (by omega)
  · exact m_ma0 sc hf hr (by omega) hv (by omega)
  · exact m_ma0 sc hf hr (by omega) hv (by omega)
  ·
    have hb : zcV sc zm_X11_begins [.ref 51, .int (40 : Int32)] S = some (ntM r 40 S) := m_begins sc hr (by omega) 40
    show zO zgI sc (zg1, (zm_X11_marksAs, zlv zm_X11_marksAs [.ref 51, .int (nI 3), .int x] S), 0, S, [some (.ref 51), some (.int (nI 3)), some (.int x), none], []) = _
    rw [lv_marks S x (by omega), e_X11_marksAs_0, if_pos (by decide), if_pos (Nat.lt_of_lt_of_le (lv_begins S _) (by omega)), hb, Option.bind_some]
    have h0 : zcI sc zm_X11_marksAs [.ref 51, .int (2 : Int32), .int x] (ntM r 40 S) = some (x ^^^ v, ntM (r + 1) 11 (ntM r 40 S)) := m_ma0 sc (f := 2) (by omega) (ntM_r r 40 S) (by omega) ((ntM_n r 40 S (by decide) (by decide)).trans hv) (by omega)
    rw [if_pos (show zlv zm_X11_marksAs [.ref 51, .int (2 : Int32), .int x] (ntM r 40 S) < _ by rw [show zlv zm_X11_marksAs [.ref 51, .int (2 : Int32), .int x] (ntM r 40 S) = _ from lv_marks _ _ (f := 2) (by omega)]; omega), h0, Option.bind_some]; rfl
  ·
    have hb : zcV sc zm_X11_begins [.ref 51, .int (50 : Int32)] S = some (ntM r 50 S) := m_begins sc hr (by omega) 50
    show zO zgI sc (zg1, (zm_X11_marksAs, zlv zm_X11_marksAs [.ref 51, .int (nI 4), .int x] S), 0, S, [some (.ref 51), some (.int (nI 4)), some (.int x), none], []) = _
    rw [lv_marks S x (by omega), e_X11_marksAs_0, if_neg (by decide), if_pos (by decide), if_pos (by decide), if_pos (Nat.lt_of_lt_of_le (lv_begins S _) (by omega)), hb, Option.bind_some]
    have h0 : zcI sc zm_X11_marksAs [.ref 51, .int (1 : Int32), .int x] (ntM r 50 S) = some (x ^^^ v, ntM (r + 1) 11 (ntM r 50 S)) := m_ma0 sc (f := 1) (by omega) (ntM_r r 50 S) (by omega) ((ntM_n r 50 S (by decide) (by decide)).trans hv) (by omega)
    have h9 : (ntM (r + 1) 11 (ntM r 50 S)).1 51 38 = nI k := (ntM_n (r + 1) 11 (ntM r 50 S) (by decide) (by decide)).trans ((ntM_n r 50 S (by decide) (by decide)).trans h5)
    have h1 := m_says sc (S := ntM (r + 1) 11 (ntM r 50 S)) (f := k) (x := (2 : Int32)) hk (ntM_r (r + 1) 11 (ntM r 50 S)) (by omega) ((ntM_n (r + 1) 11 (ntM r 50 S) (by decide) (by decide)).trans ((ntM_n r 50 S (by decide) (by decide)).trans hv))
    rw [if_pos (show zlv zm_X11_marksAs [.ref 51, .int (1 : Int32), .int x] (ntM r 50 S) < _ by rw [show zlv zm_X11_marksAs [.ref 51, .int (1 : Int32), .int x] (ntM r 50 S) = _ from lv_marks _ _ (f := 1) (by omega)]; omega), h0, Option.bind_some]
    dsimp only
    rw [h9, if_pos (show zlv zm_X11_saysAs [.ref 51, .int (nI k), .int (2 : Int32)] (ntM (r + 1) 11 (ntM r 50 S)) < _ by rw [show zlv zm_X11_saysAs [.ref 51, .int (nI k), .int (2 : Int32)] (ntM (r + 1) 11 (ntM r 50 S)) = _ from lv_says _ _ (f := k) (by omega)]; omega), h1, Option.bind_some]; rfl
  ·
    have hb : zcV sc zm_X11_begins [.ref 51, .int (40 : Int32)] S = some (ntM r 40 S) := m_begins sc hr (by omega) 40
    show zO zgI sc (zg1, (zm_X11_marksAs, zlv zm_X11_marksAs [.ref 51, .int (nI 5), .int x] S), 0, S, [some (.ref 51), some (.int (nI 5)), some (.int x), none], []) = _
    rw [lv_marks S x (by omega), e_X11_marksAs_0, if_neg (by decide), if_neg (by decide), if_pos (Nat.lt_of_lt_of_le (lv_begins S _) (by omega)), hb, Option.bind_some]
    have h0 : zcI sc zm_X11_marksAs [.ref 51, .int (2 : Int32), .int x] (ntM r 40 S) = some (x ^^^ v, ntM (r + 1) 11 (ntM r 40 S)) := m_ma0 sc (f := 2) (by omega) (ntM_r r 40 S) (by omega) ((ntM_n r 40 S (by decide) (by decide)).trans hv) (by omega)
    rw [if_pos (show zlv zm_X11_marksAs [.ref 51, .int (2 : Int32), .int x] (ntM r 40 S) < _ by rw [show zlv zm_X11_marksAs [.ref 51, .int (2 : Int32), .int x] (ntM r 40 S) = _ from lv_marks _ _ (f := 2) (by omega)]; omega), h0, Option.bind_some]; rfl
  · exact m_ma0 sc hf hr (by omega) hv (by omega)
  ·
    have hb : zcV sc zm_X11_begins [.ref 51, .int (50 : Int32)] S = some (ntM r 50 S) := m_begins sc hr (by omega) 50
    show zO zgI sc (zg1, (zm_X11_marksAs, zlv zm_X11_marksAs [.ref 51, .int (nI 7), .int x] S), 0, S, [some (.ref 51), some (.int (nI 7)), some (.int x), none], []) = _
    rw [lv_marks S x (by omega), e_X11_marksAs_0, if_neg (by decide), if_pos (by decide), if_neg (by decide), if_neg (by decide), if_pos (Nat.lt_of_lt_of_le (lv_begins S _) (by omega)), hb, Option.bind_some]
    have h0 : zcI sc zm_X11_marksAs [.ref 51, .int (1 : Int32), .int x] (ntM r 50 S) = some (x ^^^ v, ntM (r + 1) 11 (ntM r 50 S)) := m_ma0 sc (f := 1) (by omega) (ntM_r r 50 S) (by omega) ((ntM_n r 50 S (by decide) (by decide)).trans hv) (by omega)
    have h9 : (ntM (r + 1) 11 (ntM r 50 S)).1 51 38 = nI k := (ntM_n (r + 1) 11 (ntM r 50 S) (by decide) (by decide)).trans ((ntM_n r 50 S (by decide) (by decide)).trans h5)
    have h1 := m_says sc (S := ntM (r + 1) 11 (ntM r 50 S)) (f := k) (x := (2 : Int32)) hk (ntM_r (r + 1) 11 (ntM r 50 S)) (by omega) ((ntM_n (r + 1) 11 (ntM r 50 S) (by decide) (by decide)).trans ((ntM_n r 50 S (by decide) (by decide)).trans hv))
    rw [if_pos (show zlv zm_X11_marksAs [.ref 51, .int (1 : Int32), .int x] (ntM r 50 S) < _ by rw [show zlv zm_X11_marksAs [.ref 51, .int (1 : Int32), .int x] (ntM r 50 S) = _ from lv_marks _ _ (f := 1) (by omega)]; omega), h0, Option.bind_some]
    dsimp only
    rw [h9, if_pos (show zlv zm_X11_saysAs [.ref 51, .int (nI k), .int (2 : Int32)] (ntM (r + 1) 11 (ntM r 50 S)) < _ by rw [show zlv zm_X11_saysAs [.ref 51, .int (nI k), .int (2 : Int32)] (ntM (r + 1) 11 (ntM r 50 S)) = _ from lv_says _ _ (f := k) (by omega)]; omega), h1, Option.bind_some]; rfl
theorem m_he0 (sc : zSc) {S : zS} {f k r : Nat} {v x : Int32} (hf : f ≤ 7) (hr : S.1 51 37 = nI r) (hr2 : r < 75000) (hv : S.1 51 39 = v) (hk : k ≤ 7) (h5 : S.1 51 38 = nI k) (hw : f = 0 ∨ f = 1 ∨ f = 4 ∨ f = 6) : zcI sc zm_X11_hearsAs [.ref 51, .int (nI f), .int x] S = some (saV v k x * 2, ntsM r (10 :: saN k) S) := by
  rcases hw with rfl | rfl | rfl | rfl
  ·
    have hb : zcV sc zm_X11_begins [.ref 51, .int (10 : Int32)] S = some (ntM r 10 S) := m_begins sc hr (by omega) 10
    show zO zgI sc (zg1, (zm_X11_hearsAs, zlv zm_X11_hearsAs [.ref 51, .int (nI 0), .int x] S), 0, S, [some (.ref 51), some (.int (nI 0)), some (.int x), none], []) = _
    rw [lv_hears S x (by omega), e_X11_hearsAs_0, if_neg (by decide), if_pos (by decide), if_pos (by decide), if_pos (by decide), if_pos (Nat.lt_of_lt_of_le (lv_begins S _) (by omega)), hb, Option.bind_some]
    have h1 := m_says sc (S := ntM r 10 S) (f := k) (x := x) hk (ntM_r r 10 S) (by omega) ((ntM_n r 10 S (by decide) (by decide)).trans hv)
    rw [ntM_n r 10 S (by decide) (by decide), h5, if_pos (show zlv zm_X11_saysAs [.ref 51, .int (nI k), .int x] (ntM r 10 S) < _ by rw [show zlv zm_X11_saysAs [.ref 51, .int (nI k), .int x] (ntM r 10 S) = _ from lv_says _ _ (f := k) (by omega)]; omega), h1, Option.bind_some]; rfl
  ·
    have hb : zcV sc zm_X11_begins [.ref 51, .int (10 : Int32)] S = some (ntM r 10 S) := m_begins sc hr (by omega) 10
    show zO zgI sc (zg1, (zm_X11_hearsAs, zlv zm_X11_hearsAs [.ref 51, .int (nI 1), .int x] S), 0, S, [some (.ref 51), some (.int (nI 1)), some (.int x), none], []) = _
    rw [lv_hears S x (by omega), e_X11_hearsAs_0, if_neg (by decide), if_pos (by decide), if_pos (by decide), if_pos (by decide), if_pos (Nat.lt_of_lt_of_le (lv_begins S _) (by omega)), hb, Option.bind_some]
    have h1 := m_says sc (S := ntM r 10 S) (f := k) (x := x) hk (ntM_r r 10 S) (by omega) ((ntM_n r 10 S (by decide) (by decide)).trans hv)
    rw [ntM_n r 10 S (by decide) (by decide), h5, if_pos (show zlv zm_X11_saysAs [.ref 51, .int (nI k), .int x] (ntM r 10 S) < _ by rw [show zlv zm_X11_saysAs [.ref 51, .int (nI k), .int x] (ntM r 10 S) = _ from lv_says _ _ (f := k) (by omega)]; omega), h1, Option.bind_some]; rfl
  ·
    have hb : zcV sc zm_X11_begins [.ref 51, .int (10 : Int32)] S = some (ntM r 10 S) := m_begins sc hr (by omega) 10
    show zO zgI sc (zg1, (zm_X11_hearsAs, zlv zm_X11_hearsAs [.ref 51, .int (nI 4), .int x] S), 0, S, [some (.ref 51), some (.int (nI 4)), some (.int x), none], []) = _
    rw [lv_hears S x (by omega), e_X11_hearsAs_0, if_neg (by decide), if_pos (by decide), if_pos (by decide), if_pos (by decide), if_pos (Nat.lt_of_lt_of_le (lv_begins S _) (by omega)), hb, Option.bind_some]
    have h1 := m_says sc (S := ntM r 10 S) (f := k) (x := x) hk (ntM_r r 10 S) (by omega) ((ntM_n r 10 S (by decide) (by decide)).trans hv)
    rw [ntM_n r 10 S (by decide) (by decide), h5, if_pos (show zlv zm_X11_saysAs [.ref 51, .int (nI k), .int x] (ntM r 10 S) < _ by rw [show zlv zm_X11_saysAs [.ref 51, .int (nI k), .int x] (ntM r 10 S) = _ from lv_says _ _ (f := k) (by omega)]; omega), h1, Option.bind_some]; rfl
  ·
    have hb : zcV sc zm_X11_begins [.ref 51, .int (10 : Int32)] S = some (ntM r 10 S) := m_begins sc hr (by omega) 10
    show zO zgI sc (zg1, (zm_X11_hearsAs, zlv zm_X11_hearsAs [.ref 51, .int (nI 6), .int x] S), 0, S, [some (.ref 51), some (.int (nI 6)), some (.int x), none], []) = _
    rw [lv_hears S x (by omega), e_X11_hearsAs_0, if_neg (by decide), if_pos (by decide), if_pos (by decide), if_pos (by decide), if_pos (Nat.lt_of_lt_of_le (lv_begins S _) (by omega)), hb, Option.bind_some]
    have h1 := m_says sc (S := ntM r 10 S) (f := k) (x := x) hk (ntM_r r 10 S) (by omega) ((ntM_n r 10 S (by decide) (by decide)).trans hv)
    rw [ntM_n r 10 S (by decide) (by decide), h5, if_pos (show zlv zm_X11_saysAs [.ref 51, .int (nI k), .int x] (ntM r 10 S) < _ by rw [show zlv zm_X11_saysAs [.ref 51, .int (nI k), .int x] (ntM r 10 S) = _ from lv_says _ _ (f := k) (by omega)]; omega), h1, Option.bind_some]; rfl
theorem m_he2 (sc : zSc) {S : zS} {k r : Nat} {v x : Int32} (hr : S.1 51 37 = nI r) (hr2 : r < 72000) (hv : S.1 51 39 = v) (hk : k ≤ 7) (h5 : S.1 51 38 = nI k) : zcI sc zm_X11_hearsAs [.ref 51, .int (nI 2), .int x] S = some (-(saV v k x * 2), ntsM r (30 :: 10 :: saN k) S) := by
  have hb : zcV sc zm_X11_begins [.ref 51, .int (30 : Int32)] S = some (ntM r 30 S) := m_begins sc hr (by omega) 30
  show zO zgI sc (zg1, (zm_X11_hearsAs, zlv zm_X11_hearsAs [.ref 51, .int (nI 2), .int x] S), 0, S, [some (.ref 51), some (.int (nI 2)), some (.int x), none], []) = _
  rw [lv_hears S x (by omega), e_X11_hearsAs_0, if_neg (by decide), if_pos (by decide), if_neg (by decide), if_pos (Nat.lt_of_lt_of_le (lv_begins S _) (by omega)), hb, Option.bind_some]
  have h0 : zcI sc zm_X11_hearsAs [.ref 51, .int (0 : Int32), .int x] (ntM r 30 S) = some (saV v k x * 2, ntsM (r + 1) (10 :: saN k) (ntM r 30 S)) := m_he0 sc (f := 0) (k := k) (by omega) (ntM_r r 30 S) (by omega) ((ntM_n r 30 S (by decide) (by decide)).trans hv) hk ((ntM_n r 30 S (by decide) (by decide)).trans h5) (by omega)
  rw [if_pos (show zlv zm_X11_hearsAs [.ref 51, .int (0 : Int32), .int x] (ntM r 30 S) < _ by rw [show zlv zm_X11_hearsAs [.ref 51, .int (0 : Int32), .int x] (ntM r 30 S) = _ from lv_hears _ _ (f := 0) (by omega)]; omega), h0, Option.bind_some]; rfl
theorem m_hears (sc : zSc) {S : zS} {f k r : Nat} {v x : Int32} (hf : f ≤ 7) (hr : S.1 51 37 = nI r) (hr2 : r < 70000) (hv : S.1 51 39 = v) (hk : k ≤ 7) (h5 : S.1 51 38 = nI k) : zcI sc zm_X11_hearsAs [.ref 51, .int (nI f), .int x] S = some (heV v k f x, ntsM r (heN k f) S) := by
  rcases f8 hf with rfl | rfl | rfl | rfl | rfl | rfl | rfl | rfl
  · exact m_he0 sc hf hr (by omega) hv hk h5 (by omega)
  · exact m_he0 sc hf hr (by omega) hv hk h5 (by omega)
  · exact m_he2 sc hr (by omega) hv hk h5
  ·
    have hb : zcV sc zm_X11_begins [.ref 51, .int (41 : Int32)] S = some (ntM r 41 S) := m_begins sc hr (by omega) 41
    show zO zgI sc (zg1, (zm_X11_hearsAs, zlv zm_X11_hearsAs [.ref 51, .int (nI 3), .int x] S), 0, S, [some (.ref 51), some (.int (nI 3)), some (.int x), none], []) = _
    rw [lv_hears S x (by omega), e_X11_hearsAs_0, if_pos (by decide), if_pos (Nat.lt_of_lt_of_le (lv_begins S _) (by omega)), hb, Option.bind_some]
    have h0 : zcI sc zm_X11_hearsAs [.ref 51, .int (2 : Int32), .int (x + (1 : Int32))] (ntM r 41 S) = some (-(saV v k (x + 1) * 2), ntsM (r + 1) (30 :: 10 :: saN k) (ntM r 41 S)) := m_he2 sc (k := k) (ntM_r r 41 S) (by omega) ((ntM_n r 41 S (by decide) (by decide)).trans hv) hk ((ntM_n r 41 S (by decide) (by decide)).trans h5)
    rw [if_pos (show zlv zm_X11_hearsAs [.ref 51, .int (2 : Int32), .int (x + (1 : Int32))] (ntM r 41 S) < _ by rw [show zlv zm_X11_hearsAs [.ref 51, .int (2 : Int32), .int (x + (1 : Int32))] (ntM r 41 S) = _ from lv_hears _ _ (f := 2) (by omega)]; omega), h0, Option.bind_some]; rfl
  · exact m_he0 sc hf hr (by omega) hv hk h5 (by omega)
  ·
    have hb : zcV sc zm_X11_begins [.ref 51, .int (41 : Int32)] S = some (ntM r 41 S) := m_begins sc hr (by omega) 41
    show zO zgI sc (zg1, (zm_X11_hearsAs, zlv zm_X11_hearsAs [.ref 51, .int (nI 5), .int x] S), 0, S, [some (.ref 51), some (.int (nI 5)), some (.int x), none], []) = _
    rw [lv_hears S x (by omega), e_X11_hearsAs_0, if_neg (by decide), if_neg (by decide), if_pos (Nat.lt_of_lt_of_le (lv_begins S _) (by omega)), hb, Option.bind_some]
    have h0 : zcI sc zm_X11_hearsAs [.ref 51, .int (2 : Int32), .int (x + (1 : Int32))] (ntM r 41 S) = some (-(saV v k (x + 1) * 2), ntsM (r + 1) (30 :: 10 :: saN k) (ntM r 41 S)) := m_he2 sc (k := k) (ntM_r r 41 S) (by omega) ((ntM_n r 41 S (by decide) (by decide)).trans hv) hk ((ntM_n r 41 S (by decide) (by decide)).trans h5)
    rw [if_pos (show zlv zm_X11_hearsAs [.ref 51, .int (2 : Int32), .int (x + (1 : Int32))] (ntM r 41 S) < _ by rw [show zlv zm_X11_hearsAs [.ref 51, .int (2 : Int32), .int (x + (1 : Int32))] (ntM r 41 S) = _ from lv_hears _ _ (f := 2) (by omega)]; omega), h0, Option.bind_some]; rfl
  · exact m_he0 sc hf hr (by omega) hv hk h5 (by omega)
  ·
    have hb : zcV sc zm_X11_begins [.ref 51, .int (80 : Int32)] S = some (ntM r 80 S) := m_begins sc hr (by omega) 80
    show zO zgI sc (zg1, (zm_X11_hearsAs, zlv zm_X11_hearsAs [.ref 51, .int (nI 7), .int x] S), 0, S, [some (.ref 51), some (.int (nI 7)), some (.int x), none], []) = _
    rw [lv_hears S x (by omega), e_X11_hearsAs_0, if_neg (by decide), if_pos (by decide), if_pos (by decide), if_neg (by decide), if_pos (Nat.lt_of_lt_of_le (lv_begins S _) (by omega)), hb, Option.bind_some]
    have e : ntsM r (heN k 7) S = ntsM (r + 1 + (10 :: saN k).length) (maN k k) (ntsM (r + 1) (10 :: saN k) (ntM r 80 S)) := ntsM_app (10 :: saN k) (maN k k) (r + 1) (ntM r 80 S)
    have l1 : (10 :: saN k).length ≤ 3 := by rw [List.length_cons]; have := saN_len k; omega
    have h0 : zcI sc zm_X11_hearsAs [.ref 51, .int (4 : Int32), .int x] (ntM r 80 S) = some (saV v k x * 2, (ntsM (r + 1) (10 :: saN k) (ntM r 80 S))) := m_he0 sc (f := 4) (k := k) (by omega) (ntM_r r 80 S) (by omega) ((ntM_n r 80 S (by decide) (by decide)).trans hv) hk ((ntM_n r 80 S (by decide) (by decide)).trans h5) (by omega)
    have h9 : (ntsM (r + 1) (10 :: saN k) (ntM r 80 S)).1 51 38 = nI k := (ntsM_n (10 :: saN k) (r + 1) (ntM r 80 S) (by decide) (by decide)).trans ((ntM_n r 80 S (by decide) (by decide)).trans h5)
    have h1 := m_marks sc (S := (ntsM (r + 1) (10 :: saN k) (ntM r 80 S))) (f := k) (k := k) (x := (2 : Int32)) hk (ntsM_r (10 :: saN k) (r + 1) (ntM r 80 S) (ntM_r r 80 S)) (by omega) ((ntsM_n (10 :: saN k) (r + 1) (ntM r 80 S) (by decide) (by decide)).trans ((ntM_n r 80 S (by decide) (by decide)).trans hv)) hk h9
    rw [if_pos (show zlv zm_X11_hearsAs [.ref 51, .int (4 : Int32), .int x] (ntM r 80 S) < _ by rw [show zlv zm_X11_hearsAs [.ref 51, .int (4 : Int32), .int x] (ntM r 80 S) = _ from lv_hears _ _ (f := 4) (by omega)]; omega), h0, Option.bind_some]
    dsimp only
    rw [h9, if_pos (show zlv zm_X11_marksAs [.ref 51, .int (nI k), .int (2 : Int32)] (ntsM (r + 1) (10 :: saN k) (ntM r 80 S)) < _ by rw [show zlv zm_X11_marksAs [.ref 51, .int (nI k), .int (2 : Int32)] (ntsM (r + 1) (10 :: saN k) (ntM r 80 S)) = _ from lv_marks _ _ (f := k) (by omega)]; omega), h1, Option.bind_some, e]; rfl
theorem m_te0 (sc : zSc) {S : zS} {f k r : Nat} {v x : Int32} (hf : f ≤ 7) (hr : S.1 51 37 = nI r) (hr2 : r < 60000) (hv : S.1 51 39 = v) (hk : k ≤ 7) (h5 : S.1 51 38 = nI k) (hw : f = 0 ∨ f = 1 ∨ f = 2 ∨ f = 3 ∨ f = 4 ∨ f = 6) : zcI sc zm_X11_tellsAs [.ref 51, .int (nI f), .int x] S = some (heV v k k x - maV v k k 1, ntsM r (2 :: (heN k k ++ maN k k)) S) := by
  have e : ntsM r (2 :: (heN k k ++ maN k k)) S = ntsM (r + 1 + (heN k k).length) (maN k k) (ntsM (r + 1) (heN k k) (ntM r 2 S)) := ntsM_app (heN k k) (maN k k) (r + 1) (ntM r 2 S)
  have l1 := heN_len k k
  have h0 := m_hears sc (S := ntM r 2 S) (f := k) (k := k) (x := x) hk (ntM_r r 2 S) (by omega) ((ntM_n r 2 S (by decide) (by decide)).trans hv) hk ((ntM_n r 2 S (by decide) (by decide)).trans h5)
  have h9 : (ntsM (r + 1) (heN k k) (ntM r 2 S)).1 51 38 = nI k := (ntsM_n (heN k k) (r + 1) (ntM r 2 S) (by decide) (by decide)).trans ((ntM_n r 2 S (by decide) (by decide)).trans h5)
  have h1 := m_marks sc (S := (ntsM (r + 1) (heN k k) (ntM r 2 S))) (f := k) (k := k) (x := (1 : Int32)) hk (ntsM_r (heN k k) (r + 1) (ntM r 2 S) (ntM_r r 2 S)) (by omega) ((ntsM_n (heN k k) (r + 1) (ntM r 2 S) (by decide) (by decide)).trans ((ntM_n r 2 S (by decide) (by decide)).trans hv)) hk h9
  rw [e]
  rcases hw with rfl | rfl | rfl | rfl | rfl | rfl
  ·
    have hb : zcV sc zm_X11_begins [.ref 51, .int (2 : Int32)] S = some (ntM r 2 S) := m_begins sc hr (by omega) 2
    show zO zgI sc (zg1, (zm_X11_tellsAs, zlv zm_X11_tellsAs [.ref 51, .int (nI 0), .int x] S), 0, S, [some (.ref 51), some (.int (nI 0)), some (.int x), none], []) = _
    rw [lv_tells S x (by omega), e_X11_tellsAs_0, if_pos (by decide), if_pos (by decide), if_pos (Nat.lt_of_lt_of_le (lv_begins S _) (by omega)), hb, Option.bind_some]
    rw [ntM_n r 2 S (by decide) (by decide), h5, if_pos (show zlv zm_X11_hearsAs [.ref 51, .int (nI k), .int x] (ntM r 2 S) < _ by rw [show zlv zm_X11_hearsAs [.ref 51, .int (nI k), .int x] (ntM r 2 S) = _ from lv_hears _ _ (f := k) (by omega)]; omega), h0, Option.bind_some]
    dsimp only
    rw [h9, if_pos (show zlv zm_X11_marksAs [.ref 51, .int (nI k), .int (1 : Int32)] (ntsM (r + 1) (heN k k) (ntM r 2 S)) < _ by rw [show zlv zm_X11_marksAs [.ref 51, .int (nI k), .int (1 : Int32)] (ntsM (r + 1) (heN k k) (ntM r 2 S)) = _ from lv_marks _ _ (f := k) (by omega)]; omega), h1, Option.bind_some]
  ·
    have hb : zcV sc zm_X11_begins [.ref 51, .int (2 : Int32)] S = some (ntM r 2 S) := m_begins sc hr (by omega) 2
    show zO zgI sc (zg1, (zm_X11_tellsAs, zlv zm_X11_tellsAs [.ref 51, .int (nI 1), .int x] S), 0, S, [some (.ref 51), some (.int (nI 1)), some (.int x), none], []) = _
    rw [lv_tells S x (by omega), e_X11_tellsAs_0, if_pos (by decide), if_pos (by decide), if_pos (Nat.lt_of_lt_of_le (lv_begins S _) (by omega)), hb, Option.bind_some]
    rw [ntM_n r 2 S (by decide) (by decide), h5, if_pos (show zlv zm_X11_hearsAs [.ref 51, .int (nI k), .int x] (ntM r 2 S) < _ by rw [show zlv zm_X11_hearsAs [.ref 51, .int (nI k), .int x] (ntM r 2 S) = _ from lv_hears _ _ (f := k) (by omega)]; omega), h0, Option.bind_some]
    dsimp only
    rw [h9, if_pos (show zlv zm_X11_marksAs [.ref 51, .int (nI k), .int (1 : Int32)] (ntsM (r + 1) (heN k k) (ntM r 2 S)) < _ by rw [show zlv zm_X11_marksAs [.ref 51, .int (nI k), .int (1 : Int32)] (ntsM (r + 1) (heN k k) (ntM r 2 S)) = _ from lv_marks _ _ (f := k) (by omega)]; omega), h1, Option.bind_some]
  ·
    have hb : zcV sc zm_X11_begins [.ref 51, .int (2 : Int32)] S = some (ntM r 2 S) := m_begins sc hr (by omega) 2
    show zO zgI sc (zg1, (zm_X11_tellsAs, zlv zm_X11_tellsAs [.ref 51, .int (nI 2), .int x] S), 0, S, [some (.ref 51), some (.int (nI 2)), some (.int x), none], []) = _
    rw [lv_tells S x (by omega), e_X11_tellsAs_0, if_pos (by decide), if_pos (by decide), if_pos (Nat.lt_of_lt_of_le (lv_begins S _) (by omega)), hb, Option.bind_some]
    rw [ntM_n r 2 S (by decide) (by decide), h5, if_pos (show zlv zm_X11_hearsAs [.ref 51, .int (nI k), .int x] (ntM r 2 S) < _ by rw [show zlv zm_X11_hearsAs [.ref 51, .int (nI k), .int x] (ntM r 2 S) = _ from lv_hears _ _ (f := k) (by omega)]; omega), h0, Option.bind_some]
    dsimp only
    rw [h9, if_pos (show zlv zm_X11_marksAs [.ref 51, .int (nI k), .int (1 : Int32)] (ntsM (r + 1) (heN k k) (ntM r 2 S)) < _ by rw [show zlv zm_X11_marksAs [.ref 51, .int (nI k), .int (1 : Int32)] (ntsM (r + 1) (heN k k) (ntM r 2 S)) = _ from lv_marks _ _ (f := k) (by omega)]; omega), h1, Option.bind_some]
  ·
    have hb : zcV sc zm_X11_begins [.ref 51, .int (2 : Int32)] S = some (ntM r 2 S) := m_begins sc hr (by omega) 2
    show zO zgI sc (zg1, (zm_X11_tellsAs, zlv zm_X11_tellsAs [.ref 51, .int (nI 3), .int x] S), 0, S, [some (.ref 51), some (.int (nI 3)), some (.int x), none], []) = _
    rw [lv_tells S x (by omega), e_X11_tellsAs_0, if_pos (by decide), if_pos (by decide), if_pos (Nat.lt_of_lt_of_le (lv_begins S _) (by omega)), hb, Option.bind_some]
    rw [ntM_n r 2 S (by decide) (by decide), h5, if_pos (show zlv zm_X11_hearsAs [.ref 51, .int (nI k), .int x] (ntM r 2 S) < _ by rw [show zlv zm_X11_hearsAs [.ref 51, .int (nI k), .int x] (ntM r 2 S) = _ from lv_hears _ _ (f := k) (by omega)]; omega), h0, Option.bind_some]
    dsimp only
    rw [h9, if_pos (show zlv zm_X11_marksAs [.ref 51, .int (nI k), .int (1 : Int32)] (ntsM (r + 1) (heN k k) (ntM r 2 S)) < _ by rw [show zlv zm_X11_marksAs [.ref 51, .int (nI k), .int (1 : Int32)] (ntsM (r + 1) (heN k k) (ntM r 2 S)) = _ from lv_marks _ _ (f := k) (by omega)]; omega), h1, Option.bind_some]
  ·
    have hb : zcV sc zm_X11_begins [.ref 51, .int (2 : Int32)] S = some (ntM r 2 S) := m_begins sc hr (by omega) 2
    show zO zgI sc (zg1, (zm_X11_tellsAs, zlv zm_X11_tellsAs [.ref 51, .int (nI 4), .int x] S), 0, S, [some (.ref 51), some (.int (nI 4)), some (.int x), none], []) = _
    rw [lv_tells S x (by omega), e_X11_tellsAs_0, if_pos (by decide), if_pos (by decide), if_pos (Nat.lt_of_lt_of_le (lv_begins S _) (by omega)), hb, Option.bind_some]
    rw [ntM_n r 2 S (by decide) (by decide), h5, if_pos (show zlv zm_X11_hearsAs [.ref 51, .int (nI k), .int x] (ntM r 2 S) < _ by rw [show zlv zm_X11_hearsAs [.ref 51, .int (nI k), .int x] (ntM r 2 S) = _ from lv_hears _ _ (f := k) (by omega)]; omega), h0, Option.bind_some]
    dsimp only
    rw [h9, if_pos (show zlv zm_X11_marksAs [.ref 51, .int (nI k), .int (1 : Int32)] (ntsM (r + 1) (heN k k) (ntM r 2 S)) < _ by rw [show zlv zm_X11_marksAs [.ref 51, .int (nI k), .int (1 : Int32)] (ntsM (r + 1) (heN k k) (ntM r 2 S)) = _ from lv_marks _ _ (f := k) (by omega)]; omega), h1, Option.bind_some]
  ·
    have hb : zcV sc zm_X11_begins [.ref 51, .int (2 : Int32)] S = some (ntM r 2 S) := m_begins sc hr (by omega) 2
    show zO zgI sc (zg1, (zm_X11_tellsAs, zlv zm_X11_tellsAs [.ref 51, .int (nI 6), .int x] S), 0, S, [some (.ref 51), some (.int (nI 6)), some (.int x), none], []) = _
    rw [lv_tells S x (by omega), e_X11_tellsAs_0, if_pos (by decide), if_pos (by decide), if_pos (Nat.lt_of_lt_of_le (lv_begins S _) (by omega)), hb, Option.bind_some]
    rw [ntM_n r 2 S (by decide) (by decide), h5, if_pos (show zlv zm_X11_hearsAs [.ref 51, .int (nI k), .int x] (ntM r 2 S) < _ by rw [show zlv zm_X11_hearsAs [.ref 51, .int (nI k), .int x] (ntM r 2 S) = _ from lv_hears _ _ (f := k) (by omega)]; omega), h0, Option.bind_some]
    dsimp only
    rw [h9, if_pos (show zlv zm_X11_marksAs [.ref 51, .int (nI k), .int (1 : Int32)] (ntsM (r + 1) (heN k k) (ntM r 2 S)) < _ by rw [show zlv zm_X11_marksAs [.ref 51, .int (nI k), .int (1 : Int32)] (ntsM (r + 1) (heN k k) (ntM r 2 S)) = _ from lv_marks _ _ (f := k) (by omega)]; omega), h1, Option.bind_some]
theorem m_tells (sc : zSc) {S : zS} {f k r : Nat} {v x : Int32} (hf : f ≤ 7) (hr : S.1 51 37 = nI r) (hr2 : r < 50000) (hv : S.1 51 39 = v) (hk : k ≤ 7) (h5 : S.1 51 38 = nI k) : zcI sc zm_X11_tellsAs [.ref 51, .int (nI f), .int x] S = some (teV v k f x, ntsM r (teN k f) S) := by
  rcases f8 hf with rfl | rfl | rfl | rfl | rfl | rfl | rfl | rfl
  · exact m_te0 sc hf hr (by omega) hv hk h5 (by omega)
  · exact m_te0 sc hf hr (by omega) hv hk h5 (by omega)
  · exact m_te0 sc hf hr (by omega) hv hk h5 (by omega)
  · exact m_te0 sc hf hr (by omega) hv hk h5 (by omega)
  · exact m_te0 sc hf hr (by omega) hv hk h5 (by omega)
  ·
    have hb : zcV sc zm_X11_begins [.ref 51, .int (60 : Int32)] S = some (ntM r 60 S) := m_begins sc hr (by omega) 60
    show zO zgI sc (zg1, (zm_X11_tellsAs, zlv zm_X11_tellsAs [.ref 51, .int (nI 5), .int x] S), 0, S, [some (.ref 51), some (.int (nI 5)), some (.int x), none], []) = _
    rw [lv_tells S x (by omega), e_X11_tellsAs_0, if_neg (by decide), if_pos (Nat.lt_of_lt_of_le (lv_begins S _) (by omega)), hb, Option.bind_some]
    have h0 : zcI sc zm_X11_tellsAs [.ref 51, .int (3 : Int32), .int x] (ntM r 60 S) = some (heV v k k x - maV v k k 1, ntsM (r + 1) (2 :: (heN k k ++ maN k k)) (ntM r 60 S)) := m_te0 sc (f := 3) (k := k) (by omega) (ntM_r r 60 S) (by omega) ((ntM_n r 60 S (by decide) (by decide)).trans hv) hk ((ntM_n r 60 S (by decide) (by decide)).trans h5) (by omega)
    rw [if_pos (show zlv zm_X11_tellsAs [.ref 51, .int (3 : Int32), .int x] (ntM r 60 S) < _ by rw [show zlv zm_X11_tellsAs [.ref 51, .int (3 : Int32), .int x] (ntM r 60 S) = _ from lv_tells _ _ (f := 3) (by omega)]; omega), h0, Option.bind_some]; rfl
  · exact m_te0 sc hf hr (by omega) hv hk h5 (by omega)
  ·
    have hb : zcV sc zm_X11_begins [.ref 51, .int (81 : Int32)] S = some (ntM r 81 S) := m_begins sc hr (by omega) 81
    show zO zgI sc (zg1, (zm_X11_tellsAs, zlv zm_X11_tellsAs [.ref 51, .int (nI 7), .int x] S), 0, S, [some (.ref 51), some (.int (nI 7)), some (.int x), none], []) = _
    rw [lv_tells S x (by omega), e_X11_tellsAs_0, if_pos (by decide), if_neg (by decide), if_pos (Nat.lt_of_lt_of_le (lv_begins S _) (by omega)), hb, Option.bind_some]
    have h0 : zcI sc zm_X11_tellsAs [.ref 51, .int (4 : Int32), .int x] (ntM r 81 S) = some (heV v k k x - maV v k k 1, ntsM (r + 1) (2 :: (heN k k ++ maN k k)) (ntM r 81 S)) := m_te0 sc (f := 4) (k := k) (by omega) (ntM_r r 81 S) (by omega) ((ntM_n r 81 S (by decide) (by decide)).trans hv) hk ((ntM_n r 81 S (by decide) (by decide)).trans h5) (by omega)
    rw [if_pos (show zlv zm_X11_tellsAs [.ref 51, .int (4 : Int32), .int x] (ntM r 81 S) < _ by rw [show zlv zm_X11_tellsAs [.ref 51, .int (4 : Int32), .int x] (ntM r 81 S) = _ from lv_tells _ _ (f := 4) (by omega)]; omega), h0, Option.bind_some]; rfl
