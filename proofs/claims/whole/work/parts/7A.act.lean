/-! ===== acts ===== -/
def ntC (r a : Nat) (S : zS) : zS := if 24 ≤ r then zw1 S 35 3 (nI (r + 1)) else zw1 (zw1 S 37 r (nI a)) 35 3 (nI (r + 1))
def ntM (r a : Nat) (S : zS) : zS := if 24 ≤ r then zw1 S 51 37 (nI (r + 1)) else zw1 (zw1 S 69 r (nI a)) 51 37 (nI (r + 1))
def ntsC : Nat → List Nat → zS → zS
  | _, [], S => S
  | r, a :: l, S => ntsC (r + 1) l (ntC r a S)
def ntsM : Nat → List Nat → zS → zS
  | _, [], S => S
  | r, a :: l, S => ntsM (r + 1) l (ntM r a S)
theorem ntsC_app : ∀ (l m : List Nat) (r : Nat) (S : zS), ntsC r (l ++ m) S = ntsC (r + l.length) m (ntsC r l S)
  | [], m, r, S => rfl
  | a :: l, m, r, S => by
    show ntsC (r + 1) (l ++ m) (ntC r a S) = ntsC (r + (l.length + 1)) m (ntsC (r + 1) l (ntC r a S))
    rw [ntsC_app l m (r + 1), show r + 1 + l.length = r + (l.length + 1) by omega]
theorem ntsM_app : ∀ (l m : List Nat) (r : Nat) (S : zS), ntsM r (l ++ m) S = ntsM (r + l.length) m (ntsM r l S)
  | [], m, r, S => rfl
  | a :: l, m, r, S => by
    show ntsM (r + 1) (l ++ m) (ntM r a S) = ntsM (r + (l.length + 1)) m (ntsM (r + 1) l (ntM r a S))
    rw [ntsM_app l m (r + 1), show r + 1 + l.length = r + (l.length + 1) by omega]
theorem ntC_n (r a : Nat) (S : zS) {c i : Nat} (h : c ≠ 37) (h2 : ¬ (c = 35 ∧ i = 3)) : (ntC r a S).1 c i = S.1 c i := by
  unfold ntC
  split
  · rw [zw1_n _ _ h2]
  · rw [zw1_n _ _ h2, zw1_n _ _ (fun q => h q.1)]
theorem ntM_n (r a : Nat) (S : zS) {c i : Nat} (h : c ≠ 69) (h2 : ¬ (c = 51 ∧ i = 37)) : (ntM r a S).1 c i = S.1 c i := by
  unfold ntM
  split
  · rw [zw1_n _ _ h2]
  · rw [zw1_n _ _ h2, zw1_n _ _ (fun q => h q.1)]
theorem ntC_r (r a : Nat) (S : zS) : (ntC r a S).1 35 3 = nI (r + 1) := by unfold ntC; split <;> rw [zw1_y]
theorem ntM_r (r a : Nat) (S : zS) : (ntM r a S).1 51 37 = nI (r + 1) := by unfold ntM; split <;> rw [zw1_y]
theorem ntC_l (r a : Nat) (S : zS) : (ntC r a S).2 = S.2 := by unfold ntC; split <;> rfl
theorem ntM_l (r a : Nat) (S : zS) : (ntM r a S).2 = S.2 := by unfold ntM; split <;> rfl
theorem ntsC_n : ∀ (l : List Nat) (r : Nat) (S : zS) {c i : Nat}, c ≠ 37 → ¬ (c = 35 ∧ i = 3) → (ntsC r l S).1 c i = S.1 c i
  | [], _, _, _, _, _, _ => rfl
  | a :: l, r, S, _, _, h, h2 => (ntsC_n l (r + 1) (ntC r a S) h h2).trans (ntC_n r a S h h2)
theorem ntsM_n : ∀ (l : List Nat) (r : Nat) (S : zS) {c i : Nat}, c ≠ 69 → ¬ (c = 51 ∧ i = 37) → (ntsM r l S).1 c i = S.1 c i
  | [], _, _, _, _, _, _ => rfl
  | a :: l, r, S, _, _, h, h2 => (ntsM_n l (r + 1) (ntM r a S) h h2).trans (ntM_n r a S h h2)
theorem ntsC_r : ∀ (l : List Nat) (r : Nat) (S : zS), S.1 35 3 = nI r → (ntsC r l S).1 35 3 = nI (r + l.length)
  | [], _, _, h => h
  | a :: l, r, S, _ => by
    rw [show r + (a :: l).length = r + 1 + l.length by rw [List.length_cons]; omega]
    exact ntsC_r l (r + 1) (ntC r a S) (ntC_r r a S)
theorem ntsM_r : ∀ (l : List Nat) (r : Nat) (S : zS), S.1 51 37 = nI r → (ntsM r l S).1 51 37 = nI (r + l.length)
  | [], _, _, h => h
  | a :: l, r, S, _ => by
    rw [show r + (a :: l).length = r + 1 + l.length by rw [List.length_cons]; omega]
    exact ntsM_r l (r + 1) (ntM r a S) (ntM_r r a S)
theorem ntsC_l : ∀ (l : List Nat) (r : Nat) (S : zS), (ntsC r l S).2 = S.2
  | [], _, _ => rfl
  | a :: l, r, S => (ntsC_l l (r + 1) (ntC r a S)).trans (ntC_l r a S)
theorem ntsM_l : ∀ (l : List Nat) (r : Nat) (S : zS), (ntsM r l S).2 = S.2
  | [], _, _ => rfl
  | a :: l, r, S => (ntsM_l l (r + 1) (ntM r a S)).trans (ntM_l r a S)
/-- both notes stay alike -/
theorem nts_eq : ∀ (l : List Nat) (r : Nat) (A B : zS), (∀ i, i < 24 → i < r → A.1 37 i = B.1 69 i) → ∀ i, i < 24 → i < r + l.length → (ntsC r l A).1 37 i = (ntsM r l B).1 69 i
  | [], r, A, B, h, i, h1, h2 => h i h1 h2
  | a :: l, r, A, B, h, i, h1, h2 => by
    refine nts_eq l (r + 1) (ntC r a A) (ntM r a B) (fun j k1 k2 => ?_) i h1 (by rw [List.length_cons] at h2; omega)
    unfold ntC ntM
    by_cases c : 24 ≤ r
    · rw [if_pos c, if_pos c, zw1_n _ _ (by omega), zw1_n _ _ (by omega)]; exact h j k1 (by omega)
    · rw [if_neg c, if_neg c, zw1_n _ _ (show ¬ (37 = 35 ∧ j = 3) by omega), zw1_r, zw1_n _ _ (show ¬ (69 = 51 ∧ j = 37) by omega), zw1_r]
      by_cases e : j = r
      · rw [if_pos ⟨rfl, e⟩, if_pos ⟨rfl, e⟩]
      · rw [if_neg (fun q => e q.2), if_neg (fun q => e q.2)]; exact h j k1 (by omega)
theorem c_note (sc : zSc) {r : Nat} {S : zS} (h : S.1 35 3 = nI r) (hr : r < 100000) (a : Nat) : zcV sc zm_X9_note [.ref 35, .int (nI a)] S = some (ntC r a S) := by
  rw [c_X9_note, h, show (24 : Int32) = nI 24 from rfl, n_s1]
  unfold ntC
  by_cases c : 24 ≤ r
  · rw [if_pos (by rw [n_le (by omega) (by omega)]; exact c), if_pos c]
  · rw [if_neg (by rw [n_le (by omega) (by omega)]; exact c), if_neg (by first | (rw [n_ob (by omega)]; omega) | (rw [n_obb (by omega)]; omega)), n_cl (by omega), if_neg c]
theorem m_begins (sc : zSc) {r : Nat} {S : zS} (h : S.1 51 37 = nI r) (hr : r < 100000) (a : Nat) : zcV sc zm_X11_begins [.ref 51, .int (nI a)] S = some (ntM r a S) := by
  rw [c_X11_begins, h, show (24 : Int32) = nI 24 from rfl, n_s1]
  unfold ntM
  by_cases c : 24 ≤ r
  · rw [if_pos (by rw [n_le (by omega) (by omega)]; exact c), if_pos c]
  · rw [if_neg (by rw [n_le (by omega) (by omega)]; exact c), if_neg (by first | (rw [n_ob (by omega)]; omega) | (rw [n_obb (by omega)]; omega)), n_cl (by omega), if_neg c]
/-! whose body, in the class -/
def bodN (i : Nat) : Nat := [0, 10, 11, 0, 20, 0, 0, 0, 0, 30, 0, 0, 0, 41, 40, 0, 0, 0, 50, 0, 0, 0, 0, 60, 70, 0, 0, 0, 0, 80, 0, 81, 1, 0, 0, 2].getD i 0
theorem zsf3 : ∀ i, i < 36 → zsf 3 i = nI (bodN i) := by decide +kernel
def whb : Nat → Nat → Nat → Nat
  | 0, _, _ => 9
  | n + 1, a, f => if 8 ≤ f then (if bodN (4 * f + a) = 0 then 9 else f) else if bodN (4 * f + a) = 0 then whb n a (abvC f) else f
theorem c_whose_go (sc : zSc) (x1 : Int32) {a : Nat} (ha : a < 4) (S : zS) : ∀ (n f : Nat), n ≤ 9 → f ≤ 8 → whb n a f < 9 → zO zgI sc (zg1, (zm_X9_whoseBody, 2), 4, S, [some (.int (nI a)), some (.int x1), some (.int (nI f)), some (.int (nI (9 - n)))], []) = some (nI (whb n a f), S)
  | 0, f, hn, hf, hw => absurd hw (by unfold whb; omega)
  | n + 1, f, hn, hf, hw => by
    have e : whb (n + 1) a f = if 8 ≤ f then (if bodN (4 * f + a) = 0 then 9 else f) else if bodN (4 * f + a) = 0 then whb n a (abvC f) else f := rfl
    have e4 : nI f * (4 : Int32) + nI a = nI (4 * f + a) := by rw [show nI f * (4 : Int32) = nI (f * 4) from zn_mul f 4, zn_add, Nat.mul_comm]
    have hb : bodN (4 * f + a) < 100 := by
      have : ∀ i, i < 36 → bodN i < 100 := by decide
      exact this _ (by omega)
    rw [e_X9_whoseBody_4, if_neg (by rw [show (8 : Int32) = nI 8 from rfl, n_lt (by omega) (by omega)]; omega), s_w8, Option.bind_some]
    dsimp only
    rw [zb_t (by unfold rg; rw [zi_nI (by omega)]; omega), if_neg (by decide), e4, if_neg (by first | (rw [n_ob (by omega)]; omega) | (rw [n_obb (by omega)]; omega)), n_cl (by omega), zsf3 _ (by omega), ifc (n_eq0 (a := bodN (4 * f + a)) (by omega))]
    rw [e] at hw ⊢
    by_cases c : bodN (4 * f + a) = 0
    · by_cases c8 : 8 ≤ f
      · rw [if_pos c8, if_pos c] at hw; exact absurd hw (by omega)
      rw [if_neg c8, if_pos c] at hw
      rw [if_pos c, if_neg c8, if_neg (by first | (rw [n_ob (by omega)]; omega) | (rw [n_obb (by omega)]; omega)), n_cl (by omega), zsf2 f (by omega), n_s1, show 9 - (n + 1) + 1 = 9 - n by omega, c_whose_go sc x1 ha S n (abvC f) (by omega) (abvC_le f) hw, if_pos c]
    · rw [if_neg c, if_neg c, if_neg c]
      split <;> rfl
theorem lv_run (S : zS) (a b c : Int32) {e : Nat} (he : e < 2147483648) : zlv zm_X9_run [.ref 35, .int a, .int b, .int c, .int (nI e)] S = 8 + (42 - e) := by
  show 8 + (42 - (nI e).toNatClampNeg) = _
  rw [n_cl he]
theorem lv_whose (S : zS) (a b : Int32) : zlv zm_X9_whoseBody [.int a, .int b] S < 8 := by show zl0 zm_X9_whoseBody < 8; decide
theorem lv_note (S : zS) (a : Int32) : zlv zm_X9_note [.ref 35, .int a] S < 8 := by show zl0 zm_X9_note < 8; decide
theorem lv_begins (S : zS) (a : Int32) : zlv zm_X11_begins [.ref 51, .int a] S < 8 := by show zl0 zm_X11_begins < 8; decide
set_option maxHeartbeats 1000000 in
theorem c_run0 (sc : zSc) {S : zS} {a f w N r dp : Nat} {A x : Int32} (ha : a < 4) (hf : f ≤ 8) (hw : whb 9 a f = w) (hw8 : w ≤ 8) (hN : bodN (4 * w + a) = N) (hA : zsf 2 w = A) (hr : S.1 35 3 = nI r) (hr2 : r < 100000) (hd : dp ≤ 40) :
    zcI sc zm_X9_run [.ref 35, .int (nI a), .int (nI f), .int x, .int (nI dp)] S = (if nI N = (1 : Int32) then some (x + ((ntC r N S).1 35 4), (ntC r N S)) else (if nI N = (2 : Int32) then (if zlv zm_X9_run [.ref 35, .int (1 : Int32), .int ((ntC r N S).1 35 5), .int x, .int (nI (dp + 1))] (ntC r N S) < 8 + (42 - dp) then (zcI sc zm_X9_run [.ref 35, .int (1 : Int32), .int ((ntC r N S).1 35 5), .int x, .int (nI (dp + 1))] (ntC r N S)).bind (fun q3 => (if zlv zm_X9_run [.ref 35, .int (2 : Int32), .int (q3.2.1 35 5), .int (1 : Int32), .int (nI (dp + 1))] q3.2 < 8 + (42 - dp) then (zcI sc zm_X9_run [.ref 35, .int (2 : Int32), .int (q3.2.1 35 5), .int (1 : Int32), .int (nI (dp + 1))] q3.2).bind (fun q4 => some (q3.1 - q4.1, q4.2)) else none)) else none) else (if nI N = (10 : Int32) then (if zlv zm_X9_run [.ref 35, .int (0 : Int32), .int ((ntC r N S).1 35 5), .int x, .int (nI (dp + 1))] (ntC r N S) < 8 + (42 - dp) then (zcI sc zm_X9_run [.ref 35, .int (0 : Int32), .int ((ntC r N S).1 35 5), .int x, .int (nI (dp + 1))] (ntC r N S)).bind (fun q5 => some (q5.1 * (2 : Int32), q5.2)) else none) else (if nI N = (11 : Int32) then some (x ^^^ ((ntC r N S).1 35 4), (ntC r N S)) else (if nI N = (20 : Int32) then (if zlv zm_X9_run [.ref 35, .int (0 : Int32), .int (A), .int x, .int (nI (dp + 1))] (ntC r N S) < 8 + (42 - dp) then (zcI sc zm_X9_run [.ref 35, .int (0 : Int32), .int (A), .int x, .int (nI (dp + 1))] (ntC r N S)).bind (fun q6 => some (q6.1 + (3 : Int32), q6.2)) else none) else (if nI N = (30 : Int32) then (if zlv zm_X9_run [.ref 35, .int (1 : Int32), .int (A), .int x, .int (nI (dp + 1))] (ntC r N S) < 8 + (42 - dp) then (zcI sc zm_X9_run [.ref 35, .int (1 : Int32), .int (A), .int x, .int (nI (dp + 1))] (ntC r N S)).bind (fun q7 => some (-q7.1, q7.2)) else none) else (if nI N = (40 : Int32) then (if zlv zm_X9_run [.ref 35, .int (2 : Int32), .int (A), .int x, .int (nI (dp + 1))] (ntC r N S) < 8 + (42 - dp) then (zcI sc zm_X9_run [.ref 35, .int (2 : Int32), .int (A), .int x, .int (nI (dp + 1))] (ntC r N S)).bind (fun q8 => some (q8.1 * (3 : Int32), q8.2)) else none) else (if nI N = (41 : Int32) then (if zlv zm_X9_run [.ref 35, .int (1 : Int32), .int (A), .int (x + (1 : Int32)), .int (nI (dp + 1))] (ntC r N S) < 8 + (42 - dp) then (zcI sc zm_X9_run [.ref 35, .int (1 : Int32), .int (A), .int (x + (1 : Int32)), .int (nI (dp + 1))] (ntC r N S)).bind (fun q9 => some (q9.1, q9.2)) else none) else (if nI N = (50 : Int32) then (if zlv zm_X9_run [.ref 35, .int (2 : Int32), .int (A), .int x, .int (nI (dp + 1))] (ntC r N S) < 8 + (42 - dp) then (zcI sc zm_X9_run [.ref 35, .int (2 : Int32), .int (A), .int x, .int (nI (dp + 1))] (ntC r N S)).bind (fun q10 => (if zlv zm_X9_run [.ref 35, .int (0 : Int32), .int (q10.2.1 35 5), .int (2 : Int32), .int (nI (dp + 1))] q10.2 < 8 + (42 - dp) then (zcI sc zm_X9_run [.ref 35, .int (0 : Int32), .int (q10.2.1 35 5), .int (2 : Int32), .int (nI (dp + 1))] q10.2).bind (fun q11 => some (q10.1 - q11.1, q11.2)) else none)) else none) else (if nI N = (60 : Int32) then (if zlv zm_X9_run [.ref 35, .int (3 : Int32), .int (A), .int x, .int (nI (dp + 1))] (ntC r N S) < 8 + (42 - dp) then (zcI sc zm_X9_run [.ref 35, .int (3 : Int32), .int (A), .int x, .int (nI (dp + 1))] (ntC r N S)).bind (fun q12 => some (q12.1 ^^^ (5 : Int32), q12.2)) else none) else (if nI N = (70 : Int32) then (if zlv zm_X9_run [.ref 35, .int (0 : Int32), .int (A), .int x, .int (nI (dp + 1))] (ntC r N S) < 8 + (42 - dp) then (zcI sc zm_X9_run [.ref 35, .int (0 : Int32), .int (A), .int x, .int (nI (dp + 1))] (ntC r N S)).bind (fun q13 => some (q13.1 * (2 : Int32), q13.2)) else none) else (if nI N = (80 : Int32) then (if zlv zm_X9_run [.ref 35, .int (1 : Int32), .int (A), .int x, .int (nI (dp + 1))] (ntC r N S) < 8 + (42 - dp) then (zcI sc zm_X9_run [.ref 35, .int (1 : Int32), .int (A), .int x, .int (nI (dp + 1))] (ntC r N S)).bind (fun q14 => (if zlv zm_X9_run [.ref 35, .int (2 : Int32), .int (q14.2.1 35 5), .int (2 : Int32), .int (nI (dp + 1))] q14.2 < 8 + (42 - dp) then (zcI sc zm_X9_run [.ref 35, .int (2 : Int32), .int (q14.2.1 35 5), .int (2 : Int32), .int (nI (dp + 1))] q14.2).bind (fun q15 => some (q14.1 + q15.1, q15.2)) else none)) else none) else (if nI N = (81 : Int32) then (if zlv zm_X9_run [.ref 35, .int (3 : Int32), .int (A), .int x, .int (nI (dp + 1))] (ntC r N S) < 8 + (42 - dp) then (zcI sc zm_X9_run [.ref 35, .int (3 : Int32), .int (A), .int x, .int (nI (dp + 1))] (ntC r N S)).bind (fun q16 => some (q16.1 - (1 : Int32), q16.2)) else none) else some ((0 : Int32), (ntC r N S))))))))))))))) := by
  have e1 : zcI sc zm_X9_whoseBody [.int (nI a), .int (nI f)] S = some (nI w, S) := by
    rw [c_X9_whoseBody, ← hw]
    exact c_whose_go sc (nI f) ha S 9 f (by omega) hf (by omega)
  have e4 : nI w * (4 : Int32) + nI a = nI (4 * w + a) := by rw [show nI w * (4 : Int32) = nI (w * 4) from zn_mul w 4, zn_add, Nat.mul_comm]
  show zO zgI sc (zg1, (zm_X9_run, zlv zm_X9_run [.ref 35, .int (nI a), .int (nI f), .int x, .int (nI dp)] S), 0, S, [some (.ref 35), some (.int (nI a)), some (.int (nI f)), some (.int x), some (.int (nI dp)), none, none, none, none], []) = _
  rw [lv_run S _ _ _ (by omega), e_X9_run_0, if_pos (Nat.lt_of_lt_of_le (lv_whose S _ _) (by omega)), e1, Option.bind_some]
  dsimp only
  rw [if_neg (by rw [n_lt0 (by omega)]; exact id), if_pos (by rw [show (40 : Int32) = nI 40 from rfl, n_le (by omega) (by omega)]; exact hd), e4, if_neg (by first | (rw [n_ob (by omega)]; omega) | (rw [n_obb (by omega)]; omega)), if_neg (by first | (rw [n_ob (by omega)]; omega) | (rw [n_obb (by omega)]; omega)), n_cl (a := 4 * w + a) (by omega), n_cl (a := w) (by omega), zsf3 _ (by omega), hN, if_pos (Nat.lt_of_lt_of_le (lv_note S _) (by omega)), c_note sc hr hr2, Option.bind_some, hA, n_s1]

theorem r_1 (sc : zSc) {S : zS} {a f w r dp : Nat} {x : Int32} (ha : a < 4) (hf : f ≤ 8) (hw : whb 9 a f = w) (hw8 : w ≤ 8) (hN : bodN (4 * w + a) = 1) (hr : S.1 35 3 = nI r) (hr2 : r < 100000) (hd : dp ≤ 40) {v : Int32} (hv : S.1 35 4 = v) : zcI sc zm_X9_run [.ref 35, .int (nI a), .int (nI f), .int x, .int (nI dp)] S = some (x + v, ntC r 1 S) := by
  rw [c_run0 sc ha hf hw hw8 hN rfl hr hr2 hd, if_pos (by decide)]
  rw [ntC_n r 1 S (by decide) (by decide), hv]
theorem r_11 (sc : zSc) {S : zS} {a f w r dp : Nat} {x : Int32} (ha : a < 4) (hf : f ≤ 8) (hw : whb 9 a f = w) (hw8 : w ≤ 8) (hN : bodN (4 * w + a) = 11) (hr : S.1 35 3 = nI r) (hr2 : r < 100000) (hd : dp ≤ 40) {v : Int32} (hv : S.1 35 4 = v) : zcI sc zm_X9_run [.ref 35, .int (nI a), .int (nI f), .int x, .int (nI dp)] S = some (x ^^^ v, ntC r 11 S) := by
  rw [c_run0 sc ha hf hw hw8 hN rfl hr hr2 hd, if_neg (by decide), if_neg (by decide), if_neg (by decide), if_pos (by decide)]
  rw [ntC_n r 11 S (by decide) (by decide), hv]
theorem r_10 (sc : zSc) {S : zS} {a f w r dp : Nat} {x : Int32} (ha : a < 4) (hf : f ≤ 8) (hw : whb 9 a f = w) (hw8 : w ≤ 8) (hN : bodN (4 * w + a) = 10) (hr : S.1 35 3 = nI r) (hr2 : r < 100000) (hd : dp ≤ 40) {b g : Int32} {T : zS} (hg : S.1 35 5 = g) (h1 : zcI sc zm_X9_run [.ref 35, .int (0 : Int32), .int g, .int x, .int (nI (dp + 1))] (ntC r 10 S) = some (b, T)) : zcI sc zm_X9_run [.ref 35, .int (nI a), .int (nI f), .int x, .int (nI dp)] S = some (b * (2 : Int32), T) := by
  rw [c_run0 sc ha hf hw hw8 hN rfl hr hr2 hd, if_neg (by decide), if_neg (by decide), if_pos (by decide)]
  rw [ntC_n r 10 S (by decide) (by decide), hg, if_pos (by rw [lv_run _ _ _ _ (by omega)]; omega), h1, Option.bind_some]
theorem r_20 (sc : zSc) {S : zS} {a f w r dp : Nat} {x : Int32} (ha : a < 4) (hf : f ≤ 8) (hw : whb 9 a f = w) (hw8 : w ≤ 8) (hN : bodN (4 * w + a) = 20) (hr : S.1 35 3 = nI r) (hr2 : r < 100000) (hd : dp ≤ 40) {b g : Int32} {T : zS} (hg : zsf 2 w = g) (h1 : zcI sc zm_X9_run [.ref 35, .int (0 : Int32), .int g, .int x, .int (nI (dp + 1))] (ntC r 20 S) = some (b, T)) : zcI sc zm_X9_run [.ref 35, .int (nI a), .int (nI f), .int x, .int (nI dp)] S = some (b + (3 : Int32), T) := by
  rw [c_run0 sc ha hf hw hw8 hN rfl hr hr2 hd, if_neg (by decide), if_neg (by decide), if_neg (by decide), if_neg (by decide), if_pos (by decide)]
  rw [hg, if_pos (by rw [lv_run _ _ _ _ (by omega)]; omega), h1, Option.bind_some]
theorem r_30 (sc : zSc) {S : zS} {a f w r dp : Nat} {x : Int32} (ha : a < 4) (hf : f ≤ 8) (hw : whb 9 a f = w) (hw8 : w ≤ 8) (hN : bodN (4 * w + a) = 30) (hr : S.1 35 3 = nI r) (hr2 : r < 100000) (hd : dp ≤ 40) {b g : Int32} {T : zS} (hg : zsf 2 w = g) (h1 : zcI sc zm_X9_run [.ref 35, .int (1 : Int32), .int g, .int x, .int (nI (dp + 1))] (ntC r 30 S) = some (b, T)) : zcI sc zm_X9_run [.ref 35, .int (nI a), .int (nI f), .int x, .int (nI dp)] S = some (-b, T) := by
  rw [c_run0 sc ha hf hw hw8 hN rfl hr hr2 hd, if_neg (by decide), if_neg (by decide), if_neg (by decide), if_neg (by decide), if_neg (by decide), if_pos (by decide)]
  rw [hg, if_pos (by rw [lv_run _ _ _ _ (by omega)]; omega), h1, Option.bind_some]
theorem r_40 (sc : zSc) {S : zS} {a f w r dp : Nat} {x : Int32} (ha : a < 4) (hf : f ≤ 8) (hw : whb 9 a f = w) (hw8 : w ≤ 8) (hN : bodN (4 * w + a) = 40) (hr : S.1 35 3 = nI r) (hr2 : r < 100000) (hd : dp ≤ 40) {b g : Int32} {T : zS} (hg : zsf 2 w = g) (h1 : zcI sc zm_X9_run [.ref 35, .int (2 : Int32), .int g, .int x, .int (nI (dp + 1))] (ntC r 40 S) = some (b, T)) : zcI sc zm_X9_run [.ref 35, .int (nI a), .int (nI f), .int x, .int (nI dp)] S = some (b * (3 : Int32), T) := by
  rw [c_run0 sc ha hf hw hw8 hN rfl hr hr2 hd, if_neg (by decide), if_neg (by decide), if_neg (by decide), if_neg (by decide), if_neg (by decide), if_neg (by decide), if_pos (by decide)]
  rw [hg, if_pos (by rw [lv_run _ _ _ _ (by omega)]; omega), h1, Option.bind_some]
theorem r_41 (sc : zSc) {S : zS} {a f w r dp : Nat} {x : Int32} (ha : a < 4) (hf : f ≤ 8) (hw : whb 9 a f = w) (hw8 : w ≤ 8) (hN : bodN (4 * w + a) = 41) (hr : S.1 35 3 = nI r) (hr2 : r < 100000) (hd : dp ≤ 40) {b g : Int32} {T : zS} (hg : zsf 2 w = g) (h1 : zcI sc zm_X9_run [.ref 35, .int (1 : Int32), .int g, .int (x + (1 : Int32)), .int (nI (dp + 1))] (ntC r 41 S) = some (b, T)) : zcI sc zm_X9_run [.ref 35, .int (nI a), .int (nI f), .int x, .int (nI dp)] S = some (b, T) := by
  rw [c_run0 sc ha hf hw hw8 hN rfl hr hr2 hd, if_neg (by decide), if_neg (by decide), if_neg (by decide), if_neg (by decide), if_neg (by decide), if_neg (by decide), if_neg (by decide), if_pos (by decide)]
  rw [hg, if_pos (by rw [lv_run _ _ _ _ (by omega)]; omega), h1, Option.bind_some]
theorem r_60 (sc : zSc) {S : zS} {a f w r dp : Nat} {x : Int32} (ha : a < 4) (hf : f ≤ 8) (hw : whb 9 a f = w) (hw8 : w ≤ 8) (hN : bodN (4 * w + a) = 60) (hr : S.1 35 3 = nI r) (hr2 : r < 100000) (hd : dp ≤ 40) {b g : Int32} {T : zS} (hg : zsf 2 w = g) (h1 : zcI sc zm_X9_run [.ref 35, .int (3 : Int32), .int g, .int x, .int (nI (dp + 1))] (ntC r 60 S) = some (b, T)) : zcI sc zm_X9_run [.ref 35, .int (nI a), .int (nI f), .int x, .int (nI dp)] S = some (b ^^^ (5 : Int32), T) := by
  rw [c_run0 sc ha hf hw hw8 hN rfl hr hr2 hd, if_neg (by decide), if_neg (by decide), if_neg (by decide), if_neg (by decide), if_neg (by decide), if_neg (by decide), if_neg (by decide), if_neg (by decide), if_neg (by decide), if_pos (by decide)]
  rw [hg, if_pos (by rw [lv_run _ _ _ _ (by omega)]; omega), h1, Option.bind_some]
theorem r_70 (sc : zSc) {S : zS} {a f w r dp : Nat} {x : Int32} (ha : a < 4) (hf : f ≤ 8) (hw : whb 9 a f = w) (hw8 : w ≤ 8) (hN : bodN (4 * w + a) = 70) (hr : S.1 35 3 = nI r) (hr2 : r < 100000) (hd : dp ≤ 40) {b g : Int32} {T : zS} (hg : zsf 2 w = g) (h1 : zcI sc zm_X9_run [.ref 35, .int (0 : Int32), .int g, .int x, .int (nI (dp + 1))] (ntC r 70 S) = some (b, T)) : zcI sc zm_X9_run [.ref 35, .int (nI a), .int (nI f), .int x, .int (nI dp)] S = some (b * (2 : Int32), T) := by
  rw [c_run0 sc ha hf hw hw8 hN rfl hr hr2 hd, if_neg (by decide), if_neg (by decide), if_neg (by decide), if_neg (by decide), if_neg (by decide), if_neg (by decide), if_neg (by decide), if_neg (by decide), if_neg (by decide), if_neg (by decide), if_pos (by decide)]
  rw [hg, if_pos (by rw [lv_run _ _ _ _ (by omega)]; omega), h1, Option.bind_some]
theorem r_81 (sc : zSc) {S : zS} {a f w r dp : Nat} {x : Int32} (ha : a < 4) (hf : f ≤ 8) (hw : whb 9 a f = w) (hw8 : w ≤ 8) (hN : bodN (4 * w + a) = 81) (hr : S.1 35 3 = nI r) (hr2 : r < 100000) (hd : dp ≤ 40) {b g : Int32} {T : zS} (hg : zsf 2 w = g) (h1 : zcI sc zm_X9_run [.ref 35, .int (3 : Int32), .int g, .int x, .int (nI (dp + 1))] (ntC r 81 S) = some (b, T)) : zcI sc zm_X9_run [.ref 35, .int (nI a), .int (nI f), .int x, .int (nI dp)] S = some (b - (1 : Int32), T) := by
  rw [c_run0 sc ha hf hw hw8 hN rfl hr hr2 hd, if_neg (by decide), if_neg (by decide), if_neg (by decide), if_neg (by decide), if_neg (by decide), if_neg (by decide), if_neg (by decide), if_neg (by decide), if_neg (by decide), if_neg (by decide), if_neg (by decide), if_neg (by decide), if_pos (by decide)]
  rw [hg, if_pos (by rw [lv_run _ _ _ _ (by omega)]; omega), h1, Option.bind_some]
theorem r_2 (sc : zSc) {S : zS} {a f w r dp : Nat} {x : Int32} (ha : a < 4) (hf : f ≤ 8) (hw : whb 9 a f = w) (hw8 : w ≤ 8) (hN : bodN (4 * w + a) = 2) (hr : S.1 35 3 = nI r) (hr2 : r < 100000) (hd : dp ≤ 40) {b c g : Int32} {T U : zS} (hg : S.1 35 5 = g) (hT : T.1 35 5 = g) (h1 : zcI sc zm_X9_run [.ref 35, .int (1 : Int32), .int g, .int x, .int (nI (dp + 1))] (ntC r 2 S) = some (b, T)) (h2 : zcI sc zm_X9_run [.ref 35, .int (2 : Int32), .int g, .int (1 : Int32), .int (nI (dp + 1))] T = some (c, U)) : zcI sc zm_X9_run [.ref 35, .int (nI a), .int (nI f), .int x, .int (nI dp)] S = some (b - c, U) := by
  rw [c_run0 sc ha hf hw hw8 hN rfl hr hr2 hd, if_neg (by decide), if_pos (by decide)]
  rw [ntC_n r 2 S (by decide) (by decide), hg, if_pos (by rw [lv_run _ _ _ _ (by omega)]; omega), h1, Option.bind_some]
  dsimp only
  rw [hT, if_pos (by rw [lv_run _ _ _ _ (by omega)]; omega), h2, Option.bind_some]
theorem r_50 (sc : zSc) {S : zS} {a f w r dp : Nat} {x : Int32} (ha : a < 4) (hf : f ≤ 8) (hw : whb 9 a f = w) (hw8 : w ≤ 8) (hN : bodN (4 * w + a) = 50) (hr : S.1 35 3 = nI r) (hr2 : r < 100000) (hd : dp ≤ 40) {b c g k : Int32} {T U : zS} (hg : zsf 2 w = g) (hT : T.1 35 5 = k) (h1 : zcI sc zm_X9_run [.ref 35, .int (2 : Int32), .int g, .int x, .int (nI (dp + 1))] (ntC r 50 S) = some (b, T)) (h2 : zcI sc zm_X9_run [.ref 35, .int (0 : Int32), .int k, .int (2 : Int32), .int (nI (dp + 1))] T = some (c, U)) : zcI sc zm_X9_run [.ref 35, .int (nI a), .int (nI f), .int x, .int (nI dp)] S = some (b - c, U) := by
  rw [c_run0 sc ha hf hw hw8 hN rfl hr hr2 hd, if_neg (by decide), if_neg (by decide), if_neg (by decide), if_neg (by decide), if_neg (by decide), if_neg (by decide), if_neg (by decide), if_neg (by decide), if_pos (by decide)]
  rw [hg, if_pos (by rw [lv_run _ _ _ _ (by omega)]; omega), h1, Option.bind_some]
  dsimp only
  rw [hT, if_pos (by rw [lv_run _ _ _ _ (by omega)]; omega), h2, Option.bind_some]
theorem r_80 (sc : zSc) {S : zS} {a f w r dp : Nat} {x : Int32} (ha : a < 4) (hf : f ≤ 8) (hw : whb 9 a f = w) (hw8 : w ≤ 8) (hN : bodN (4 * w + a) = 80) (hr : S.1 35 3 = nI r) (hr2 : r < 100000) (hd : dp ≤ 40) {b c g k : Int32} {T U : zS} (hg : zsf 2 w = g) (hT : T.1 35 5 = k) (h1 : zcI sc zm_X9_run [.ref 35, .int (1 : Int32), .int g, .int x, .int (nI (dp + 1))] (ntC r 80 S) = some (b, T)) (h2 : zcI sc zm_X9_run [.ref 35, .int (2 : Int32), .int k, .int (2 : Int32), .int (nI (dp + 1))] T = some (c, U)) : zcI sc zm_X9_run [.ref 35, .int (nI a), .int (nI f), .int x, .int (nI dp)] S = some (b + c, U) := by
  rw [c_run0 sc ha hf hw hw8 hN rfl hr hr2 hd, if_neg (by decide), if_neg (by decide), if_neg (by decide), if_neg (by decide), if_neg (by decide), if_neg (by decide), if_neg (by decide), if_neg (by decide), if_neg (by decide), if_neg (by decide), if_neg (by decide), if_pos (by decide)]
  rw [hg, if_pos (by rw [lv_run _ _ _ _ (by omega)]; omega), h1, Option.bind_some]
  dsimp only
  rw [hT, if_pos (by rw [lv_run _ _ _ _ (by omega)]; omega), h2, Option.bind_some]
