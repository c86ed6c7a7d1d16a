def abvC (k : Nat) : Nat := if k = 3 then 2 else if k = 4 then 1 else if k = 5 then 3 else if k = 7 then 4 else if k = 0 then 8 else 0
def abvM (k : Nat) : Nat := if k = 3 then 2 else if k = 4 then 1 else if k = 5 then 3 else if k = 7 then 4 else 0
theorem zsf2 : ∀ k, k < 8 → zsf 2 k = nI (abvC k) := by decide +kernel
theorem abvC_le (k : Nat) : abvC k ≤ 8 := by unfold abvC; split <;> (try omega) <;> split <;> (try omega) <;> split <;> (try omega) <;> split <;> (try omega) <;> split <;> omega
theorem abvM_lt : ∀ k, k < 8 → k ≠ 0 → abvM k < k := by decide
def undC : Nat → Nat → Nat → Bool
  | 0, _, _ => false
  | f + 1, k, a => if 8 ≤ k then false else if k = a then true else undC f (abvC k) a
def undM : Nat → Nat → Nat → Bool
  | 0, _, _ => false
  | f + 1, k, a => if k = a then true else if k = 0 then false else undM f (abvM k) a
theorem und_eq : ∀ k, k < 8 → ∀ a, a < 8 → undC 9 k a = undM 8 k a := by decide
theorem c_under_go (sc : zSc) (x0 : Int32) {a : Nat} (ha : a < 8) (S : zS) : ∀ (f k : Nat), f ≤ 9 → k ≤ 8 → zO zgI sc (zg1, (zm_X9_isUnder, 2), 4, S, [some (.int x0), some (.int (nI a)), some (.int (nI k)), some (.int (nI (9 - f)))], []) = some (zb (undC f k a = true), S)
  | 0, k, hf, hk => by
    rw [e_X9_isUnder_4, if_pos (by decide), zb_f (show ¬ (undC 0 k a = true) from fun q => Bool.noConfusion q)]
  | f + 1, k, hf, hk => by
    have e : undC (f + 1) k a = if 8 ≤ k then false else if k = a then true else undC f (abvC k) a := rfl
    rw [e_X9_isUnder_4, if_neg (by rw [show (8 : Int32) = nI 8 from rfl, n_lt (by omega) (by omega)]; omega), s_w7, Option.bind_some]
    dsimp only
    rw [e]
    by_cases c : 8 ≤ k
    · rw [zb_f (by unfold rg; rw [zi_nI (by omega)]; omega), if_pos rfl, zb_f (by rw [if_pos c]; decide)]
    rw [zb_t (by unfold rg; rw [zi_nI (by omega)]; omega), if_neg (by decide), if_neg c]
    by_cases c2 : k = a
    · rw [if_neg (by rw [n_ne (by omega) (by omega)]; exact fun q => q c2), if_pos c2, zb_t rfl]
    · rw [if_pos (by rw [n_ne (by omega) (by omega)]; exact c2), if_neg (by first | (rw [n_ob (by omega)]; omega) | (rw [n_obb (by omega)]; omega)), n_cl (by omega), zsf2 k (by omega), n_s1, show 9 - (f + 1) + 1 = 9 - f by omega, c_under_go sc x0 ha S f (abvC k) (by omega) (abvC_le k), if_neg c2]
theorem c_under (sc : zSc) {a k : Nat} (ha : a < 8) (hk : k ≤ 8) (S : zS) : zcI sc zm_X9_isUnder [.int (nI k), .int (nI a)] S = some (zb (undC 9 k a = true), S) := by
  rw [c_X9_isUnder]
  exact c_under_go sc (nI k) ha S 9 k (by omega) hk
theorem c_underN (sc : zSc) (a : Int32) (S : zS) : zcI sc zm_X9_isUnder [.int (-1 : Int32), .int a] S = some (0, S) := by
  rw [c_X9_isUnder, e_X9_isUnder_4, if_neg (by decide), s_w7, Option.bind_some]
  dsimp only
  rw [zb_f (by unfold rg; decide), if_pos rfl]
theorem m_above (sc : zSc) {k : Nat} (hk : k < 8) (S : zS) : zcI sc zm_X11_above [.int (nI k)] S = some (nI (abvM k), S) := by
  rw [c_X11_above]
  rcases (by omega : k = 0 ∨ k = 1 ∨ k = 2 ∨ k = 3 ∨ k = 4 ∨ k = 5 ∨ k = 6 ∨ k = 7) with rfl | rfl | rfl | rfl | rfl | rfl | rfl | rfl
  · rw [if_pos (by decide), if_pos (by decide), if_pos (by decide), if_pos (by decide)]; rfl
  · rw [if_pos (by decide), if_pos (by decide), if_pos (by decide), if_pos (by decide)]; rfl
  · rw [if_pos (by decide), if_pos (by decide), if_pos (by decide), if_pos (by decide)]; rfl
  · rw [if_neg (by decide)]; rfl
  · rw [if_pos (by decide), if_neg (by decide)]; rfl
  · rw [if_pos (by decide), if_pos (by decide), if_neg (by decide)]; rfl
  · rw [if_pos (by decide), if_pos (by decide), if_pos (by decide), if_pos (by decide)]; rfl
  · rw [if_pos (by decide), if_pos (by decide), if_pos (by decide), if_neg (by decide)]; rfl
theorem m_kindOf (sc : zSc) {b : Nat} (hb : b < 50) (S : zS) : zcI sc zm_X11_kindOf [.ref 51, .int (nI b)] S = some (S.1 68 b, S) := by
  rw [c_X11_kindOf, if_neg (by first | (rw [n_ob (by omega)]; omega) | (rw [n_obb (by omega)]; omega)), n_cl (by omega)]
theorem m_taken_go (sc : zSc) {d b kk a : Nat} {S : zS} (hd : d < 6) (hb : b < 50) (h70 : S.1 70 d = nI b) (h68 : S.1 68 b = nI kk) (ha : a < 8) : ∀ (f k : Nat), k < f → k < 8 → zO zgI sc (zg1, (zm_X11_taken, 3), 58, S, [some (.ref 51), some (.int (nI d)), some (.int (nI a)), some (.int (nI k))], []) = some (if undM f k a = true then nI kk else -12, S)
  | 0, k, hf, hk => absurd hf (by omega)
  | f + 1, k, hf, hk => by
    have e : undM (f + 1) k a = if k = a then true else if k = 0 then false else undM f (abvM k) a := rfl
    have ob : ¬ (nI d < 0 ∨ 6 ≤ (nI d).toNatClampNeg) := (by first | (rw [n_ob (by omega)]; omega) | (rw [n_obb (by omega)]; omega))
    rw [e_X11_taken_58, e]
    by_cases c : k = a
    · rw [if_pos (c := nI k = nI a) (by rw [n_eq (by omega) (by omega)]; exact c), if_neg (c := nI k ≠ nI a) (by rw [n_ne (by omega) (by omega)]; exact fun q => q c), if_neg ob, n_cl (a := d) (by omega), h70, m_kindOf sc hb, Option.bind_some, h68, if_pos c, if_pos rfl]
    rw [if_neg (c := nI k = nI a) (by rw [n_eq (by omega) (by omega)]; exact c), if_neg c]
    by_cases c2 : k = 0
    · rw [if_pos (by rw [n_le0 (by omega)]; exact c2), if_pos (c := nI k ≠ nI a) (by rw [n_ne (by omega) (by omega)]; exact c), if_pos c2]; rfl
    · have := abvM_lt k hk c2
      rw [if_neg (by rw [n_le0 (by omega)]; exact c2), m_above sc hk, Option.bind_some, if_neg c2]
      exact m_taken_go sc hd hb h70 h68 ha f (abvM k) (by omega) (by omega)
theorem o_taken (sc : zSc) {t : Nat} {S : zS} (h : zInv t S) (a1 a2 : Int32) : zOp t (zcI sc zm_X10_taken [.ref 0, .int a1, .int a2] S) (fun S => zcI sc zm_X11_taken [.ref 51, .int a1, .int a2] S) := by
  have h0 := h
  obtain ⟨n0, P, cs, gap, cn, ver, vs, ht, h1, h2, h3, h4, h5, h6⟩ := h
  have m1 : ¬ ((0 : Int32) ≠ 0) := fun q => q rfl
  have k01 : ¬ ((1 : Int32) = 0) := by decide
  have n50 : (50 : Int32) = nI 50 := rfl
  by_cases c : rg a1 5
  case neg =>
    refine zInv_self h0 (v := -1) ?_ ?_
    · rw [c_X10_taken, s_isShelf, Option.bind_some]
      dsimp only
      rw [zb_f c, if_pos rfl]
    · show zcI sc zm_X11_taken [.ref 51, .int a1, .int a2] S = _
      rw [c_X11_taken, m_isShelf', Option.bind_some]
      dsimp only
      rw [zb_f c, if_pos rfl]
  obtain ⟨d, rfl, hd'⟩ := rg_n c
  have hd : d < 6 := by omega
  by_cases c2 : rg a2 7
  case neg =>
    refine zInv_self h0 (v := -1) ?_ ?_
    · rw [g_taken sc S a2 hd, s_isShelf, Option.bind_some]
      dsimp only
      rw [zb_t c, if_neg k01, s_w7, Option.bind_some]
      dsimp only
      rw [zb_f c2, if_neg m1]
    · show zcI sc zm_X11_taken [.ref 51, .int (nI d), .int a2] S = _
      rw [c_X11_taken, m_isShelf', Option.bind_some]
      dsimp only
      rw [zb_t c, if_neg k01, m_w7, Option.bind_some]
      dsimp only
      rw [zb_f c2, if_neg m1]
  obtain ⟨a, rfl, ha'⟩ := rg_n c2
  have ha : a < 8 := by omega
  have ob : ¬ (nI d < 0 ∨ 6 ≤ (nI d).toNatClampNeg) := (by first | (rw [n_ob (by omega)]; omega) | (rw [n_obb (by omega)]; omega))
  have hC : zcI sc zm_X10_taken [.ref 0, .int (nI d), .int (nI a)] S = ((zcI sc zm_X6_isEmpty [.ref (39 + 2 * d)] S).bind (fun q3 => (if q3.1 = 0 then ((zcI sc zm_X6_isRow [.ref (39 + 2 * d)] q3.2).bind (fun q4 => (if q4.1 = 0 then ((zcI sc zm_X9_kindOf [.ref 35, .int (q4.2.1 (39 + 2 * d) 3)] q4.2).bind (fun q5 => ((zcI sc zm_X9_isUnder [.int q5.1, .int (nI a)] q5.2).bind (fun q6 => (if q6.1 = 0 then some ((-12 : Int32), q6.2) else some (q5.1, q6.2)))))) else ((zcI sc zm_X9_isUnder [.int (-1 : Int32), .int (nI a)] q4.2).bind (fun q7 => (if q7.1 = 0 then some ((-12 : Int32), q7.2) else some ((-1 : Int32), q7.2))))))) else some ((-11 : Int32), q3.2)))) := by
    rw [g_taken sc S (nI a) hd, s_isShelf, Option.bind_some]
    dsimp only
    rw [zb_t c, if_neg k01, s_w7, Option.bind_some]
    dsimp only
    rw [zb_t c2, if_pos (by decide)]
  have hM : zcI sc zm_X11_taken [.ref 51, .int (nI d), .int (nI a)] S = (if 0 ≤ S.1 70 d then (if S.1 70 d < (50 : Int32) then ((zcI sc zm_X11_kindOf [.ref 51, .int (S.1 70 d)] S).bind (fun q3 => zO zgI sc (zg1, (zm_X11_taken, 3), 58, q3.2, [some (.ref 51), some (.int (nI d)), some (.int (nI a)), some (.int q3.1)], []))) else some ((-12 : Int32), S)) else some ((-11 : Int32), S)) := by
    rw [c_X11_taken, m_isShelf', Option.bind_some]
    dsimp only
    rw [zb_t c, if_neg k01, m_w7, Option.bind_some]
    dsimp only
    rw [zb_t c2, if_pos (by decide), if_neg ob, if_neg ob, if_neg ob, n_cl (a := d) (by omega)]
  rcases g_kind (zSHs_d h6 hd) h5.1 with q | ⟨b, hb, hbv, q⟩ | ⟨s, m, hs, hm, q, q7⟩
  · refine zInv_self h0 (v := -11) ?_ ?_
    · rw [hC, e_isEmpty sc hd q, Option.bind_some]
      dsimp only
      rw [if_neg k01]
    · show zcI sc zm_X11_taken [.ref 51, .int (nI d), .int (nI a)] S = _
      rw [hM, q.2.2.2, if_neg (by decide)]
  · obtain ⟨kk, hk, k36, k68⟩ := h5.2.2.2.1 b hbv
    have hkind : zcI sc zm_X9_kindOf [.ref 35, .int (nI b)] S = some (nI kk, S) := by
      rw [c_X9_kindOf, s_isOneV sc h5.1 h5.2.1, Option.bind_some]
      dsimp only
      rw [zb_t (by unfold rgp; rw [zi_nI (by omega)]; omega), if_neg k01, if_neg (by first | (rw [n_ob (by omega)]; omega) | (rw [n_obb (by omega)]; omega)), n_cl (by omega), k36]
    have hu := und_eq kk hk a ha
    refine zInv_self h0 (v := if undM 8 kk a = true then nI kk else -12) ?_ ?_
    · rw [hC, v_isEmpty sc hd hb q, Option.bind_some]
      dsimp only
      rw [if_pos rfl, v_isRow sc hd q, Option.bind_some]
      dsimp only
      rw [if_pos rfl, q.2.2.1, hkind, Option.bind_some]
      dsimp only
      rw [c_under sc ha (by omega), Option.bind_some, hu]
      dsimp only
      by_cases x : undM 8 kk a = true
      · rw [zb_t x, if_neg k01, if_pos x]
      · rw [zb_f x, if_pos rfl, if_neg x]
    · show zcI sc zm_X11_taken [.ref 51, .int (nI d), .int (nI a)] S = _
      rw [hM, q.2.2.2, if_pos (by rw [n_0le (by omega)]; trivial), if_pos (by rw [n50, n_lt (by omega) (by omega)]; exact hb), m_kindOf sc hb, Option.bind_some]
      dsimp only
      rw [k68]
      exact m_taken_go sc hd hb q.2.2.2 k68 ha 8 kk hk hk
  · refine zInv_self h0 (v := -12) ?_ ?_
    · rw [hC, w_isEmpty sc hd hs q, Option.bind_some]
      dsimp only
      rw [if_pos rfl, w_isRow sc hd hs q, Option.bind_some]
      dsimp only
      rw [if_neg k01, c_underN, Option.bind_some]
      dsimp only
      rw [if_pos rfl]
    · show zcI sc zm_X11_taken [.ref 51, .int (nI d), .int (nI a)] S = _
      rw [hM, q.2.2.2, if_pos (by rw [n_0le (by omega)]; trivial), if_neg (by rw [n50, n_lt (by omega) (by omega)]; omega)]
