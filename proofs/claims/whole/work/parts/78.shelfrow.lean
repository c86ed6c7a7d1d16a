theorem nI_clip {m : Nat} (h : m ≤ 60) : (if (0 : Int32) < (if nI m < (60 : Int32) then nI m else (60 : Int32)) then (if nI m < (60 : Int32) then nI m else (60 : Int32)) else (0 : Int32)) = nI m := by
  have e : (if nI m < (60 : Int32) then nI m else (60 : Int32)) = nI m := by
    by_cases q : m < 60
    · rw [if_pos (by rw [show (60 : Int32) = nI 60 from rfl, n_lt (by omega) (by omega)]; exact q)]
    · have : m = 60 := by omega
      subst this
      rfl
  rw [e]
  by_cases q : m = 0
  · subst q; rfl
  · rw [if_pos (by rw [show (0 : Int32) = nI 0 from rfl, n_lt (by omega) (by omega)]; omega)]
theorem o_row (sc : zSc) {t : Nat} {S : zS} (h : zInv t S) (a1 a2 a3 : Int32) : zOp t (zcI sc zm_X10_row [.ref 0, .int a1, .int a2, .int a3] S) (fun S => zcI sc zm_X11_row [.ref 51, .int a1, .int a2, .int a3] S) := by
  have h0 := h
  obtain ⟨n, P, cs, gap, cn, ver, vs, ht, h1, h2, h3, h4, h5, h6⟩ := h
  by_cases c : rg a1 5
  case neg =>
    refine zInv_self h0 (v := -1) ?_ ?_
    · rw [c_X10_row, s_isShelf, Option.bind_some]
      dsimp only
      rw [zb_f c, if_pos rfl]
    · show zcI sc zm_X11_row [.ref 51, .int a1, .int a2, .int a3] S = _
      rw [c_X11_row, m_isShelf', Option.bind_some]
      dsimp only
      rw [zb_f c, if_pos rfl]
  obtain ⟨d, rfl, hd'⟩ := rg_n c
  have hd : d < 6 := by omega
  have ob : ¬ (nI d < 0 ∨ 6 ≤ (nI d).toNatClampNeg) := (by first | (rw [n_ob (by omega)]; omega) | (rw [n_obb (by omega)]; omega))
  have e60 : ((60 : Int32) * nI d) = nI (60 * d) := zn_mul 60 d
  have hC : zcI sc zm_X10_row [.ref 0, .int (nI d), .int a2, .int a3] S = (if zb (rg a2 4) = 0 then some ((-1 : Int32), S) else (if a3 ≤ (60 : Int32) then (if 0 ≤ a3 then ((zcV sc zm_X6_holdRow [.ref (39 + 2 * d), .int a2, .int a3] S).bind (fun q3 => some ((1 : Int32), q3))) else some ((-14 : Int32), S)) else some ((-1 : Int32), S))) := by
    rw [g_row sc S a2 a3 hd, s_isShelf, Option.bind_some]
    dsimp only
    rw [zb_t c, if_neg (by decide), s_w4, Option.bind_some]
  have hM : ∀ T : zS, zcI sc zm_X11_row [.ref 51, .int (nI d), .int a2, .int a3] T = (if zb (rg a2 4) = 0 then some ((-1 : Int32), T) else (if a3 ≤ (60 : Int32) then (if 0 ≤ a3 then zO zgI sc (zg1, (zm_X11_row, 3), 57, (zw1 (zw1 T 70 d ((50 : Int32) + a2)) 71 d a3), [some (.ref 51), some (.int (nI d)), some (.int a2), some (.int a3), some (.int (nI (60 * d)))], []) else some ((-14 : Int32), T)) else some ((-1 : Int32), T))) := fun T => by
    rw [c_X11_row, m_isShelf', Option.bind_some]
    dsimp only
    rw [zb_t c, if_neg (by decide), m_w4, Option.bind_some]
    dsimp only
    rw [if_neg ob, if_neg ob, n_cl (a := d) (by omega), e60]
  by_cases c2 : rg a2 4
  case neg =>
    refine zInv_self h0 (v := -1) ?_ ?_
    · rw [hC, zb_f c2, if_pos rfl]
    · show zcI sc zm_X11_row [.ref 51, .int (nI d), .int a2, .int a3] S = _
      rw [hM, zb_f c2, if_pos rfl]
  by_cases c3 : a3 ≤ (60 : Int32)
  case neg =>
    refine zInv_self h0 (v := -1) ?_ ?_
    · rw [hC, zb_t c2, if_neg (by decide), if_neg c3]
    · show zcI sc zm_X11_row [.ref 51, .int (nI d), .int a2, .int a3] S = _
      rw [hM, zb_t c2, if_neg (by decide), if_neg c3]
  by_cases c4 : 0 ≤ a3
  case neg =>
    refine zInv_self h0 (v := -14) ?_ ?_
    · rw [hC, zb_t c2, if_neg (by decide), if_pos c3, if_neg c4]
    · show zcI sc zm_X11_row [.ref 51, .int (nI d), .int a2, .int a3] S = _
      rw [hM, zb_t c2, if_neg (by decide), if_pos c3, if_neg c4]
  obtain ⟨s, rfl, hs'⟩ := rg_n c2
  have hs : s < 5 := by omega
  obtain ⟨m, hm', rfl⟩ := zi_of (x := a3) (by rw [zi_le, z0i] at c4; exact c4)
  have hm : m ≤ 60 := by
    rw [show (60 : Int32) = nI 60 from rfl, n_le hm' (by omega)] at c3
    exact c3
  obtain ⟨T0, hT0⟩ : ∃ T0, T0 = zw1 (zw1 (zw1 S (39 + 2 * d) 3 (-1)) (39 + 2 * d) 1 (nI s)) (39 + 2 * d) 2 (nI m) := ⟨_, rfl⟩
  obtain ⟨T, hT, fT, gT⟩ := g_fill0 sc T0 hd
  obtain ⟨V, hV⟩ : ∃ V, V = zw1 (zw1 T 70 d (nI (50 + s))) 71 d (nI m) := ⟨_, rfl⟩
  obtain ⟨U, hU, fU, gU⟩ := m_rowLoop sc V hd (nI s) (nI m)
  have u1 : ∀ c i, U.1 c i = if c = 71 ∧ i = d then nI m else if c = 70 ∧ i = d then nI (50 + s) else if c = 39 + 2 * d ∧ i = 2 then nI m else if c = 39 + 2 * d ∧ i = 1 then nI s else if c = 39 + 2 * d ∧ i = 3 then -1 else S.1 c i := fun c i => by
    rw [fU, hV, zw1_r, zw1_r, fT, hT0, zw1_r, zw1_r, zw1_r]
  have u2 : ∀ e j, U.2 e j = if e = 72 ∧ 60 * d ≤ j ∧ j < 60 * d + 60 then Int64.ofNat 0 else if e = 40 + 2 * d ∧ j < 60 then Int64.ofNat 0 else S.2 e j := fun e j => by
    rw [gU, hV, zw1_l, zw1_l, gT, hT0, zw1_l, zw1_l, zw1_l]
  refine ⟨1, T, U, ?_, ?_, zInv_sh ht h1 h2 h3 h4 h5 (fun c i q => by rw [u1, if_neg (by omega), if_neg (by omega), if_neg (by omega), if_neg (by omega), if_neg (by omega)]) (fun d2 hd2 => ?_)⟩
  · rw [hC, zb_t c2, if_neg (by decide), if_pos c3, if_pos c4, g_holdRow sc S (nI s) (nI m) hd, nI_clip hm, ← hT0, hT]; rfl
  · show zcI sc zm_X11_row [.ref 51, .int (nI d), .int (nI s), .int (nI m)] T = _
    rw [hM, zb_t c2, if_neg (by decide), if_pos c3, if_pos c4, show (50 : Int32) + nI s = nI (50 + s) from zn_add 50 s, ← hV, hU]
  · by_cases k : d2 = d
    · subst k
      refine ⟨?_, fun i hi => ?_, Or.inr (Or.inr ⟨s, m, hs, hm, ?_, ?_, ?_, ?_, fun _ i hi => ?_⟩)⟩
      · rw [u1, u1, if_pos ⟨rfl, rfl⟩, if_neg (by omega), if_neg (by omega), if_pos ⟨rfl, rfl⟩]
      · rw [u2, u2, if_pos ⟨rfl, by omega, by omega⟩, if_neg (by omega), if_pos ⟨rfl, hi⟩]
      · rw [u1, if_neg (by omega), if_neg (by omega), if_neg (by omega), if_pos ⟨rfl, rfl⟩]
      · rw [u1, if_neg (by omega), if_neg (by omega), if_pos ⟨rfl, rfl⟩]
      · rw [u1, if_neg (by omega), if_neg (by omega), if_neg (by omega), if_neg (by omega), if_pos ⟨rfl, rfl⟩]
      · rw [u1, if_neg (by omega), if_pos ⟨rfl, rfl⟩]
      · rw [u2, if_neg (by omega), if_pos ⟨rfl, hi⟩]; decide
    · have hS2 := zSHs_d h6 hd2
      refine zSh_long hS2 (fun i => ?_) ?_ ?_ (fun j hj => ?_) (fun s' hs' e' j hj => ?_)
      · rw [u1, if_neg (by omega), if_neg (by omega), if_neg (by omega), if_neg (by omega), if_neg (by omega)]
      · rw [u1, if_neg (by omega), if_neg (by omega), if_neg (by omega), if_neg (by omega), if_neg (by omega)]
      · rw [u1, if_neg (by omega), if_neg (by omega), if_neg (by omega), if_neg (by omega), if_neg (by omega)]
      · rw [u2, u2, if_neg (by omega), if_neg (by omega), if_neg (by omega), if_neg (by omega)]
        exact hS2.2.1 j hj
      · rw [u2, if_neg (by omega), if_neg (by omega)]
        exact zSh_rg hS2 hs' e' j hj
/-! ===== shift ===== -/
theorem g_kind {d vs : Nat} {S : zS} (h : zSh (39 + 2 * d) (40 + 2 * d) d vs S) (hv : vs ≤ 50) : shE d S ∨ (∃ b, b < 50 ∧ b < vs ∧ shV d b S) ∨ (∃ s m, s < 5 ∧ m ≤ 60 ∧ shW d s m S ∧ S.1 71 d = nI m) := by
  rcases h.2.2 with e | ⟨b, hb, e⟩ | ⟨s, m, hs, hm, e1, e2, e3, e4, -⟩
  · exact Or.inl e
  · exact Or.inr (Or.inl ⟨b, by omega, hb, e⟩)
  · exact Or.inr (Or.inr ⟨s, m, hs, hm, ⟨e1, e2, e3, e4⟩, h.1.trans e2⟩)
theorem m_shift2 (sc : zSc) {d d2 i j n : Nat} (hd2 : d2 < 6) (hj : j + n ≤ 60) : ∀ (k p : Nat) (S : zS), p + k = n → ∃ S', zO zgI sc (zg1, (zm_X11_shift, 3), 150, S, [some (.ref 51), some (.int (nI d)), some (.int (nI i)), some (.int (nI d2)), some (.int (nI j)), some (.int (nI n)), some (.int (nI p))], []) = some (nI n, S') ∧ S'.1 = S.1 ∧ ∀ e q, S'.2 e q = if e = 72 ∧ 60 * d2 + j + p ≤ q ∧ q < 60 * d2 + j + n then S.2 73 (q - (60 * d2 + j)) else S.2 e q
  | 0, p, S, hk => by
    refine ⟨S, ?_, rfl, fun e q => ?_⟩
    · rw [e_X11_shift_150, if_pos (by rw [n_le (by omega) (by omega)]; omega)]
    · rw [if_neg (by omega)]
  | k + 1, p, S, hk => by
    have e60 : ((60 : Int32) * nI d2) + nI j + nI p = nI (60 * d2 + j + p) := by rw [show (60 : Int32) * nI d2 = nI (60 * d2) from zn_mul 60 d2, zn_add, zn_add]
    obtain ⟨S', a, b, g⟩ := m_shift2 sc (d := d) (i := i) hd2 hj k (p + 1) (zw2 S 72 (60 * d2 + j + p) (S.2 73 p)) (by omega)
    refine ⟨S', ?_, b, fun e q => ?_⟩
    · rw [e_X11_shift_150, if_neg (by rw [n_le (by omega) (by omega)]; omega), if_neg (by first | (rw [n_ob (by omega)]; omega) | (rw [n_obb (by omega)]; omega)), e60, if_neg (by first | (rw [n_ob (by omega)]; omega) | (rw [n_obb (by omega)]; omega)), n_cl (a := p) (by omega), n_cl (a := 60 * d2 + j + p) (by omega), n_s1, a]
    · rw [g, zw2_r, zw2_r]
      by_cases c : e = 72 ∧ 60 * d2 + j + p ≤ q ∧ q < 60 * d2 + j + n
      · rw [if_pos c]
        by_cases w : q = 60 * d2 + j + p
        · rw [if_neg (by omega), if_pos ⟨c.1, w⟩, show q - (60 * d2 + j) = p by omega]
        · rw [if_pos (by omega), if_neg (by omega)]
      · rw [if_neg (by omega), if_neg (by omega), if_neg (by omega)]
theorem m_shift1 (sc : zSc) {d d2 i j n : Nat} (hd : d < 6) (hi : i + n ≤ 60) : ∀ (k p : Nat) (S : zS), p + k = n → ∃ S', zO zgI sc (zg1, (zm_X11_shift, 3), 113, S, [some (.ref 51), some (.int (nI d)), some (.int (nI i)), some (.int (nI d2)), some (.int (nI j)), some (.int (nI n)), some (.int (nI p))], []) = zO zgI sc (zg1, (zm_X11_shift, 3), 150, S', [some (.ref 51), some (.int (nI d)), some (.int (nI i)), some (.int (nI d2)), some (.int (nI j)), some (.int (nI n)), some (.int (nI 0))], []) ∧ S'.1 = S.1 ∧ ∀ e q, S'.2 e q = if e = 73 ∧ p ≤ q ∧ q < n then S.2 72 (60 * d + i + q) else S.2 e q
  | 0, p, S, hk => by
    refine ⟨S, ?_, rfl, fun e q => ?_⟩
    · rw [e_X11_shift_113, if_pos (by rw [n_le (by omega) (by omega)]; omega)]; rfl
    · rw [if_neg (by omega)]
  | k + 1, p, S, hk => by
    have e60 : ((60 : Int32) * nI d) + nI i + nI p = nI (60 * d + i + p) := by rw [show (60 : Int32) * nI d = nI (60 * d) from zn_mul 60 d, zn_add, zn_add]
    obtain ⟨S', a, b, g⟩ := m_shift1 sc (d2 := d2) (j := j) hd hi k (p + 1) (zw2 S 73 p (S.2 72 (60 * d + i + p))) (by omega)
    refine ⟨S', ?_, b, fun e q => ?_⟩
    · rw [e_X11_shift_113, if_neg (by rw [n_le (by omega) (by omega)]; omega), e60, if_neg (by first | (rw [n_ob (by omega)]; omega) | (rw [n_obb (by omega)]; omega)), if_neg (by first | (rw [n_ob (by omega)]; omega) | (rw [n_obb (by omega)]; omega)), n_cl (a := p) (by omega), n_cl (a := 60 * d + i + p) (by omega), n_s1, a]
    · rw [g, zw2_r, zw2_r]
      by_cases c : e = 73 ∧ p ≤ q ∧ q < n
      · rw [if_pos c]
        by_cases w : q = p
        · rw [if_neg (by omega), if_pos ⟨c.1, w⟩, w]
        · rw [if_pos (by omega), if_neg (by omega)]
      · rw [if_neg (by omega), if_neg (by omega), if_neg c]
theorem o_shift (sc : zSc) {t : Nat} {S : zS} (h : zInv t S) (a1 a2 a3 a4 a5 : Int32) : zOp t (zcI sc zm_X10_shift [.ref 0, .int a1, .int a2, .int a3, .int a4, .int a5] S) (fun S => zcI sc zm_X11_shift [.ref 51, .int a1, .int a2, .int a3, .int a4, .int a5] S) := by
  have h0 := h
  obtain ⟨n0, P, cs, gap, cn, ver, vs, ht, h1, h2, h3, h4, h5, h6⟩ := h
  have m1 : ¬ ((0 : Int32) ≠ 0) := fun q => q rfl
  have k01 : ¬ ((1 : Int32) = 0) := by decide
  have n50 : (50 : Int32) = nI 50 := rfl
  by_cases c : rg a1 5
  case neg =>
    refine zInv_self h0 (v := -1) ?_ ?_
    · rw [c_X10_shift, s_isShelf, Option.bind_some]
      dsimp only
      rw [zb_f c, if_pos rfl]
    · show zcI sc zm_X11_shift [.ref 51, .int a1, .int a2, .int a3, .int a4, .int a5] S = _
      rw [c_X11_shift, m_isShelf', Option.bind_some]
      dsimp only
      rw [zb_f c, if_pos rfl]
  by_cases c2 : rg a3 5
  case neg =>
    refine zInv_self h0 (v := -1) ?_ ?_
    · rw [c_X10_shift, s_isShelf, Option.bind_some]
      dsimp only
      rw [zb_t c, if_neg k01, s_isShelf, Option.bind_some]
      dsimp only
      rw [zb_f c2, if_neg m1]
    · show zcI sc zm_X11_shift [.ref 51, .int a1, .int a2, .int a3, .int a4, .int a5] S = _
      rw [c_X11_shift, m_isShelf', Option.bind_some]
      dsimp only
      rw [zb_t c, if_neg k01, m_isShelf', Option.bind_some]
      dsimp only
      rw [zb_f c2, if_neg m1]
  obtain ⟨d, rfl, hd'⟩ := rg_n c
  have hd : d < 6 := by omega
  obtain ⟨d2, rfl, hd2'⟩ := rg_n c2
  have hd2 : d2 < 6 := by omega
  have ob : ¬ (nI d < 0 ∨ 6 ≤ (nI d).toNatClampNeg) := (by first | (rw [n_ob (by omega)]; omega) | (rw [n_obb (by omega)]; omega))
  have ob2 : ¬ (nI d2 < 0 ∨ 6 ≤ (nI d2).toNatClampNeg) := (by first | (rw [n_ob (by omega)]; omega) | (rw [n_obb (by omega)]; omega))
  have hM : ∀ T : zS, zcI sc zm_X11_shift [.ref 51, .int (nI d), .int a2, .int (nI d2), .int a4, .int a5] T = (if T.1 70 d < 0 then some ((-11 : Int32), T) else (if 0 ≤ T.1 70 d2 then (if T.1 70 d < (50 : Int32) then some ((-12 : Int32), T) else (if T.1 70 d = T.1 70 d2 then (if a5 < 0 then some ((-13 : Int32), T) else (if a2 < 0 then some ((-13 : Int32), T) else (if a4 < 0 then some ((-13 : Int32), T) else (if (T.1 71 d) - a5 < a2 then some ((-13 : Int32), T) else (if a4 ≤ (T.1 71 d2) - a5 then zO zgI sc (zg1, (zm_X11_shift, 3), 113, T, [some (.ref 51), some (.int (nI d)), some (.int a2), some (.int (nI d2)), some (.int a4), some (.int a5), some (.int (0 : Int32))], []) else some ((-13 : Int32), T)))))) else some ((-12 : Int32), T))) else some ((-11 : Int32), T))) := fun T => by
    rw [c_X11_shift, m_isShelf', Option.bind_some]
    dsimp only
    rw [zb_t c, if_neg k01, m_isShelf', Option.bind_some]
    dsimp only
    rw [zb_t c2, if_pos (by decide), if_neg ob, if_neg ob2, if_neg ob, if_neg ob, if_neg ob2, if_neg ob, if_neg ob2, n_cl (a := d) (by omega), n_cl (a := d2) (by omega)]
  have hC : zcI sc zm_X10_shift [.ref 0, .int (nI d), .int a2, .int (nI d2), .int a4, .int a5] S = ((zcI sc zm_X6_isEmpty [.ref (39 + 2 * d)] S).bind (fun q3 => (if q3.1 ≠ 0 then some ((-11 : Int32), q3.2) else ((zcI sc zm_X6_isEmpty [.ref (39 + 2 * d2)] q3.2).bind (fun q4 => (if q4.1 = 0 then ((zcI sc zm_X6_isRow [.ref (39 + 2 * d)] q4.2).bind (fun q5 => (if q5.1 = 0 then some ((-12 : Int32), q5.2) else ((zcI sc zm_X6_isRowOf [.ref (39 + 2 * d2), .int (q5.2.1 (39 + 2 * d) 1)] q5.2).bind (fun q6 => (if q6.1 ≠ 0 then ((zcI sc zm_X6_has [.ref (39 + 2 * d), .int a2, .int a5] q6.2).bind (fun q7 => (if q7.1 = 0 then some ((-13 : Int32), q7.2) else ((zcI sc zm_X6_has [.ref (39 + 2 * d2), .int a4, .int a5] q7.2).bind (fun q8 => (if q8.1 ≠ 0 then (if a2 < 0 ∨ a4 < 0 ∨ a5 < 0 ∨ 60 < a2.toNatClampNeg + a5.toNatClampNeg ∨ 60 < a4.toNatClampNeg + a5.toNatClampNeg then none else some (a5, (zwc2 q8.2 (40 + 2 * d2) (va_cpy (q8.2.2 (40 + 2 * d)) (q8.2.2 (40 + 2 * d2)) a2.toNatClampNeg a4.toNatClampNeg a5.toNatClampNeg)))) else some ((-13 : Int32), q8.2))))))) else some ((-12 : Int32), q6.2))))))) else some ((-11 : Int32), q4.2))))))) := by
    rw [g_shift sc S a2 a4 a5 hd hd2, s_isShelf, Option.bind_some]
    dsimp only
    rw [zb_t c, if_neg k01, s_isShelf, Option.bind_some]
    dsimp only
    rw [zb_t c2, if_pos (by decide)]
  have hS := zSHs_d h6 hd
  have hS2 := zSHs_d h6 hd2
  have neE : ∀ {e : Nat}, e < 6 → (shE e S ∧ zcI sc zm_X6_isEmpty [.ref (39 + 2 * e)] S = some (1, S)) ∨ (zcI sc zm_X6_isEmpty [.ref (39 + 2 * e)] S = some (0, S) ∧ ∃ k, k < 100 ∧ S.1 70 e = nI k ∧ ((k < 50 ∧ shV e k S) ∨ ∃ s m, s < 5 ∧ m ≤ 60 ∧ k = 50 + s ∧ shW e s m S ∧ S.1 71 e = nI m)) := fun {e} he => by
    rcases g_kind (zSHs_d h6 he) h5.1 with q | ⟨b, hb, hbv, q⟩ | ⟨s, m, hs, hm, q, q7⟩
    · exact Or.inl ⟨q, e_isEmpty sc he q⟩
    · exact Or.inr ⟨v_isEmpty sc he hb q, b, by omega, q.2.2.2, Or.inl ⟨hb, q⟩⟩
    · exact Or.inr ⟨w_isEmpty sc he hs q, 50 + s, by omega, q.2.2.2, Or.inr ⟨s, m, hs, hm, rfl, q, q7⟩⟩
  rcases neE hd with ⟨q, qe⟩ | ⟨qe, k, hk, k70, qk⟩
  · refine zInv_self h0 (v := -11) ?_ ?_
    · rw [hC, qe, Option.bind_some]
      dsimp only
      rw [if_pos (by decide)]
    · show zcI sc zm_X11_shift [.ref 51, .int (nI d), .int a2, .int (nI d2), .int a4, .int a5] S = _
      rw [hM, q.2.2.2, if_pos (by decide)]
  rcases neE hd2 with ⟨p, pe⟩ | ⟨pe, l, hl, l70, pl⟩
  · refine zInv_self h0 (v := -11) ?_ ?_
    · rw [hC, qe, Option.bind_some]
      dsimp only
      rw [if_neg m1, pe, Option.bind_some]
      dsimp only
      rw [if_neg k01]
    · show zcI sc zm_X11_shift [.ref 51, .int (nI d), .int a2, .int (nI d2), .int a4, .int a5] S = _
      rw [hM, k70, if_neg (by rw [n_lt0 (by omega)]; exact id), p.2.2.2, if_neg (by decide)]
  rcases qk with ⟨hk5, qv⟩ | ⟨s, m, hs, hm, rfl, qw, q71⟩
  · refine zInv_self h0 (v := -12) ?_ ?_
    · rw [hC, qe, Option.bind_some]
      dsimp only
      rw [if_neg m1, pe, Option.bind_some]
      dsimp only
      rw [if_pos rfl, v_isRow sc hd qv, Option.bind_some]
      dsimp only
      rw [if_pos rfl]
    · show zcI sc zm_X11_shift [.ref 51, .int (nI d), .int a2, .int (nI d2), .int a4, .int a5] S = _
      rw [hM, k70, if_neg (by rw [n_lt0 (by omega)]; exact id), l70, if_pos (by rw [n_0le (by omega)]; trivial), if_pos (by rw [n50, n_lt (by omega) (by omega)]; exact hk5)]
  have hC2 : ∀ r : Int32, zcI sc zm_X6_isRowOf [.ref (39 + 2 * d2), .int (nI s)] S = some (r, S) → zcI sc zm_X10_shift [.ref 0, .int (nI d), .int a2, .int (nI d2), .int a4, .int a5] S = (if r ≠ 0 then ((zcI sc zm_X6_has [.ref (39 + 2 * d), .int a2, .int a5] S).bind (fun q7 => (if q7.1 = 0 then some ((-13 : Int32), q7.2) else ((zcI sc zm_X6_has [.ref (39 + 2 * d2), .int a4, .int a5] q7.2).bind (fun q8 => (if q8.1 ≠ 0 then (if a2 < 0 ∨ a4 < 0 ∨ a5 < 0 ∨ 60 < a2.toNatClampNeg + a5.toNatClampNeg ∨ 60 < a4.toNatClampNeg + a5.toNatClampNeg then none else some (a5, (zwc2 q8.2 (40 + 2 * d2) (va_cpy (q8.2.2 (40 + 2 * d)) (q8.2.2 (40 + 2 * d2)) a2.toNatClampNeg a4.toNatClampNeg a5.toNatClampNeg)))) else some ((-13 : Int32), q8.2))))))) else some ((-12 : Int32), S)) := fun r hr => by
    rw [hC, qe, Option.bind_some]
    dsimp only
    rw [if_neg m1, pe, Option.bind_some]
    dsimp only
    rw [if_pos rfl, w_isRow sc hd hs qw, Option.bind_some]
    dsimp only
    rw [if_neg k01, qw.1, hr, Option.bind_some]
  have hM2 : ∀ T : zS, T.1 = S.1 → zcI sc zm_X11_shift [.ref 51, .int (nI d), .int a2, .int (nI d2), .int a4, .int a5] T = (if nI (50 + s) = nI l then (if a5 < 0 then some ((-13 : Int32), T) else (if a2 < 0 then some ((-13 : Int32), T) else (if a4 < 0 then some ((-13 : Int32), T) else (if nI m - a5 < a2 then some ((-13 : Int32), T) else (if a4 ≤ (S.1 71 d2) - a5 then zO zgI sc (zg1, (zm_X11_shift, 3), 113, T, [some (.ref 51), some (.int (nI d)), some (.int a2), some (.int (nI d2)), some (.int a4), some (.int a5), some (.int (0 : Int32))], []) else some ((-13 : Int32), T)))))) else some ((-12 : Int32), T)) := fun T hT => by
    rw [hM, hT, k70, if_neg (by rw [n_lt0 (by omega)]; exact id), l70, if_pos (by rw [n_0le (by omega)]; trivial), if_neg (by rw [n50, n_lt (by omega) (by omega)]; omega), q71]
  rcases pl with ⟨hl5, pv⟩ | ⟨s2, mm, hs2, hmm, rfl, pw, p71⟩
  · refine zInv_self h0 (v := -12) ?_ ?_
    · rw [hC2 0 (v_isRowOf sc hd2 pv _), if_neg m1]
    · show zcI sc zm_X11_shift [.ref 51, .int (nI d), .int a2, .int (nI d2), .int a4, .int a5] S = _
      rw [hM2 S rfl, if_neg (by rw [n_eq (by omega) (by omega)]; omega)]
  by_cases es : s2 = s
  case neg =>
    refine zInv_self h0 (v := -12) ?_ ?_
    · rw [hC2 _ (w_isRowOf sc hd2 hs2 pw (by omega)), zb_f es, if_neg m1]
    · show zcI sc zm_X11_shift [.ref 51, .int (nI d), .int a2, .int (nI d2), .int a4, .int a5] S = _
      rw [hM2 S rfl, if_neg (by rw [n_eq (by omega) (by omega)]; omega)]
  subst es
  have hC3 : zcI sc zm_X10_shift [.ref 0, .int (nI d), .int a2, .int (nI d2), .int a4, .int a5] S = (if (0 ≤ a2.toInt ∧ 0 ≤ a5.toInt ∧ a2.toInt + a5.toInt ≤ m) ∧ (0 ≤ a4.toInt ∧ 0 ≤ a5.toInt ∧ a4.toInt + a5.toInt ≤ mm) then (if a2 < 0 ∨ a4 < 0 ∨ a5 < 0 ∨ 60 < a2.toNatClampNeg + a5.toNatClampNeg ∨ 60 < a4.toNatClampNeg + a5.toNatClampNeg then none else some (a5, (zwc2 S (40 + 2 * d2) (va_cpy (S.2 (40 + 2 * d)) (S.2 (40 + 2 * d2)) a2.toNatClampNeg a4.toNatClampNeg a5.toNatClampNeg)))) else some ((-13 : Int32), S)) := by
    rw [hC2 _ (w_isRowOf sc hd2 hs2 pw (by omega)), zb_t rfl, if_pos (by decide), g_hasI sc hd qw.2.1 hm, Option.bind_some]
    dsimp only
    by_cases w1 : 0 ≤ a2.toInt ∧ 0 ≤ a5.toInt ∧ a2.toInt + a5.toInt ≤ m
    · rw [zb_t w1, if_neg k01, g_hasI sc hd2 pw.2.1 hmm, Option.bind_some]
      dsimp only
      by_cases w2 : 0 ≤ a4.toInt ∧ 0 ≤ a5.toInt ∧ a4.toInt + a5.toInt ≤ mm
      · rw [zb_t w2, if_pos (by decide), if_pos (c := _ ∧ _) ⟨w1, w2⟩]
      · rw [zb_f w2, if_neg m1, if_neg (c := (0 ≤ a2.toInt ∧ 0 ≤ a5.toInt ∧ a2.toInt + a5.toInt ≤ m) ∧ _) (fun q => w2 q.2)]
    · rw [zb_f w1, if_pos rfl, if_neg (c := (0 ≤ a2.toInt ∧ 0 ≤ a5.toInt ∧ a2.toInt + a5.toInt ≤ m) ∧ _) (fun q => w1 q.1)]
  by_cases w : (0 ≤ a2.toInt ∧ 0 ≤ a5.toInt ∧ a2.toInt + a5.toInt ≤ m) ∧ (0 ≤ a4.toInt ∧ 0 ≤ a5.toInt ∧ a4.toInt + a5.toInt ≤ mm)
  case neg =>
    refine zInv_self h0 (v := -13) ?_ ?_
    · rw [hC3, if_neg w]
    · show zcI sc zm_X11_shift [.ref 51, .int (nI d), .int a2, .int (nI d2), .int a4, .int a5] S = _
      have ub := zi_ub a5
      rw [hM2 S rfl, if_pos rfl, p71]
      by_cases x5 : a5.toInt < 0
      · rw [if_pos (by rw [zi_lt, z0i]; exact x5)]
      rw [if_neg (by rw [zi_lt, z0i]; exact x5)]
      by_cases x2 : a2.toInt < 0
      · rw [if_pos (by rw [zi_lt, z0i]; exact x2)]
      rw [if_neg (by rw [zi_lt, z0i]; exact x2)]
      by_cases x4 : a4.toInt < 0
      · rw [if_pos (by rw [zi_lt, z0i]; exact x4)]
      rw [if_neg (by rw [zi_lt, z0i]; exact x4)]
      have hmi : (nI m).toInt = m := zi_nI (by omega)
      have hmm2 : (nI mm).toInt = mm := zi_nI (by omega)
      have y1 : (nI m - a5).toInt = (m : Int) - a5.toInt := by rw [zi_sub (by omega) (by omega), hmi]
      have y2 : (nI mm - a5).toInt = (mm : Int) - a5.toInt := by rw [zi_sub (by omega) (by omega), hmm2]
      by_cases x6 : (m : Int) - a5.toInt < a2.toInt
      · rw [if_pos (by rw [zi_lt, y1]; exact x6)]
      · rw [if_neg (by rw [zi_lt, y1]; exact x6), if_neg (by rw [zi_le, y2]; omega)]
  obtain ⟨i, hi, rfl⟩ := zi_of w.1.1
  obtain ⟨j, hj, rfl⟩ := zi_of w.2.1
  obtain ⟨n, hn, rfl⟩ := zi_of w.1.2.1
  have w' := w
  rw [zi_nI hi, zi_nI hj, zi_nI hn] at w'
  obtain ⟨T, hT⟩ : ∃ T, T = zwc2 S (40 + 2 * d2) (va_cpy (S.2 (40 + 2 * d)) (S.2 (40 + 2 * d2)) i j n) := ⟨_, rfl⟩
  have fT : T.1 = S.1 := by rw [hT]; rfl
  have t2 : ∀ e q, T.2 e q = if e = 40 + 2 * d2 then (if j ≤ q ∧ q < j + n then S.2 (40 + 2 * d) (i + (q - j)) else S.2 (40 + 2 * d2) q) else S.2 e q := fun e q => by rw [hT, zc2_r]; rfl
  obtain ⟨V, r1, fV, gV⟩ := m_shift1 sc (d := d) (d2 := d2) (i := i) (j := j) (n := n) hd (by omega) n 0 T (by omega)
  obtain ⟨U, r2, fU, gU⟩ := m_shift2 sc (d := d) (d2 := d2) (i := i) (j := j) (n := n) hd2 (by omega) n 0 V (by omega)
  have u1 : U.1 = S.1 := fU.trans (fV.trans fT)
  have u72 : ∀ q, q < 360 → U.2 72 q = if 60 * d2 + j ≤ q ∧ q < 60 * d2 + j + n then S.2 72 (60 * d + i + (q - (60 * d2 + j))) else S.2 72 q := fun q hq => by
    rw [gU]
    by_cases x : 60 * d2 + j ≤ q ∧ q < 60 * d2 + j + n
    · rw [if_pos ⟨rfl, by omega, x.2⟩, gV, if_pos ⟨rfl, by omega, by omega⟩, t2, if_neg (by omega), if_pos x]
    · rw [if_neg (by omega), gV, if_neg (by omega), t2, if_neg (by omega), if_neg x]
  have uE : ∀ d3, d3 < 6 → ∀ q, U.2 (40 + 2 * d3) q = if d3 = d2 ∧ j ≤ q ∧ q < j + n then S.2 (40 + 2 * d) (i + (q - j)) else S.2 (40 + 2 * d3) q := fun d3 hd3 q => by
    rw [gU, if_neg (by omega), gV, if_neg (by omega), t2]
    by_cases x : d3 = d2
    · subst x
      rw [if_pos rfl]
      by_cases y : j ≤ q ∧ q < j + n
      · rw [if_pos y, if_pos ⟨rfl, y⟩]
      · rw [if_neg y, if_neg (fun z => y z.2)]
    · rw [if_neg (by omega), if_neg (fun z => x z.1)]
  refine ⟨nI n, T, U, ?_, ?_, zInv_sh ht h1 h2 h3 h4 h5 (fun c i _ => by rw [u1]) (fun d3 hd3 => ?_)⟩
  · rw [hC3, if_pos w, if_neg, n_cl (by omega), n_cl (by omega), n_cl (by omega), hT]
    rw [n_lt0 (by omega), n_lt0 (by omega), n_lt0 (by omega), n_cl (by omega), n_cl (by omega), n_cl (by omega), false_or, false_or, false_or]
    omega
  · show zcI sc zm_X11_shift [.ref 51, .int (nI d), .int (nI i), .int (nI d2), .int (nI j), .int (nI n)] T = _
    have y1 : nI m - nI n = nI (m - n) := zn_sub (by omega)
    have y2 : nI mm - nI n = nI (mm - n) := zn_sub (by omega)
    rw [hM2 T fT, if_pos rfl, p71, if_neg (by rw [n_lt0 (by omega)]; exact id), if_neg (by rw [n_lt0 (by omega)]; exact id), if_neg (by rw [n_lt0 (by omega)]; exact id), y1, y2, if_neg (by rw [n_lt (by omega) (by omega)]; omega), if_pos (by rw [n_le (by omega) (by omega)]; omega)]
    exact r1.trans r2
  · have hS3 := zSHs_d h6 hd3
    refine zSh_long hS3 (fun i => by rw [u1]) (by rw [u1]) (by rw [u1]) (fun q hq => ?_) (fun s' hs' e' q hq => ?_)
    · rw [u72 _ (by omega), uE d3 hd3]
      by_cases x : d3 = d2 ∧ j ≤ q ∧ q < j + n
      · rw [if_pos (by omega), if_pos x, show 60 * d + i + (60 * d3 + q - (60 * d2 + j)) = 60 * d + (i + (q - j)) by omega]
        exact hS.2.1 _ (by omega)
      · rw [if_neg (by omega), if_neg x]; exact hS3.2.1 q hq
    · rw [uE d3 hd3]
      by_cases x : d3 = d2 ∧ j ≤ q ∧ q < j + n
      · rw [if_pos x]
        have : d3 = d2 := x.1
        subst this
        rw [pw.1, n_eq (by omega) (by omega)] at e'
        subst e'
        exact zSh_rg hS hs' qw.1 _ (by omega)
      · rw [if_neg x]; exact zSh_rg hS3 hs' e' q hq
