theorem zV3_addK {n n' : Nat} {S S' : zS} (h : zV3 n S) (hn : n ≤ n') (f1 : S'.1 24 7 = S.1 24 7) (f2 : S'.1 51 29 = S.1 51 29) (f3 : S'.1 24 6 = S.1 24 6) (f4 : S'.1 51 30 = S.1 51 30) (f : ∀ c i, (c = 27 ∨ c = 28 ∨ c = 29 ∨ c = 65 ∨ c = 66 ∨ c = 67) → S'.1 c i = S.1 c i) (g : ∀ c i, (c = 25 ∨ c = 26 ∨ c = 64) → S'.1 c i = S.1 c i) (g56 : ∀ i, S'.1 56 i = if n ≤ i ∧ i < n' then 0 else S.1 56 i) : zV3 n' S' := by
  refine ⟨fun p k => ?_, fun p k => ?_, fun p k1 k2 => ?_, zIm_n (zIm_cg h.2.2.2 f1 f2 f3 f4 f) hn⟩
  · rw [g 25 p (by omega), g56]
    by_cases c : n ≤ p ∧ p < n'
    · rw [if_pos c]; exact h.2.2.1 p c.1 k
    · rw [if_neg c]; exact h.1 p k
  · rw [g 26 p (by omega), g 64 p (by omega)]; exact h.2.1 p k
  · rw [g 25 p (by omega)]; exact h.2.2.1 p (by omega) k2
theorem zV4_addK {n n' : Nat} {S S' : zS} (h : zV4 n S) (hn : n ≤ n') (f1 : S'.1 30 5 = S.1 30 5) (f2 : S'.1 51 5 = S.1 51 5) (f3 : S'.1 30 6 = S.1 30 6) (f4 : S'.1 51 4 = S.1 51 4) (f : ∀ c i, (c = 31 ∨ c = 32 ∨ c = 33 ∨ c = 34 ∨ c = 53 ∨ c = 54 ∨ c = 55) → S'.1 c i = S.1 c i) : zV4 n' S' := by
  obtain ⟨dn, sz, d1, d2, d3, d4, d5, d6, d7⟩ := zV4_cg h f1 f2 f3 f4 f
  exact ⟨dn, sz, d1, d2, d3, d4, d5, d6, fun i hi => zEn_n (d7 i hi) hn⟩
theorem zV1M_cg {n : Nat} {P : Nat → Nat → Nat} {cs : List Int32} {gap cn : Nat} {S S' : zS} (h : zV1M n P cs gap cn S) (f6 : S'.1 51 6 = S.1 51 6) (f52 : ∀ j, S'.1 52 j = S.1 52 j) (f11 : S'.1 51 11 = S.1 51 11) (f58 : ∀ j, S'.1 58 j = S.1 58 j) (f18 : S'.1 51 18 = S.1 51 18) : zV1M n P cs gap cn S' :=
  ⟨⟨zPM_cg h.1.1 f6 f52, (f52 64).trans h.1.2.1, zTX_cg h.1.2.2.1 f11 f58, zTD_cg h.1.2.2.2 f18⟩, (f52 65).trans h.2⟩
theorem o_pupils (sc : zSc) {t : Nat} (hT : t < 1000000) {S : zS} (h : zInv t S) (a1 a2 a3 : Int32) : zOp t (zcI sc zm_X10_pupils [.ref 0, .int a1, .int a2, .int a3] S) (fun S => zcI sc zm_X11_pupils [.ref 51, .int a1, .int a2, .int a3] S) := by
  have h0 := h
  obtain ⟨n, P, cs, gap, cn, ver, vs, ht, h1, h2, h3, h4, h5, h6⟩ := h
  have m1 : ¬ ((0 : Int32) ≠ 0) := fun q => q rfl
  have k01 : ¬ ((1 : Int32) = 0) := by decide
  have hn := h1.1.1.2.1
  by_cases c : rg a1 5
  case neg =>
    refine zInv_self h0 (v := -1) ?_ ?_
    · rw [c_X10_pupils, s_isShelf, Option.bind_some]
      dsimp only
      rw [zb_f c, if_pos rfl]
    · show zcI sc zm_X11_pupils [.ref 51, .int a1, .int a2, .int a3] S = _
      rw [c_X11_pupils, m_isShelf', Option.bind_some]
      dsimp only
      rw [zb_f c, if_pos rfl, e_X11_pupils_19]
  obtain ⟨d, rfl, hd'⟩ := rg_n c
  have hd : d < 6 := by omega
  have ob : ¬ (nI d < 0 ∨ 6 ≤ (nI d).toNatClampNeg) := (by first | (rw [n_ob (by omega)]; omega) | (rw [n_obb (by omega)]; omega))
  have w8 : zcI sc zm_X10_within [.int a3, .int (1 : Int32), .int (8 : Int32)] S = some (zb (1 ≤ a3.toInt ∧ a3.toInt ≤ 8), S) := s_within sc S a3 1 8
  have v8 : ∀ T : zS, zcI sc zm_X11_within [.long a3.toInt64, .long (Int64.ofNat 1), .long (8 : Int64)] T = some (zb (1 ≤ a3.toInt ∧ a3.toInt ≤ 8), T) := fun T => by
    rw [m_within, l32]; exact zb_sm Iff.rfl
  have hC : zcI sc zm_X10_pupils [.ref 0, .int (nI d), .int a2, .int a3] S = (if zb (1 ≤ a3.toInt ∧ a3.toInt ≤ 8) ≠ 0 then ((zcI sc zm_X6_isEmpty [.ref (39 + 2 * d)] S).bind (fun q3 => (if q3.1 = 0 then ((zcI sc zm_X6_isRowOf [.ref (39 + 2 * d), .int (0 : Int32)] q3.2).bind (fun q4 => (if q4.1 ≠ 0 then zO zgI sc (zg1, (zm_X10_pupils, 6), 55, q4.2, [some (.ref 0), some (.int (nI d)), some (.int a2), some (.int a3), some (.ref (39 + 2 * d)), some (.int (0 : Int32)), some (.int a2)], []) else some ((-12 : Int32), q4.2)))) else some ((0 : Int32), q3.2)))) else some ((-1 : Int32), S)) := by
    rw [g_pupils sc S a2 a3 hd, s_isShelf, Option.bind_some]
    dsimp only
    rw [zb_t c, if_neg k01, w8, Option.bind_some]
  have hM : ∀ T : zS, zcI sc zm_X11_pupils [.ref 51, .int (nI d), .int a2, .int a3] T = (if zb (1 ≤ a3.toInt ∧ a3.toInt ≤ 8) ≠ 0 then (if T.1 70 d < 0 then zO zgI sc (zg1, (zm_X11_pupils, 3), 44, T, [some (.ref 51), some (.int (nI d)), some (.int a2), some (.int a3), none, none, none], []) else (if T.1 70 d = (50 : Int32) then zO zgI sc (zg1, (zm_X11_pupils, 3), 44, T, [some (.ref 51), some (.int (nI d)), some (.int a2), some (.int a3), none, none, none], []) else some ((-12 : Int32), T))) else some ((-1 : Int32), T)) := fun T => by
    rw [c_X11_pupils, m_isShelf', Option.bind_some]
    dsimp only
    rw [zb_t c, if_neg k01, v8, Option.bind_some]
    dsimp only
    rw [e_X11_pupils_19, if_neg ob, if_neg ob, n_cl (a := d) (by omega)]
  have hM44 : ∀ T : zS, zO zgI sc (zg1, (zm_X11_pupils, 3), 44, T, [some (.ref 51), some (.int (nI d)), some (.int a2), some (.int a3), none, none, none], []) = (if T.1 70 d ≠ (50 : Int32) then some ((0 : Int32), T) else (if a2 < 0 then some ((0 : Int32), T) else zO zgI sc (zg1, (zm_X11_pupils, 3), 69, T, [some (.ref 51), some (.int (nI d)), some (.int a2), some (.int a3), some (.int (0 : Int32)), some (.int (1 : Int32)), none], []))) := fun T => by
    rw [e_X11_pupils_44, if_neg ob, n_cl (a := d) (by omega), e_X11_pupils_66, e_X11_pupils_67, e_X11_pupils_67, m_pup_end]
  by_cases c3 : 1 ≤ a3.toInt ∧ a3.toInt ≤ 8
  case neg =>
    refine zInv_self h0 (v := -1) ?_ ?_
    · rw [hC, zb_f c3, if_neg m1]
    · show zcI sc zm_X11_pupils [.ref 51, .int (nI d), .int a2, .int a3] S = _
      rw [hM, zb_f c3, if_neg m1]
  have hS := zSHs_d h6 hd
  rcases g_kind hS h5.1 with q | ⟨b, hb, hbv, q⟩ | ⟨s, m, hs, hm, q, q7⟩
  · refine zInv_self h0 (v := 0) ?_ ?_
    · rw [hC, zb_t c3, if_pos (by decide), e_isEmpty sc hd q, Option.bind_some]
      dsimp only
      rw [if_neg k01]
    · show zcI sc zm_X11_pupils [.ref 51, .int (nI d), .int a2, .int a3] S = _
      rw [hM, zb_t c3, if_pos (by decide), q.2.2.2, if_pos (by decide), hM44, q.2.2.2, if_pos (by decide)]
  · refine zInv_self h0 (v := -12) ?_ ?_
    · rw [hC, zb_t c3, if_pos (by decide), v_isEmpty sc hd hb q, Option.bind_some]
      dsimp only
      rw [if_pos rfl, v_isRowOf sc hd q, Option.bind_some]
      dsimp only
      rw [if_neg m1]
    · show zcI sc zm_X11_pupils [.ref 51, .int (nI d), .int a2, .int a3] S = _
      rw [hM, zb_t c3, if_pos (by decide), q.2.2.2, if_neg (by rw [n_lt0 (by omega)]; exact id), if_neg (by rw [show (50 : Int32) = nI 50 from rfl, n_eq (by omega) (by omega)]; omega)]
  have hro : zcI sc zm_X6_isRowOf [.ref (39 + 2 * d), .int (0 : Int32)] S = some (zb (s = 0), S) := w_isRowOf sc hd hs q (k := 0) (by omega)
  by_cases es : s = 0
  case neg =>
    refine zInv_self h0 (v := -12) ?_ ?_
    · rw [hC, zb_t c3, if_pos (by decide), w_isEmpty sc hd hs q, Option.bind_some]
      dsimp only
      rw [if_pos rfl, hro, Option.bind_some]
      dsimp only
      rw [zb_f es, if_neg m1]
    · show zcI sc zm_X11_pupils [.ref 51, .int (nI d), .int a2, .int a3] S = _
      rw [hM, zb_t c3, if_pos (by decide), q.2.2.2, if_neg (by rw [n_lt0 (by omega)]; exact id), if_neg (by rw [show (50 : Int32) = nI 50 from rfl, n_eq (by omega) (by omega)]; omega)]
  subst es
  have hC2 : zcI sc zm_X10_pupils [.ref 0, .int (nI d), .int a2, .int a3] S = zO zgI sc (zg1, (zm_X10_pupils, 6), 55, S, [some (.ref 0), some (.int (nI d)), some (.int a2), some (.int a3), some (.ref (39 + 2 * d)), some (.int (0 : Int32)), some (.int a2)], []) := by
    rw [hC, zb_t c3, if_pos (by decide), w_isEmpty sc hd hs q, Option.bind_some]
    dsimp only
    rw [if_pos rfl, hro, Option.bind_some]
    dsimp only
    rw [zb_t rfl, if_pos (by decide)]
  have hM2 : ∀ T : zS, T.1 70 d = S.1 70 d → zcI sc zm_X11_pupils [.ref 51, .int (nI d), .int a2, .int a3] T = (if a2 < 0 then some ((0 : Int32), T) else zO zgI sc (zg1, (zm_X11_pupils, 3), 69, T, [some (.ref 51), some (.int (nI d)), some (.int a2), some (.int a3), some (.int (0 : Int32)), some (.int (1 : Int32)), none], [])) := fun T hT => by
    rw [hM, zb_t c3, if_pos (by decide), hT, q.2.2.2, if_neg (by decide), if_pos (by decide), hM44, hT, q.2.2.2, if_neg (by decide)]
  obtain ⟨nn, hnn', rfl⟩ := zi_of (x := a3) (by omega)
  rw [zi_nI hnn'] at c3
  by_cases ca : 0 ≤ a2.toInt ∧ a2.toInt ≤ 100
  case neg =>
    refine zInv_self h0 (v := 0) ?_ ?_
    · have h3 : (3 : Int32).toInt = 3 := rfl
      rw [hC2, g_pupils55 sc S _ _ _ _ hd, if_neg (by rw [n_le0 (by omega)]; omega), g_hasI sc hd q.2.1 hm, Option.bind_some]
      dsimp only
      rw [zb_f (by rw [h3]; omega), if_pos rfl]
    · show zcI sc zm_X11_pupils [.ref 51, .int (nI d), .int a2, .int (nI nn)] S = _
      rw [hM2 S rfl]
      by_cases ca2 : a2 < 0
      · rw [if_pos ca2]
      · have ca3 : 0 ≤ a2.toInt := by
          rw [zi_lt, z0i] at ca2; omega
        have hl : (nI m - (3 : Int32) - (3 : Int32) * (0 : Int32)).toInt = (m : Int) - 3 := by
          have h3 : (3 : Int32).toInt = 3 := rfl
          have q1 : (nI m - (3 : Int32)).toInt = (m : Int) - 3 := by rw [zi_sub (by rw [zi_nI (by omega), h3]; omega) (by rw [zi_nI (by omega), h3]; omega), zi_nI (by omega), h3]
          rw [show (3 : Int32) * (0 : Int32) = 0 by decide, zi_sub (by rw [q1, z0i]; omega) (by rw [q1, z0i]; omega), q1, z0i]; omega
        rw [if_neg ca2, e_X11_pupils_69, if_neg k01, if_neg (by rw [n_le0 (by omega)]; omega), if_neg ob, n_cl (a := d) (by omega), q7, if_pos (by rw [zi_lt, hl]; omega), m_pup_110]
  obtain ⟨i, hi', rfl⟩ := zi_of ca.1
  rw [zi_nI hi'] at ca
  obtain ⟨T, r1, r2, r3⟩ := c_pupils_go sc (d := d) (i := i) (m := m) (nn := nn) (n := n) (ver := ver) (gap := gap) (cn := cn) (e := fun p => S.2 (40 + 2 * d) p) (P := P) (cs := cs) hd hm (by omega) hn (by omega) (nI i) nn 0 S (by omega) (by omega) (by omega) ⟨h1.1, h1.2.2.1, h1.2.2.2.2.2.2⟩ q.2.1 (fun p _ => rfl)
  have le := pCnt_le (fun p => S.2 (40 + 2 * d) p) i m n nn 0 (by omega)
  generalize hK : pCnt (fun p => S.2 (40 + 2 * d) p) i m n nn 0 = K at *
  obtain ⟨U, u1, u2, u3, u4⟩ := m_pupils_go sc (d := d) (i := i) (m := m) (nn := nn) (n := n) (gap := gap) (cn := cn) (e := fun p => S.2 (40 + 2 * d) p) (P := P) (cs := cs) hd hm (by omega) hn (by omega) (zSh_rg hS (by omega) q.1) nn 0 T none (by omega) (by omega) (zV1M_cg (n := n) (P := P) (S := S) ⟨h1.2.1, h1.2.2.2.1⟩ (r3.1 51 6 rfl) (fun j => r3.1 52 j rfl) (r3.1 51 11 rfl) (fun j => r3.1 58 j rfl) (r3.1 51 18 rfl)) ((r3.1 71 d rfl).trans q7) (fun p hp => by rw [r3.2]; exact hS.2.1 p hp)
  rw [hK] at u1 u2 u4
  have f : zfr (zk [2, 52, 56] [(1, 1), (1, 2), (51, 6)]) S U := zfr_tr (zfr_up _ _ r3 rfl) (zfr_up _ _ u3 rfl)
  have hv1 : zV1 (n + K) (pQ (fun p => S.2 (40 + 2 * d) p) i n P K) cs gap cn (ver + 4 * K) U := by
    refine ⟨⟨zPC_cg r2.1.1 (u3.1 1 1 rfl) (fun j => u3.1 2 j rfl), r2.1.2.1, (u3.1 2 64 rfl).trans r2.1.2.2.1, zCD_cg r2.1.2.2.2.1 (u3.1 6 2 rfl) (fun j => u3.1 7 j rfl), fun e => ?_, (u3.1 1 2 rfl).trans r2.1.2.2.2.2.2.1, r2.1.2.2.2.2.2.2.1, ?_⟩, u2.1, (u3.1 2 65 rfl).trans r2.2.1, u2.2, h1.2.2.2.2.1, h1.2.2.2.2.2.1, fun p w a b c => (u3.1 2 _ rfl).trans (r2.2.2 p w a b c)⟩
    · rw [u3.1 6 7 rfl, u3.1 1 2 rfl] at e
      exact zCL_cg (r2.1.2.2.2.2.1 e) (u3.1 6 2 rfl) (fun j => u3.1 7 j rfl) (u3.1 8 1 rfl) (fun j => u3.1 10 j rfl) (fun j => u3.1 11 j rfl)
    · rw [u3.1 6 7 rfl]; exact r2.1.2.2.2.2.2.2.2
  refine ⟨nI K, T, U, ?_, ?_, n + K, _, cs, gap, cn, ver + 4 * K, vs, by omega, hv1, zV2_cg h2 (f.1 3 2 rfl) (f.1 51 9 rfl) (fun i => f.1 4 i rfl) (fun i => f.1 57 i rfl), zV3_addK h3 (by omega) (f.1 24 7 rfl) (f.1 51 29 rfl) (f.1 24 6 rfl) (f.1 51 30 rfl) (fun c i h => by rcases h with rfl | rfl | rfl | rfl | rfl | rfl <;> exact f.1 _ i rfl) (fun c i h => by rcases h with rfl | rfl | rfl <;> exact f.1 _ i rfl) (fun j => by rw [u4, r3.1 56 j rfl]; rfl), zV4_addK h4 (by omega) (f.1 30 5 rfl) (f.1 51 5 rfl) (f.1 30 6 rfl) (f.1 51 4 rfl) (fun c i h => by rcases h with rfl | rfl | rfl | rfl | rfl | rfl | rfl <;> exact f.1 _ i rfl), zV5_cg h5 (f.1 35 2 rfl) (f.1 51 34 rfl) (f.1 35 3 rfl) (f.1 51 37 rfl) (fun c i h => by rcases h with rfl | rfl | rfl | rfl <;> exact f.1 _ i rfl), zSHs_cg h6 (fun c i h => by rcases h with rfl | rfl | rfl | rfl | rfl | rfl | rfl | rfl <;> exact f.1 _ i rfl) f.2⟩
  · rw [hC2]; exact r1
  · show zcI sc zm_X11_pupils [.ref 51, .int (nI d), .int (nI i), .int (nI nn)] T = _
    rw [hM2 T (r3.1 70 d rfl), if_neg (by rw [n_lt0 (by omega)]; exact id)]
    exact u1
