theorem vs_m1 {vs : Nat} (h : vs ≤ 50) : (nI vs - (1 : Int32)).toInt = (vs : Int) - 1 := by
  by_cases z : vs = 0
  · rw [z]; rfl
  · obtain ⟨j, rfl⟩ : ∃ j, vs = j + 1 := ⟨vs - 1, by omega⟩
    rw [n_p1 (by omega), Nat.add_sub_cancel, zi_nI (by omega)]; omega
theorem s_isOneV (sc : zSc) {vs : Nat} {S : zS} (hv : vs ≤ 50) (h2 : S.1 35 2 = nI vs) (a : Int32) : zcI sc zm_X9_isOne [.ref 35, .int a] S = some (zb (rgp a vs), S) := by
  have w : zcI sc zm_X10_within [.int a, .int (0 : Int32), .int (nI vs - (1 : Int32))] S = some (zb (rgp a vs), S) := by
    rw [s_within, vs_m1 hv, show (0 : Int32).toInt = 0 from rfl]
    refine zb_sm ?_
    unfold rgp
    constructor <;> intro q <;> omega
  rw [c_X9_isOne, h2, w, Option.bind_some]
  dsimp only
  rw [if_pos (zb_01.mpr trivial)]
theorem m_isBodyV (sc : zSc) {vs : Nat} {S : zS} (hv : vs ≤ 50) (h2 : S.1 51 34 = nI vs) (a : Int32) : zcI sc zm_X11_isBody [.ref 51, .int a] S = some (zb (rgp a vs), S) := by
  have w : zcI sc zm_X11_within [.long a.toInt64, .long (Int64.ofNat 0), .long ((nI vs - (1 : Int32)).toInt64)] S = some (zb (rgp a vs), S) := by
    rw [m_within, l32, l32, vs_m1 hv, show (Int64.ofNat 0).toInt = 0 from rfl]
    refine zb_sm ?_
    unfold rgp
    constructor <;> intro q <;> omega
  rw [c_X11_isBody, h2, w, Option.bind_some]
  dsimp only
  rw [if_pos (zb_01.mpr trivial)]
theorem o_keep_0 (sc : zSc) {t : Nat} {S : zS} (h : zInv t S) (a2 : Int32) : zOp t (zcI sc zm_X10_keep [.ref 0, .int (0 : Int32), .int a2] S) (fun S => zcI sc zm_X11_keep [.ref 51, .int (nI 0), .int a2] S) := by
  have h0 := h
  obtain ⟨n, P, cs, gap, cn, ver, vs, ht, h1, h2, h3, h4, h5, h6⟩ := h
  have m1 : ¬ ((0 : Int32) ≠ 0) := fun q => q rfl
  have hbC := s_isOneV sc h5.1 h5.2.1 a2
  have ob : ¬ (nI 0 < 0 ∨ 6 ≤ (nI 0).toNatClampNeg) := (by first | (rw [n_ob (by omega)]; omega) | (rw [n_obb (by omega)]; omega))
  by_cases c : a2 = -1 ∨ rgp a2 vs
  case neg =>
    have c1 : ¬ a2 = -1 := fun q => c (Or.inl q)
    have c2 : ¬ rgp a2 vs := fun q => c (Or.inr q)
    refine zInv_self h0 (v := -1) ?_ ?_
    · rw [c_X10_keep_L0, s_isShelf, Option.bind_some]
      dsimp only
      rw [zb_t (show rg (0 : Int32) 5 by decide), if_neg (by decide), if_neg c1, hbC, Option.bind_some]
      dsimp only
      rw [zb_f c2, if_neg m1]
    · show zcI sc zm_X11_keep [.ref 51, .int (nI 0), .int a2] S = _
      rw [c_X11_keep, m_isShelf', Option.bind_some]
      dsimp only
      rw [zb_t (show rg (nI 0) 5 by decide), if_neg (by decide), if_neg c1, m_isBodyV sc h5.1 h5.2.2.1, Option.bind_some]
      dsimp only
      rw [zb_f c2, if_neg m1]
  have f : zfr (zk [] [(39, 1), (39, 2), (39, 3), (70, 0), (71, 0)]) S (zw1 (zw1 (zw1 (zw1 (zw1 S 39 3 a2) 39 1 (-1)) 39 2 0) 70 0 a2) 71 0 0) := zfr_w (zfr_w (zfr_w (zfr_w (zfr_w0 39 3 _ rfl) 39 1 _ rfl) 39 2 _ rfl) 70 0 _ rfl) 71 0 _ rfl
  have hg : zSh 39 40 0 vs (zw1 (zw1 (zw1 (zw1 (zw1 S 39 3 a2) 39 1 (-1)) 39 2 0) 70 0 a2) 71 0 0) := by
    have r1 : (zw1 (zw1 (zw1 (zw1 (zw1 S 39 3 a2) 39 1 (-1)) 39 2 0) 70 0 a2) 71 0 0).1 39 1 = -1 := by simp only [zw1_r]; simp
    have r2 : (zw1 (zw1 (zw1 (zw1 (zw1 S 39 3 a2) 39 1 (-1)) 39 2 0) 70 0 a2) 71 0 0).1 39 2 = 0 := by simp only [zw1_r]; simp
    have r3 : (zw1 (zw1 (zw1 (zw1 (zw1 S 39 3 a2) 39 1 (-1)) 39 2 0) 70 0 a2) 71 0 0).1 39 3 = a2 := by simp only [zw1_r]; simp
    have r4 : (zw1 (zw1 (zw1 (zw1 (zw1 S 39 3 a2) 39 1 (-1)) 39 2 0) 70 0 a2) 71 0 0).1 70 0 = a2 := by simp only [zw1_r]; simp
    have r5 : (zw1 (zw1 (zw1 (zw1 (zw1 S 39 3 a2) 39 1 (-1)) 39 2 0) 70 0 a2) 71 0 0).1 71 0 = 0 := zw1_y _ _ _ _
    refine ⟨r5.trans r2.symm, fun i hi => by rw [f.2]; exact (h6.1).2.1 i hi, ?_⟩
    rcases c with c | c
    · exact Or.inl ⟨r1, r2, r3.trans c, r4.trans c⟩
    · obtain ⟨b, hb, hb2⟩ := rgp_n c
      exact Or.inr (Or.inl ⟨b, hb2, r1, r2, r3.trans hb, r4.trans hb⟩)
  refine ⟨1, zw1 (zw1 (zw1 S 39 3 a2) 39 1 (-1)) 39 2 0, _, ?_, ?_, n, P, cs, gap, cn, ver, vs, by omega, zV1_cg h1 (fun c i h => by rcases h with rfl | rfl | rfl | rfl | rfl | rfl | rfl | rfl | rfl <;> exact f.1 _ i rfl) (f.1 51 6 rfl) (f.1 51 11 rfl) (f.1 51 18 rfl), zV2_cg h2 (f.1 3 2 rfl) (f.1 51 9 rfl) (fun i => f.1 4 i rfl) (fun i => f.1 57 i rfl), zV3_cg h3 (f.1 24 7 rfl) (f.1 51 29 rfl) (f.1 24 6 rfl) (f.1 51 30 rfl) (fun c i h => by rcases h with rfl | rfl | rfl | rfl | rfl | rfl <;> exact f.1 _ i rfl) (fun c i h => by rcases h with rfl | rfl | rfl | rfl <;> exact f.1 _ i rfl), zV4_cg h4 (f.1 30 5 rfl) (f.1 51 5 rfl) (f.1 30 6 rfl) (f.1 51 4 rfl) (fun c i h => by rcases h with rfl | rfl | rfl | rfl | rfl | rfl | rfl <;> exact f.1 _ i rfl), zV5_cg h5 (f.1 35 2 rfl) (f.1 51 34 rfl) (f.1 35 3 rfl) (f.1 51 37 rfl) (fun c i h => by rcases h with rfl | rfl | rfl | rfl <;> exact f.1 _ i rfl), ⟨hg, zSh_cg (h6.2.1) (fun i => f.1 41 i rfl) (f.1 71 1 rfl) (f.1 70 1 rfl) f.2, zSh_cg (h6.2.2.1) (fun i => f.1 43 i rfl) (f.1 71 2 rfl) (f.1 70 2 rfl) f.2, zSh_cg (h6.2.2.2.1) (fun i => f.1 45 i rfl) (f.1 71 3 rfl) (f.1 70 3 rfl) f.2, zSh_cg (h6.2.2.2.2.1) (fun i => f.1 47 i rfl) (f.1 71 4 rfl) (f.1 70 4 rfl) f.2, zSh_cg (h6.2.2.2.2.2) (fun i => f.1 49 i rfl) (f.1 71 5 rfl) (f.1 70 5 rfl) f.2⟩⟩
  · rw [c_X10_keep_L0, s_isShelf, Option.bind_some]
    dsimp only
    rw [zb_t (show rg (0 : Int32) 5 by decide), if_neg (by decide)]
    by_cases c1 : a2 = -1
    · rw [if_pos c1, c_X6_holdVoice_39, Option.bind_some]
    · rw [if_neg c1, hbC, Option.bind_some]
      dsimp only
      rw [zb_t (c.resolve_left c1), if_pos (by decide), c_X6_holdVoice_39, Option.bind_some]
  · show zcI sc zm_X11_keep [.ref 51, .int (nI 0), .int a2] (zw1 (zw1 (zw1 S 39 3 a2) 39 1 (-1)) 39 2 0) = _
    have hv34 : (zw1 (zw1 (zw1 S 39 3 a2) 39 1 (-1)) 39 2 0).1 51 34 = nI vs := by rw [zw1_n _ _ (by omega), zw1_n _ _ (by omega), zw1_n _ _ (by omega)]; exact h5.2.2.1
    rw [c_X11_keep, m_isShelf', Option.bind_some]
    dsimp only
    rw [zb_t (show rg (nI 0) 5 by decide), if_neg (by decide)]
    by_cases c1 : a2 = -1
    · rw [if_pos c1, if_neg ob, if_neg ob, n_cl (a := 0) (by omega)]
    · rw [if_neg c1, m_isBodyV sc h5.1 hv34, Option.bind_some]
      dsimp only
      rw [zb_t (c.resolve_left c1), if_pos (by decide), if_neg ob, if_neg ob, n_cl (a := 0) (by omega)]
theorem o_keep_1 (sc : zSc) {t : Nat} {S : zS} (h : zInv t S) (a2 : Int32) : zOp t (zcI sc zm_X10_keep [.ref 0, .int (1 : Int32), .int a2] S) (fun S => zcI sc zm_X11_keep [.ref 51, .int (nI 1), .int a2] S) := by
  have h0 := h
  obtain ⟨n, P, cs, gap, cn, ver, vs, ht, h1, h2, h3, h4, h5, h6⟩ := h
  have m1 : ¬ ((0 : Int32) ≠ 0) := fun q => q rfl
  have hbC := s_isOneV sc h5.1 h5.2.1 a2
  have ob : ¬ (nI 1 < 0 ∨ 6 ≤ (nI 1).toNatClampNeg) := (by first | (rw [n_ob (by omega)]; omega) | (rw [n_obb (by omega)]; omega))
  by_cases c : a2 = -1 ∨ rgp a2 vs
  case neg =>
    have c1 : ¬ a2 = -1 := fun q => c (Or.inl q)
    have c2 : ¬ rgp a2 vs := fun q => c (Or.inr q)
    refine zInv_self h0 (v := -1) ?_ ?_
    · rw [c_X10_keep_L1, s_isShelf, Option.bind_some]
      dsimp only
      rw [zb_t (show rg (1 : Int32) 5 by decide), if_neg (by decide), if_neg c1, hbC, Option.bind_some]
      dsimp only
      rw [zb_f c2, if_neg m1]
    · show zcI sc zm_X11_keep [.ref 51, .int (nI 1), .int a2] S = _
      rw [c_X11_keep, m_isShelf', Option.bind_some]
      dsimp only
      rw [zb_t (show rg (nI 1) 5 by decide), if_neg (by decide), if_neg c1, m_isBodyV sc h5.1 h5.2.2.1, Option.bind_some]
      dsimp only
      rw [zb_f c2, if_neg m1]
  have f : zfr (zk [] [(41, 1), (41, 2), (41, 3), (70, 1), (71, 1)]) S (zw1 (zw1 (zw1 (zw1 (zw1 S 41 3 a2) 41 1 (-1)) 41 2 0) 70 1 a2) 71 1 0) := zfr_w (zfr_w (zfr_w (zfr_w (zfr_w0 41 3 _ rfl) 41 1 _ rfl) 41 2 _ rfl) 70 1 _ rfl) 71 1 _ rfl
  have hg : zSh 41 42 1 vs (zw1 (zw1 (zw1 (zw1 (zw1 S 41 3 a2) 41 1 (-1)) 41 2 0) 70 1 a2) 71 1 0) := by
    have r1 : (zw1 (zw1 (zw1 (zw1 (zw1 S 41 3 a2) 41 1 (-1)) 41 2 0) 70 1 a2) 71 1 0).1 41 1 = -1 := by simp only [zw1_r]; simp
    have r2 : (zw1 (zw1 (zw1 (zw1 (zw1 S 41 3 a2) 41 1 (-1)) 41 2 0) 70 1 a2) 71 1 0).1 41 2 = 0 := by simp only [zw1_r]; simp
    have r3 : (zw1 (zw1 (zw1 (zw1 (zw1 S 41 3 a2) 41 1 (-1)) 41 2 0) 70 1 a2) 71 1 0).1 41 3 = a2 := by simp only [zw1_r]; simp
    have r4 : (zw1 (zw1 (zw1 (zw1 (zw1 S 41 3 a2) 41 1 (-1)) 41 2 0) 70 1 a2) 71 1 0).1 70 1 = a2 := by simp only [zw1_r]; simp
    have r5 : (zw1 (zw1 (zw1 (zw1 (zw1 S 41 3 a2) 41 1 (-1)) 41 2 0) 70 1 a2) 71 1 0).1 71 1 = 0 := zw1_y _ _ _ _
    refine ⟨r5.trans r2.symm, fun i hi => by rw [f.2]; exact (h6.2.1).2.1 i hi, ?_⟩
    rcases c with c | c
    · exact Or.inl ⟨r1, r2, r3.trans c, r4.trans c⟩
    · obtain ⟨b, hb, hb2⟩ := rgp_n c
      exact Or.inr (Or.inl ⟨b, hb2, r1, r2, r3.trans hb, r4.trans hb⟩)
  refine ⟨1, zw1 (zw1 (zw1 S 41 3 a2) 41 1 (-1)) 41 2 0, _, ?_, ?_, n, P, cs, gap, cn, ver, vs, by omega, zV1_cg h1 (fun c i h => by rcases h with rfl | rfl | rfl | rfl | rfl | rfl | rfl | rfl | rfl <;> exact f.1 _ i rfl) (f.1 51 6 rfl) (f.1 51 11 rfl) (f.1 51 18 rfl), zV2_cg h2 (f.1 3 2 rfl) (f.1 51 9 rfl) (fun i => f.1 4 i rfl) (fun i => f.1 57 i rfl), zV3_cg h3 (f.1 24 7 rfl) (f.1 51 29 rfl) (f.1 24 6 rfl) (f.1 51 30 rfl) (fun c i h => by rcases h with rfl | rfl | rfl | rfl | rfl | rfl <;> exact f.1 _ i rfl) (fun c i h => by rcases h with rfl | rfl | rfl | rfl <;> exact f.1 _ i rfl), zV4_cg h4 (f.1 30 5 rfl) (f.1 51 5 rfl) (f.1 30 6 rfl) (f.1 51 4 rfl) (fun c i h => by rcases h with rfl | rfl | rfl | rfl | rfl | rfl | rfl <;> exact f.1 _ i rfl), zV5_cg h5 (f.1 35 2 rfl) (f.1 51 34 rfl) (f.1 35 3 rfl) (f.1 51 37 rfl) (fun c i h => by rcases h with rfl | rfl | rfl | rfl <;> exact f.1 _ i rfl), ⟨zSh_cg (h6.1) (fun i => f.1 39 i rfl) (f.1 71 0 rfl) (f.1 70 0 rfl) f.2, hg, zSh_cg (h6.2.2.1) (fun i => f.1 43 i rfl) (f.1 71 2 rfl) (f.1 70 2 rfl) f.2, zSh_cg (h6.2.2.2.1) (fun i => f.1 45 i rfl) (f.1 71 3 rfl) (f.1 70 3 rfl) f.2, zSh_cg (h6.2.2.2.2.1) (fun i => f.1 47 i rfl) (f.1 71 4 rfl) (f.1 70 4 rfl) f.2, zSh_cg (h6.2.2.2.2.2) (fun i => f.1 49 i rfl) (f.1 71 5 rfl) (f.1 70 5 rfl) f.2⟩⟩
  · rw [c_X10_keep_L1, s_isShelf, Option.bind_some]
    dsimp only
    rw [zb_t (show rg (1 : Int32) 5 by decide), if_neg (by decide)]
    by_cases c1 : a2 = -1
    · rw [if_pos c1, c_X6_holdVoice_41, Option.bind_some]
    · rw [if_neg c1, hbC, Option.bind_some]
      dsimp only
      rw [zb_t (c.resolve_left c1), if_pos (by decide), c_X6_holdVoice_41, Option.bind_some]
  · show zcI sc zm_X11_keep [.ref 51, .int (nI 1), .int a2] (zw1 (zw1 (zw1 S 41 3 a2) 41 1 (-1)) 41 2 0) = _
    have hv34 : (zw1 (zw1 (zw1 S 41 3 a2) 41 1 (-1)) 41 2 0).1 51 34 = nI vs := by rw [zw1_n _ _ (by omega), zw1_n _ _ (by omega), zw1_n _ _ (by omega)]; exact h5.2.2.1
    rw [c_X11_keep, m_isShelf', Option.bind_some]
    dsimp only
    rw [zb_t (show rg (nI 1) 5 by decide), if_neg (by decide)]
    by_cases c1 : a2 = -1
    · rw [if_pos c1, if_neg ob, if_neg ob, n_cl (a := 1) (by omega)]
    · rw [if_neg c1, m_isBodyV sc h5.1 hv34, Option.bind_some]
      dsimp only
      rw [zb_t (c.resolve_left c1), if_pos (by decide), if_neg ob, if_neg ob, n_cl (a := 1) (by omega)]
theorem o_keep_2 (sc : zSc) {t : Nat} {S : zS} (h : zInv t S) (a2 : Int32) : zOp t (zcI sc zm_X10_keep [.ref 0, .int (2 : Int32), .int a2] S) (fun S => zcI sc zm_X11_keep [.ref 51, .int (nI 2), .int a2] S) := by
  have h0 := h
  obtain ⟨n, P, cs, gap, cn, ver, vs, ht, h1, h2, h3, h4, h5, h6⟩ := h
  have m1 : ¬ ((0 : Int32) ≠ 0) := fun q => q rfl
  have hbC := s_isOneV sc h5.1 h5.2.1 a2
  have ob : ¬ (nI 2 < 0 ∨ 6 ≤ (nI 2).toNatClampNeg) := (by first | (rw [n_ob (by omega)]; omega) | (rw [n_obb (by omega)]; omega))
  by_cases c : a2 = -1 ∨ rgp a2 vs
  case neg =>
    have c1 : ¬ a2 = -1 := fun q => c (Or.inl q)
    have c2 : ¬ rgp a2 vs := fun q => c (Or.inr q)
    refine zInv_self h0 (v := -1) ?_ ?_
    · rw [c_X10_keep_L2, s_isShelf, Option.bind_some]
      dsimp only
      rw [zb_t (show rg (2 : Int32) 5 by decide), if_neg (by decide), if_neg c1, hbC, Option.bind_some]
      dsimp only
      rw [zb_f c2, if_neg m1]
    · show zcI sc zm_X11_keep [.ref 51, .int (nI 2), .int a2] S = _
      rw [c_X11_keep, m_isShelf', Option.bind_some]
      dsimp only
      rw [zb_t (show rg (nI 2) 5 by decide), if_neg (by decide), if_neg c1, m_isBodyV sc h5.1 h5.2.2.1, Option.bind_some]
      dsimp only
      rw [zb_f c2, if_neg m1]
  have f : zfr (zk [] [(43, 1), (43, 2), (43, 3), (70, 2), (71, 2)]) S (zw1 (zw1 (zw1 (zw1 (zw1 S 43 3 a2) 43 1 (-1)) 43 2 0) 70 2 a2) 71 2 0) := zfr_w (zfr_w (zfr_w (zfr_w (zfr_w0 43 3 _ rfl) 43 1 _ rfl) 43 2 _ rfl) 70 2 _ rfl) 71 2 _ rfl
  have hg : zSh 43 44 2 vs (zw1 (zw1 (zw1 (zw1 (zw1 S 43 3 a2) 43 1 (-1)) 43 2 0) 70 2 a2) 71 2 0) := by
    have r1 : (zw1 (zw1 (zw1 (zw1 (zw1 S 43 3 a2) 43 1 (-1)) 43 2 0) 70 2 a2) 71 2 0).1 43 1 = -1 := by simp only [zw1_r]; simp
    have r2 : (zw1 (zw1 (zw1 (zw1 (zw1 S 43 3 a2) 43 1 (-1)) 43 2 0) 70 2 a2) 71 2 0).1 43 2 = 0 := by simp only [zw1_r]; simp
    have r3 : (zw1 (zw1 (zw1 (zw1 (zw1 S 43 3 a2) 43 1 (-1)) 43 2 0) 70 2 a2) 71 2 0).1 43 3 = a2 := by simp only [zw1_r]; simp
    have r4 : (zw1 (zw1 (zw1 (zw1 (zw1 S 43 3 a2) 43 1 (-1)) 43 2 0) 70 2 a2) 71 2 0).1 70 2 = a2 := by simp only [zw1_r]; simp
    have r5 : (zw1 (zw1 (zw1 (zw1 (zw1 S 43 3 a2) 43 1 (-1)) 43 2 0) 70 2 a2) 71 2 0).1 71 2 = 0 := zw1_y _ _ _ _
    refine ⟨r5.trans r2.symm, fun i hi => by rw [f.2]; exact (h6.2.2.1).2.1 i hi, ?_⟩
    rcases c with c | c
    · exact Or.inl ⟨r1, r2, r3.trans c, r4.trans c⟩
    · obtain ⟨b, hb, hb2⟩ := rgp_n c
      exact Or.inr (Or.inl ⟨b, hb2, r1, r2, r3.trans hb, r4.trans hb⟩)
  refine ⟨1, zw1 (zw1 (zw1 S 43 3 a2) 43 1 (-1)) 43 2 0, _, ?_, ?_, n, P, cs, gap, cn, ver, vs, by omega, zV1_cg h1 (fun c i h => by rcases h with rfl | rfl | rfl | rfl | rfl | rfl | rfl | rfl | rfl <;> exact f.1 _ i rfl) (f.1 51 6 rfl) (f.1 51 11 rfl) (f.1 51 18 rfl), zV2_cg h2 (f.1 3 2 rfl) (f.1 51 9 rfl) (fun i => f.1 4 i rfl) (fun i => f.1 57 i rfl), zV3_cg h3 (f.1 24 7 rfl) (f.1 51 29 rfl) (f.1 24 6 rfl) (f.1 51 30 rfl) (fun c i h => by rcases h with rfl | rfl | rfl | rfl | rfl | rfl <;> exact f.1 _ i rfl) (fun c i h => by rcases h with rfl | rfl | rfl | rfl <;> exact f.1 _ i rfl), zV4_cg h4 (f.1 30 5 rfl) (f.1 51 5 rfl) (f.1 30 6 rfl) (f.1 51 4 rfl) (fun c i h => by rcases h with rfl | rfl | rfl | rfl | rfl | rfl | rfl <;> exact f.1 _ i rfl), zV5_cg h5 (f.1 35 2 rfl) (f.1 51 34 rfl) (f.1 35 3 rfl) (f.1 51 37 rfl) (fun c i h => by rcases h with rfl | rfl | rfl | rfl <;> exact f.1 _ i rfl), ⟨zSh_cg (h6.1) (fun i => f.1 39 i rfl) (f.1 71 0 rfl) (f.1 70 0 rfl) f.2, zSh_cg (h6.2.1) (fun i => f.1 41 i rfl) (f.1 71 1 rfl) (f.1 70 1 rfl) f.2, hg, zSh_cg (h6.2.2.2.1) (fun i => f.1 45 i rfl) (f.1 71 3 rfl) (f.1 70 3 rfl) f.2, zSh_cg (h6.2.2.2.2.1) (fun i => f.1 47 i rfl) (f.1 71 4 rfl) (f.1 70 4 rfl) f.2, zSh_cg (h6.2.2.2.2.2) (fun i => f.1 49 i rfl) (f.1 71 5 rfl) (f.1 70 5 rfl) f.2⟩⟩
  · rw [c_X10_keep_L2, s_isShelf, Option.bind_some]
    dsimp only
    rw [zb_t (show rg (2 : Int32) 5 by decide), if_neg (by decide)]
    by_cases c1 : a2 = -1
    · rw [if_pos c1, c_X6_holdVoice_43, Option.bind_some]
    · rw [if_neg c1, hbC, Option.bind_some]
      dsimp only
      rw [zb_t (c.resolve_left c1), if_pos (by decide), c_X6_holdVoice_43, Option.bind_some]
  · show zcI sc zm_X11_keep [.ref 51, .int (nI 2), .int a2] (zw1 (zw1 (zw1 S 43 3 a2) 43 1 (-1)) 43 2 0) = _
    have hv34 : (zw1 (zw1 (zw1 S 43 3 a2) 43 1 (-1)) 43 2 0).1 51 34 = nI vs := by rw [zw1_n _ _ (by omega), zw1_n _ _ (by omega), zw1_n _ _ (by omega)]; exact h5.2.2.1
    rw [c_X11_keep, m_isShelf', Option.bind_some]
    dsimp only
    rw [zb_t (show rg (nI 2) 5 by decide), if_neg (by decide)]
    by_cases c1 : a2 = -1
    · rw [if_pos c1, if_neg ob, if_neg ob, n_cl (a := 2) (by omega)]
    · rw [if_neg c1, m_isBodyV sc h5.1 hv34, Option.bind_some]
      dsimp only
      rw [zb_t (c.resolve_left c1), if_pos (by decide), if_neg ob, if_neg ob, n_cl (a := 2) (by omega)]
theorem o_keep_3 (sc : zSc) {t : Nat} {S : zS} (h : zInv t S) (a2 : Int32) : zOp t (zcI sc zm_X10_keep [.ref 0, .int (3 : Int32), .int a2] S) (fun S => zcI sc zm_X11_keep [.ref 51, .int (nI 3), .int a2] S) := by
  have h0 := h
  obtain ⟨n, P, cs, gap, cn, ver, vs, ht, h1, h2, h3, h4, h5, h6⟩ := h
  have m1 : ¬ ((0 : Int32) ≠ 0) := fun q => q rfl
  have hbC := s_isOneV sc h5.1 h5.2.1 a2
  have ob : ¬ (nI 3 < 0 ∨ 6 ≤ (nI 3).toNatClampNeg) := (by first | (rw [n_ob (by omega)]; omega) | (rw [n_obb (by omega)]; omega))
  by_cases c : a2 = -1 ∨ rgp a2 vs
  case neg =>
    have c1 : ¬ a2 = -1 := fun q => c (Or.inl q)
    have c2 : ¬ rgp a2 vs := fun q => c (Or.inr q)
    refine zInv_self h0 (v := -1) ?_ ?_
    · rw [c_X10_keep_L3, s_isShelf, Option.bind_some]
      dsimp only
      rw [zb_t (show rg (3 : Int32) 5 by decide), if_neg (by decide), if_neg c1, hbC, Option.bind_some]
      dsimp only
      rw [zb_f c2, if_neg m1]
    · show zcI sc zm_X11_keep [.ref 51, .int (nI 3), .int a2] S = _
      rw [c_X11_keep, m_isShelf', Option.bind_some]
      dsimp only
      rw [zb_t (show rg (nI 3) 5 by decide), if_neg (by decide), if_neg c1, m_isBodyV sc h5.1 h5.2.2.1, Option.bind_some]
      dsimp only
      rw [zb_f c2, if_neg m1]
  have f : zfr (zk [] [(45, 1), (45, 2), (45, 3), (70, 3), (71, 3)]) S (zw1 (zw1 (zw1 (zw1 (zw1 S 45 3 a2) 45 1 (-1)) 45 2 0) 70 3 a2) 71 3 0) := zfr_w (zfr_w (zfr_w (zfr_w (zfr_w0 45 3 _ rfl) 45 1 _ rfl) 45 2 _ rfl) 70 3 _ rfl) 71 3 _ rfl
  have hg : zSh 45 46 3 vs (zw1 (zw1 (zw1 (zw1 (zw1 S 45 3 a2) 45 1 (-1)) 45 2 0) 70 3 a2) 71 3 0) := by
    have r1 : (zw1 (zw1 (zw1 (zw1 (zw1 S 45 3 a2) 45 1 (-1)) 45 2 0) 70 3 a2) 71 3 0).1 45 1 = -1 := by simp only [zw1_r]; simp
    have r2 : (zw1 (zw1 (zw1 (zw1 (zw1 S 45 3 a2) 45 1 (-1)) 45 2 0) 70 3 a2) 71 3 0).1 45 2 = 0 := by simp only [zw1_r]; simp
    have r3 : (zw1 (zw1 (zw1 (zw1 (zw1 S 45 3 a2) 45 1 (-1)) 45 2 0) 70 3 a2) 71 3 0).1 45 3 = a2 := by simp only [zw1_r]; simp
    have r4 : (zw1 (zw1 (zw1 (zw1 (zw1 S 45 3 a2) 45 1 (-1)) 45 2 0) 70 3 a2) 71 3 0).1 70 3 = a2 := by simp only [zw1_r]; simp
    have r5 : (zw1 (zw1 (zw1 (zw1 (zw1 S 45 3 a2) 45 1 (-1)) 45 2 0) 70 3 a2) 71 3 0).1 71 3 = 0 := zw1_y _ _ _ _
    refine ⟨r5.trans r2.symm, fun i hi => by rw [f.2]; exact (h6.2.2.2.1).2.1 i hi, ?_⟩
    rcases c with c | c
    · exact Or.inl ⟨r1, r2, r3.trans c, r4.trans c⟩
    · obtain ⟨b, hb, hb2⟩ := rgp_n c
      exact Or.inr (Or.inl ⟨b, hb2, r1, r2, r3.trans hb, r4.trans hb⟩)
  refine ⟨1, zw1 (zw1 (zw1 S 45 3 a2) 45 1 (-1)) 45 2 0, _, ?_, ?_, n, P, cs, gap, cn, ver, vs, by omega, zV1_cg h1 (fun c i h => by rcases h with rfl | rfl | rfl | rfl | rfl | rfl | rfl | rfl | rfl <;> exact f.1 _ i rfl) (f.1 51 6 rfl) (f.1 51 11 rfl) (f.1 51 18 rfl), zV2_cg h2 (f.1 3 2 rfl) (f.1 51 9 rfl) (fun i => f.1 4 i rfl) (fun i => f.1 57 i rfl), zV3_cg h3 (f.1 24 7 rfl) (f.1 51 29 rfl) (f.1 24 6 rfl) (f.1 51 30 rfl) (fun c i h => by rcases h with rfl | rfl | rfl | rfl | rfl | rfl <;> exact f.1 _ i rfl) (fun c i h => by rcases h with rfl | rfl | rfl | rfl <;> exact f.1 _ i rfl), zV4_cg h4 (f.1 30 5 rfl) (f.1 51 5 rfl) (f.1 30 6 rfl) (f.1 51 4 rfl) (fun c i h => by rcases h with rfl | rfl | rfl | rfl | rfl | rfl | rfl <;> exact f.1 _ i rfl), zV5_cg h5 (f.1 35 2 rfl) (f.1 51 34 rfl) (f.1 35 3 rfl) (f.1 51 37 rfl) (fun c i h => by rcases h with rfl | rfl | rfl | rfl <;> exact f.1 _ i rfl), ⟨zSh_cg (h6.1) (fun i => f.1 39 i rfl) (f.1 71 0 rfl) (f.1 70 0 rfl) f.2, zSh_cg (h6.2.1) (fun i => f.1 41 i rfl) (f.1 71 1 rfl) (f.1 70 1 rfl) f.2, zSh_cg (h6.2.2.1) (fun i => f.1 43 i rfl) (f.1 71 2 rfl) (f.1 70 2 rfl) f.2, hg, zSh_cg (h6.2.2.2.2.1) (fun i => f.1 47 i rfl) (f.1 71 4 rfl) (f.1 70 4 rfl) f.2, zSh_cg (h6.2.2.2.2.2) (fun i => f.1 49 i rfl) (f.1 71 5 rfl) (f.1 70 5 rfl) f.2⟩⟩
  · rw [c_X10_keep_L3, s_isShelf, Option.bind_some]
    dsimp only
    rw [zb_t (show rg (3 : Int32) 5 by decide), if_neg (by decide)]
    by_cases c1 : a2 = -1
    · rw [if_pos c1, c_X6_holdVoice_45, Option.bind_some]
    · rw [if_neg c1, hbC, Option.bind_some]
      dsimp only
      rw [zb_t (c.resolve_left c1), if_pos (by decide), c_X6_holdVoice_45, Option.bind_some]
  · show zcI sc zm_X11_keep [.ref 51, .int (nI 3), .int a2] (zw1 (zw1 (zw1 S 45 3 a2) 45 1 (-1)) 45 2 0) = _
    have hv34 : (zw1 (zw1 (zw1 S 45 3 a2) 45 1 (-1)) 45 2 0).1 51 34 = nI vs := by rw [zw1_n _ _ (by omega), zw1_n _ _ (by omega), zw1_n _ _ (by omega)]; exact h5.2.2.1
    rw [c_X11_keep, m_isShelf', Option.bind_some]
    dsimp only
    rw [zb_t (show rg (nI 3) 5 by decide), if_neg (by decide)]
    by_cases c1 : a2 = -1
    · rw [if_pos c1, if_neg ob, if_neg ob, n_cl (a := 3) (by omega)]
    · rw [if_neg c1, m_isBodyV sc h5.1 hv34, Option.bind_some]
      dsimp only
      rw [zb_t (c.resolve_left c1), if_pos (by decide), if_neg ob, if_neg ob, n_cl (a := 3) (by omega)]
theorem o_keep_4 (sc : zSc) {t : Nat} {S : zS} (h : zInv t S) (a2 : Int32) : zOp t (zcI sc zm_X10_keep [.ref 0, .int (4 : Int32), .int a2] S) (fun S => zcI sc zm_X11_keep [.ref 51, .int (nI 4), .int a2] S) := by
  have h0 := h
  obtain ⟨n, P, cs, gap, cn, ver, vs, ht, h1, h2, h3, h4, h5, h6⟩ := h
  have m1 : ¬ ((0 : Int32) ≠ 0) := fun q => q rfl
  have hbC := s_isOneV sc h5.1 h5.2.1 a2
  have ob : ¬ (nI 4 < 0 ∨ 6 ≤ (nI 4).toNatClampNeg) := (by first | (rw [n_ob (by omega)]; omega) | (rw [n_obb (by omega)]; omega))
  by_cases c : a2 = -1 ∨ rgp a2 vs
  case neg =>
    have c1 : ¬ a2 = -1 := fun q => c (Or.inl q)
    have c2 : ¬ rgp a2 vs := fun q => c (Or.inr q)
    refine zInv_self h0 (v := -1) ?_ ?_
    · rw [c_X10_keep_L4, s_isShelf, Option.bind_some]
      dsimp only
      rw [zb_t (show rg (4 : Int32) 5 by decide), if_neg (by decide), if_neg c1, hbC, Option.bind_some]
      dsimp only
      rw [zb_f c2, if_neg m1]
    · show zcI sc zm_X11_keep [.ref 51, .int (nI 4), .int a2] S = _
      rw [c_X11_keep, m_isShelf', Option.bind_some]
      dsimp only
      rw [zb_t (show rg (nI 4) 5 by decide), if_neg (by decide), if_neg c1, m_isBodyV sc h5.1 h5.2.2.1, Option.bind_some]
      dsimp only
      rw [zb_f c2, if_neg m1]
  have f : zfr (zk [] [(47, 1), (47, 2), (47, 3), (70, 4), (71, 4)]) S (zw1 (zw1 (zw1 (zw1 (zw1 S 47 3 a2) 47 1 (-1)) 47 2 0) 70 4 a2) 71 4 0) := zfr_w (zfr_w (zfr_w (zfr_w (zfr_w0 47 3 _ rfl) 47 1 _ rfl) 47 2 _ rfl) 70 4 _ rfl) 71 4 _ rfl
  have hg : zSh 47 48 4 vs (zw1 (zw1 (zw1 (zw1 (zw1 S 47 3 a2) 47 1 (-1)) 47 2 0) 70 4 a2) 71 4 0) := by
    have r1 : (zw1 (zw1 (zw1 (zw1 (zw1 S 47 3 a2) 47 1 (-1)) 47 2 0) 70 4 a2) 71 4 0).1 47 1 = -1 := by simp only [zw1_r]; simp
    have r2 : (zw1 (zw1 (zw1 (zw1 (zw1 S 47 3 a2) 47 1 (-1)) 47 2 0) 70 4 a2) 71 4 0).1 47 2 = 0 := by simp only [zw1_r]; simp
    have r3 : (zw1 (zw1 (zw1 (zw1 (zw1 S 47 3 a2) 47 1 (-1)) 47 2 0) 70 4 a2) 71 4 0).1 47 3 = a2 := by simp only [zw1_r]; simp
    have r4 : (zw1 (zw1 (zw1 (zw1 (zw1 S 47 3 a2) 47 1 (-1)) 47 2 0) 70 4 a2) 71 4 0).1 70 4 = a2 := by simp only [zw1_r]; simp
    have r5 : (zw1 (zw1 (zw1 (zw1 (zw1 S 47 3 a2) 47 1 (-1)) 47 2 0) 70 4 a2) 71 4 0).1 71 4 = 0 := zw1_y _ _ _ _
    refine ⟨r5.trans r2.symm, fun i hi => by rw [f.2]; exact (h6.2.2.2.2.1).2.1 i hi, ?_⟩
    rcases c with c | c
    · exact Or.inl ⟨r1, r2, r3.trans c, r4.trans c⟩
    · obtain ⟨b, hb, hb2⟩ := rgp_n c
      exact Or.inr (Or.inl ⟨b, hb2, r1, r2, r3.trans hb, r4.trans hb⟩)
  refine ⟨1, zw1 (zw1 (zw1 S 47 3 a2) 47 1 (-1)) 47 2 0, _, ?_, ?_, n, P, cs, gap, cn, ver, vs, by omega, zV1_cg h1 (fun c i h => by rcases h with rfl | rfl | rfl | rfl | rfl | rfl | rfl | rfl | rfl <;> exact f.1 _ i rfl) (f.1 51 6 rfl) (f.1 51 11 rfl) (f.1 51 18 rfl), zV2_cg h2 (f.1 3 2 rfl) (f.1 51 9 rfl) (fun i => f.1 4 i rfl) (fun i => f.1 57 i rfl), zV3_cg h3 (f.1 24 7 rfl) (f.1 51 29 rfl) (f.1 24 6 rfl) (f.1 51 30 rfl) (fun c i h => by rcases h with rfl | rfl | rfl | rfl | rfl | rfl <;> exact f.1 _ i rfl) (fun c i h => by rcases h with rfl | rfl | rfl | rfl <;> exact f.1 _ i rfl), zV4_cg h4 (f.1 30 5 rfl) (f.1 51 5 rfl) (f.1 30 6 rfl) (f.1 51 4 rfl) (fun c i h => by rcases h with rfl | rfl | rfl | rfl | rfl | rfl | rfl <;> exact f.1 _ i rfl), zV5_cg h5 (f.1 35 2 rfl) (f.1 51 34 rfl) (f.1 35 3 rfl) (f.1 51 37 rfl) (fun c i h => by rcases h with rfl | rfl | rfl | rfl <;> exact f.1 _ i rfl), ⟨zSh_cg (h6.1) (fun i => f.1 39 i rfl) (f.1 71 0 rfl) (f.1 70 0 rfl) f.2, zSh_cg (h6.2.1) (fun i => f.1 41 i rfl) (f.1 71 1 rfl) (f.1 70 1 rfl) f.2, zSh_cg (h6.2.2.1) (fun i => f.1 43 i rfl) (f.1 71 2 rfl) (f.1 70 2 rfl) f.2, zSh_cg (h6.2.2.2.1) (fun i => f.1 45 i rfl) (f.1 71 3 rfl) (f.1 70 3 rfl) f.2, hg, zSh_cg (h6.2.2.2.2.2) (fun i => f.1 49 i rfl) (f.1 71 5 rfl) (f.1 70 5 rfl) f.2⟩⟩
  · rw [c_X10_keep_L4, s_isShelf, Option.bind_some]
    dsimp only
    rw [zb_t (show rg (4 : Int32) 5 by decide), if_neg (by decide)]
    by_cases c1 : a2 = -1
    · rw [if_pos c1, c_X6_holdVoice_47, Option.bind_some]
    · rw [if_neg c1, hbC, Option.bind_some]
      dsimp only
      rw [zb_t (c.resolve_left c1), if_pos (by decide), c_X6_holdVoice_47, Option.bind_some]
  · show zcI sc zm_X11_keep [.ref 51, .int (nI 4), .int a2] (zw1 (zw1 (zw1 S 47 3 a2) 47 1 (-1)) 47 2 0) = _
    have hv34 : (zw1 (zw1 (zw1 S 47 3 a2) 47 1 (-1)) 47 2 0).1 51 34 = nI vs := by rw [zw1_n _ _ (by omega), zw1_n _ _ (by omega), zw1_n _ _ (by omega)]; exact h5.2.2.1
    rw [c_X11_keep, m_isShelf', Option.bind_some]
    dsimp only
    rw [zb_t (show rg (nI 4) 5 by decide), if_neg (by decide)]
    by_cases c1 : a2 = -1
    · rw [if_pos c1, if_neg ob, if_neg ob, n_cl (a := 4) (by omega)]
    · rw [if_neg c1, m_isBodyV sc h5.1 hv34, Option.bind_some]
      dsimp only
      rw [zb_t (c.resolve_left c1), if_pos (by decide), if_neg ob, if_neg ob, n_cl (a := 4) (by omega)]
theorem o_keep_5 (sc : zSc) {t : Nat} {S : zS} (h : zInv t S) (a2 : Int32) : zOp t (zcI sc zm_X10_keep [.ref 0, .int (5 : Int32), .int a2] S) (fun S => zcI sc zm_X11_keep [.ref 51, .int (nI 5), .int a2] S) := by
  have h0 := h
  obtain ⟨n, P, cs, gap, cn, ver, vs, ht, h1, h2, h3, h4, h5, h6⟩ := h
  have m1 : ¬ ((0 : Int32) ≠ 0) := fun q => q rfl
  have hbC := s_isOneV sc h5.1 h5.2.1 a2
  have ob : ¬ (nI 5 < 0 ∨ 6 ≤ (nI 5).toNatClampNeg) := (by first | (rw [n_ob (by omega)]; omega) | (rw [n_obb (by omega)]; omega))
  by_cases c : a2 = -1 ∨ rgp a2 vs
  case neg =>
    have c1 : ¬ a2 = -1 := fun q => c (Or.inl q)
    have c2 : ¬ rgp a2 vs := fun q => c (Or.inr q)
    refine zInv_self h0 (v := -1) ?_ ?_
    · rw [c_X10_keep_L5, s_isShelf, Option.bind_some]
      dsimp only
      rw [zb_t (show rg (5 : Int32) 5 by decide), if_neg (by decide), if_neg c1, hbC, Option.bind_some]
      dsimp only
      rw [zb_f c2, if_neg m1]
    · show zcI sc zm_X11_keep [.ref 51, .int (nI 5), .int a2] S = _
      rw [c_X11_keep, m_isShelf', Option.bind_some]
      dsimp only
      rw [zb_t (show rg (nI 5) 5 by decide), if_neg (by decide), if_neg c1, m_isBodyV sc h5.1 h5.2.2.1, Option.bind_some]
      dsimp only
      rw [zb_f c2, if_neg m1]
  have f : zfr (zk [] [(49, 1), (49, 2), (49, 3), (70, 5), (71, 5)]) S (zw1 (zw1 (zw1 (zw1 (zw1 S 49 3 a2) 49 1 (-1)) 49 2 0) 70 5 a2) 71 5 0) := zfr_w (zfr_w (zfr_w (zfr_w (zfr_w0 49 3 _ rfl) 49 1 _ rfl) 49 2 _ rfl) 70 5 _ rfl) 71 5 _ rfl
  have hg : zSh 49 50 5 vs (zw1 (zw1 (zw1 (zw1 (zw1 S 49 3 a2) 49 1 (-1)) 49 2 0) 70 5 a2) 71 5 0) := by
    have r1 : (zw1 (zw1 (zw1 (zw1 (zw1 S 49 3 a2) 49 1 (-1)) 49 2 0) 70 5 a2) 71 5 0).1 49 1 = -1 := by simp only [zw1_r]; simp
    have r2 : (zw1 (zw1 (zw1 (zw1 (zw1 S 49 3 a2) 49 1 (-1)) 49 2 0) 70 5 a2) 71 5 0).1 49 2 = 0 := by simp only [zw1_r]; simp
    have r3 : (zw1 (zw1 (zw1 (zw1 (zw1 S 49 3 a2) 49 1 (-1)) 49 2 0) 70 5 a2) 71 5 0).1 49 3 = a2 := by simp only [zw1_r]; simp
    have r4 : (zw1 (zw1 (zw1 (zw1 (zw1 S 49 3 a2) 49 1 (-1)) 49 2 0) 70 5 a2) 71 5 0).1 70 5 = a2 := by simp only [zw1_r]; simp
    have r5 : (zw1 (zw1 (zw1 (zw1 (zw1 S 49 3 a2) 49 1 (-1)) 49 2 0) 70 5 a2) 71 5 0).1 71 5 = 0 := zw1_y _ _ _ _
    refine ⟨r5.trans r2.symm, fun i hi => by rw [f.2]; exact (h6.2.2.2.2.2).2.1 i hi, ?_⟩
    rcases c with c | c
    · exact Or.inl ⟨r1, r2, r3.trans c, r4.trans c⟩
    · obtain ⟨b, hb, hb2⟩ := rgp_n c
      exact Or.inr (Or.inl ⟨b, hb2, r1, r2, r3.trans hb, r4.trans hb⟩)
  refine ⟨1, zw1 (zw1 (zw1 S 49 3 a2) 49 1 (-1)) 49 2 0, _, ?_, ?_, n, P, cs, gap, cn, ver, vs, by omega, zV1_cg h1 (fun c i h => by rcases h with rfl | rfl | rfl | rfl | rfl | rfl | rfl | rfl | rfl <;> exact f.1 _ i rfl) (f.1 51 6 rfl) (f.1 51 11 rfl) (f.1 51 18 rfl), zV2_cg h2 (f.1 3 2 rfl) (f.1 51 9 rfl) (fun i => f.1 4 i rfl) (fun i => f.1 57 i rfl), zV3_cg h3 (f.1 24 7 rfl) (f.1 51 29 rfl) (f.1 24 6 rfl) (f.1 51 30 rfl) (fun c i h => by rcases h with rfl | rfl | rfl | rfl | rfl | rfl <;> exact f.1 _ i rfl) (fun c i h => by rcases h with rfl | rfl | rfl | rfl <;> exact f.1 _ i rfl), zV4_cg h4 (f.1 30 5 rfl) (f.1 51 5 rfl) (f.1 30 6 rfl) (f.1 51 4 rfl) (fun c i h => by rcases h with rfl | rfl | rfl | rfl | rfl | rfl | rfl <;> exact f.1 _ i rfl), zV5_cg h5 (f.1 35 2 rfl) (f.1 51 34 rfl) (f.1 35 3 rfl) (f.1 51 37 rfl) (fun c i h => by rcases h with rfl | rfl | rfl | rfl <;> exact f.1 _ i rfl), ⟨zSh_cg (h6.1) (fun i => f.1 39 i rfl) (f.1 71 0 rfl) (f.1 70 0 rfl) f.2, zSh_cg (h6.2.1) (fun i => f.1 41 i rfl) (f.1 71 1 rfl) (f.1 70 1 rfl) f.2, zSh_cg (h6.2.2.1) (fun i => f.1 43 i rfl) (f.1 71 2 rfl) (f.1 70 2 rfl) f.2, zSh_cg (h6.2.2.2.1) (fun i => f.1 45 i rfl) (f.1 71 3 rfl) (f.1 70 3 rfl) f.2, zSh_cg (h6.2.2.2.2.1) (fun i => f.1 47 i rfl) (f.1 71 4 rfl) (f.1 70 4 rfl) f.2, hg⟩⟩
  · rw [c_X10_keep_L5, s_isShelf, Option.bind_some]
    dsimp only
    rw [zb_t (show rg (5 : Int32) 5 by decide), if_neg (by decide)]
    by_cases c1 : a2 = -1
    · rw [if_pos c1, c_X6_holdVoice_49, Option.bind_some]
    · rw [if_neg c1, hbC, Option.bind_some]
      dsimp only
      rw [zb_t (c.resolve_left c1), if_pos (by decide), c_X6_holdVoice_49, Option.bind_some]
  · show zcI sc zm_X11_keep [.ref 51, .int (nI 5), .int a2] (zw1 (zw1 (zw1 S 49 3 a2) 49 1 (-1)) 49 2 0) = _
    have hv34 : (zw1 (zw1 (zw1 S 49 3 a2) 49 1 (-1)) 49 2 0).1 51 34 = nI vs := by rw [zw1_n _ _ (by omega), zw1_n _ _ (by omega), zw1_n _ _ (by omega)]; exact h5.2.2.1
    rw [c_X11_keep, m_isShelf', Option.bind_some]
    dsimp only
    rw [zb_t (show rg (nI 5) 5 by decide), if_neg (by decide)]
    by_cases c1 : a2 = -1
    · rw [if_pos c1, if_neg ob, if_neg ob, n_cl (a := 5) (by omega)]
    · rw [if_neg c1, m_isBodyV sc h5.1 hv34, Option.bind_some]
      dsimp only
      rw [zb_t (c.resolve_left c1), if_pos (by decide), if_neg ob, if_neg ob, n_cl (a := 5) (by omega)]
theorem o_keep (sc : zSc) {t : Nat} {S : zS} (h : zInv t S) (a1 a2 : Int32) : zOp t (zcI sc zm_X10_keep [.ref 0, .int a1, .int a2] S) (fun S => zcI sc zm_X11_keep [.ref 51, .int a1, .int a2] S) := by
  by_cases h1 : rg a1 5
  case neg =>
    refine zInv_self h (v := -1) ?_ ?_
    · rw [c_X10_keep, s_isShelf, Option.bind_some]
      dsimp only
      rw [zb_f h1]; rfl
    · show zcI sc zm_X11_keep [.ref 51, .int a1, .int a2] S = _
      rw [c_X11_keep, m_isShelf', Option.bind_some]
      dsimp only
      rw [zb_f h1]; rfl
  obtain ⟨d, rfl, hd⟩ := rg_n h1
  rcases (by omega : d = 0 ∨ d = 1 ∨ d = 2 ∨ d = 3 ∨ d = 4 ∨ d = 5) with rfl | rfl | rfl | rfl | rfl | rfl
  · exact o_keep_0 sc h a2
  · exact o_keep_1 sc h a2
  · exact o_keep_2 sc h a2
  · exact o_keep_3 sc h a2
  · exact o_keep_4 sc h a2
  · exact o_keep_5 sc h a2
