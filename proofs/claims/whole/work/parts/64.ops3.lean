/-! ===== punish, undo, redo ===== -/
theorem c_setN (sc : zSc) {n : Nat} {P : Nat → Nat → Nat} {cs : List Int32} {gap cn ver : Nat} {S : zS} (h : zV1 n P cs gap cn ver S) {p w : Nat} (hv : vld n p w) (x : Int32) : zcV sc zm_X4_set [.ref 1, .int (nI p), .int (nI w), .int x] S = some (zw1 (zw1 S 2 (zci p w) x) 1 2 (nI (ver + 1))) := by
  have hn := h.1.1.2.1
  rw [s_set sc S _ _ x (zPC_sz h.1.1) (by rw [h.1.1.1]; exact (zhas_n hn).mpr ⟨p, w, rfl, rfl, hv⟩), zsl_n hn hv, h.1.2.2.2.2.2.1, n_s1]
theorem c_setN' (sc : zSc) {n : Nat} {P : Nat → Nat → Nat} {cs : List Int32} {gap cn ver : Nat} {S S0 : zS} (h : zV1 n P cs gap cn ver S0) (f1 : ∀ i, S.1 1 i = S0.1 1 i) {p w : Nat} (hv : vld n p w) (x : Int32) : zcV sc zm_X4_set [.ref 1, .int (nI p), .int (nI w), .int x] S = some (zw1 (zw1 S 2 (zci p w) x) 1 2 (nI (ver + 1))) := by
  have hn := h.1.1.2.1
  have hz : zsz S := by
    have := zPC_sz h.1.1
    unfold zsz at this ⊢
    rw [f1]; exact this
  rw [s_set sc S _ _ x hz (by rw [f1, h.1.1.1]; exact (zhas_n hn).mpr ⟨p, w, rfl, rfl, hv⟩), zsl_n hn hv, f1, h.1.2.2.2.2.2.1, n_s1]
theorem o_punish (sc : zSc) {t : Nat} (hT : t < 1000000) {S : zS} (h : zInv t S) (a1 : Int32) : zOp t (zcI sc zm_X10_punish [.ref 0, .int a1] S) (fun S => zcI sc zm_X11_punish [.ref 51, .int a1] S) := by
  have h0 := h
  obtain ⟨n, P, cs, gap, cn, ver, vs, ht, h1, h2, h3, h4, h5, h6⟩ := h
  have hn := h1.1.1.2.1
  by_cases c : rgp a1 n
  case neg =>
    refine zInv_self h0 (v := -1) ?_ ?_
    · rw [c_X10_punish, c_isOne sc h1.1.1, Option.bind_some]
      dsimp only
      rw [zb_f c]; exact if_pos rfl
    · show zcI sc zm_X11_punish [.ref 51, .int a1] S = _
      rw [c_X11_punish, m_isOne sc h1.2.1.1, Option.bind_some]
      dsimp only
      rw [zb_f c]; exact if_neg (fun q => q rfl)
  obtain ⟨p, rfl, hp⟩ := rgp_n c
  have hv : vld n p 3 := Or.inl ⟨by omega, hp⟩
  have e26 := h3.2.1 4 (by omega)
  have e24 : (24 : Int32) + nI p = nI (24 + p) := zn_add 24 p
  have f : zfr (zk [2, 52] [(1, 2), (26, 4), (64, 4)]) S (zw1 (zw1 (zw1 (zw1 (zw1 S 2 (zci p 3) 0) 1 2 (nI (ver + 1))) 26 4 (S.1 26 4 + 1)) 52 (24 + p) 0) 64 4 (S.1 26 4 + 1)) :=
    zfr_w (zfr_w (zfr_w (zfr_w (zfr_w0 2 _ _ rfl) 1 2 _ rfl) 26 4 _ rfl) 52 _ _ rfl) 64 4 _ rfl
  obtain ⟨P', gap', cn', h1'⟩ := zV1_set (S' := zw1 (zw1 (zw1 (zw1 (zw1 S 2 (zci p 3) 0) 1 2 (nI (ver + 1))) 26 4 (S.1 26 4 + 1)) 52 (24 + p) 0) 64 4 (S.1 26 4 + 1)) h1 hv (v := 0) (by omega) (by omega) (f.1 1 1 rfl)
    (by rw [zw1_n _ _ (by omega), zw1_n _ _ (by omega), zw1_n _ _ (by omega), zw1_y])
    (fun j => by
      rw [zw1_n _ _ (by omega), zw1_n _ _ (by omega), zw1_n _ _ (by omega), zw1_n _ _ (by omega)]
      by_cases e : j = zci p 3
      · rw [if_pos e, e, zw1_y]; rfl
      · rw [if_neg e, zw1_n _ _ (fun q => e q.2)])
    (fun j => by
      have ez : zpl p 3 = 24 + p := if_pos (by omega)
      rw [zw1_n _ _ (by omega), ez]
      by_cases e : j = 24 + p
      · rw [if_pos e, e, zw1_y]; rfl
      · rw [if_neg e, zw1_n _ _ (fun q => e q.2), zw1_n _ _ (by omega), zw1_n _ _ (by omega), zw1_n _ _ (by omega)])
    (f.1 6 7 rfl) (f.1 6 2 rfl) (fun j => f.1 7 j rfl) (f.1 51 6 rfl) (f.1 51 11 rfl) (fun j => f.1 58 j rfl) (f.1 51 18 rfl)
  refine ⟨nI (P p 3), zw1 (zw1 (zw1 S 2 (zci p 3) 0) 1 2 (nI (ver + 1))) 26 4 (S.1 26 4 + 1), _, ?_, ?_, n, P', cs, gap', cn', ver + 1, vs, by omega, h1', zV2_cg h2 (f.1 3 2 rfl) (f.1 51 9 rfl) (fun i => f.1 4 i rfl) (fun i => f.1 57 i rfl), ⟨fun q k => ?_, fun q k => ?_, fun q k1 k2 => ?_, zIm_cg h3.2.2.2 (f.1 24 7 rfl) (f.1 51 29 rfl) (f.1 24 6 rfl) (f.1 51 30 rfl) (fun c i h => by rcases h with rfl | rfl | rfl | rfl | rfl | rfl <;> exact f.1 _ i rfl)⟩, zV4_cg h4 (f.1 30 5 rfl) (f.1 51 5 rfl) (f.1 30 6 rfl) (f.1 51 4 rfl) (fun c i h => by rcases h with rfl | rfl | rfl | rfl | rfl | rfl | rfl <;> exact f.1 _ i rfl), zV5_cg h5 (f.1 35 2 rfl) (f.1 51 34 rfl) (f.1 35 3 rfl) (f.1 51 37 rfl) (fun c i h => by rcases h with rfl | rfl | rfl | rfl <;> exact f.1 _ i rfl), zSHs_cg h6 (fun c i h => by rcases h with rfl | rfl | rfl | rfl | rfl | rfl | rfl | rfl <;> exact f.1 _ i rfl) f.2⟩
  · have gg : zcI sc zm_X4_get [.ref 1, .int (nI p), .int (3 : Int32)] S = some (nI (P p 3), S) := s_get3 sc h1.1.1 hp
    have ss : zcV sc zm_X4_set [.ref 1, .int (nI p), .int (3 : Int32), .int (0 : Int32)] S = some (zw1 (zw1 S 2 (zci p 3) 0) 1 2 (nI (ver + 1))) := c_setN sc h1 hv 0
    rw [c_X10_punish, c_isOne sc h1.1.1, Option.bind_some]
    dsimp only
    rw [zb_t c, if_neg (by decide), c_X2_makeMeek, gg, Option.bind_some]
    dsimp only
    rw [ss, Option.bind_some, Option.bind_some, zw1_n _ _ (by omega), zw1_n _ _ (by omega)]
  · show zcI sc zm_X11_punish [.ref 51, .int (nI p)] (zw1 (zw1 (zw1 S 2 (zci p 3) 0) 1 2 (nI (ver + 1))) 26 4 (S.1 26 4 + 1)) = _
    have hM : zPM n P (zw1 (zw1 (zw1 S 2 (zci p 3) 0) 1 2 (nI (ver + 1))) 26 4 (S.1 26 4 + 1)) := zPM_cg h1.2.1.1 (by rw [zw1_n _ _ (by omega), zw1_n _ _ (by omega), zw1_n _ _ (by omega)]) (fun j => by rw [zw1_n _ _ (by omega), zw1_n _ _ (by omega), zw1_n _ _ (by omega)])
    rw [c_X11_punish, m_isOne sc hM, Option.bind_some]
    dsimp only
    rw [zb_t c, if_pos (by decide), m_of3 sc hM hp, Option.bind_some]
    dsimp only
    rw [e24, if_neg (by first | (rw [n_ob (by omega)]; omega) | (rw [n_obb (by omega)]; omega)), n_cl (by omega), zw1_n (d := 64) _ _ (by omega), zw1_n (d := 64) _ _ (by omega), zw1_n (d := 64) _ _ (by omega), e26]
  · rw [f.1 25 q rfl, f.1 56 q rfl]; exact h3.1 q k
  · by_cases e : q = 4
    · rw [e, zw1_n _ _ (by omega), zw1_n _ _ (by omega), zw1_y, zw1_y]
    · rw [zw1_n (d := 64) _ _ (by omega), zw1_n (d := 64) _ _ (by omega), zw1_n (d := 64) _ _ (by omega), zw1_n (d := 64) _ _ (by omega), zw1_n (d := 64) _ _ (by omega), zw1_n (d := 26) _ _ (by omega), zw1_n (d := 26) _ _ (by omega), zw1_n (d := 26) _ _ (by omega), zw1_n (d := 26) _ _ (by omega), zw1_n (d := 26) _ _ (by omega)]
      exact h3.2.1 q k
  · rw [f.1 25 q rfl]; exact h3.2.2.1 q k1 k2
theorem zpl_lt {n p w : Nat} (hn : n ≤ 8) (h : vld n p w) : zpl p w < 66 ∧ zci p w < 66 := by
  unfold zpl zci
  constructor <;> split <;> omega
/-- a number set on both sides, with what lies aside -/
theorem zV1_two {n : Nat} {P : Nat → Nat → Nat} {cs : List Int32} {gap cn ver : Nat} {S S' : zS} (h1 : zV1 n P cs gap cn ver S) {p w v : Nat} (hv : vld n p w) (hf : ftN w v) (hver : ver + 1 < 2147483648)
    (f : zfr (zk [2, 52, 30, 31, 32, 33, 34, 53, 54, 55] [(1, 2), (51, 4), (51, 5)]) S S') (g12 : S'.1 1 2 = nI (ver + 1)) (g2 : ∀ j, S'.1 2 j = if j = zci p w then zpv w v else S.1 2 j) (g52 : ∀ j, S'.1 52 j = if j = zpl p w then zpv w v else S.1 52 j) : ∃ P' gap' cn', zV1 n P' cs gap' cn' (ver + 1) S' :=
  zV1_set h1 hv hf hver (f.1 1 1 rfl) g12 g2 g52 (f.1 6 7 rfl) (f.1 6 2 rfl) (fun j => f.1 7 j rfl) (f.1 51 6 rfl) (f.1 51 11 rfl) (fun j => f.1 58 j rfl) (f.1 51 18 rfl)
theorem o_undo (sc : zSc) {t : Nat} (hT : t < 1000000) {S : zS} (h : zInv t S) : zOp t (zcI sc zm_X10_undo [.ref 0] S) (fun S => zcI sc zm_X11_undo [.ref 51] S) := by
  have h0 := h
  obtain ⟨n, P, cs, gap, cn, ver, vs, ht, h1, h2, h3, ⟨dn, sz, d1, d2, d3, d4, d5, d6, d7⟩, h5, h6⟩ := h
  have hn := h1.1.1.2.1
  by_cases c : dn = 0
  · refine zInv_self h0 (v := -5) ?_ ?_
    · rw [c_X10_undo, c_X1_takeBack, d3, c, if_neg (by decide), Option.bind_some]
    · show zcI sc zm_X11_undo [.ref 51] S = _
      rw [c_X11_undo, d4, c, if_neg (by decide)]
  obtain ⟨i, rfl⟩ : ∃ i, dn = i + 1 := ⟨dn - 1, by omega⟩
  obtain ⟨p, w, b, a, q1, q2, q3, q4, q5, q6, q7, q8, q9, q10⟩ := d7 i (by omega)
  have hl := zpl_lt hn q1
  have ei : nI (i + 1) - (1 : Int32) = nI i := n_p1 (by omega)
  have ob : ¬ (nI i < 0 ∨ 40 ≤ (nI i).toNatClampNeg) := (by first | (rw [n_ob (by omega)]; omega) | (rw [n_obb (by omega)]; omega))
  have ob2 : ¬ (nI (zpl p w) < 0 ∨ 66 ≤ (nI (zpl p w)).toNatClampNeg) := (by first | (rw [n_ob (by omega)]; omega) | (rw [n_obb (by omega)]; omega))
  have f : zfr (zk [2, 52] [(30, 5), (1, 2), (51, 5)]) S (zw1 (zw1 (zw1 (zw1 (zw1 S 30 5 (nI i)) 2 (zci p w) (zpv w b)) 1 2 (nI (ver + 1))) 51 5 (nI i)) 52 (zpl p w) (zpv w b)) :=
    zfr_w (zfr_w (zfr_w (zfr_w (zfr_w0 30 5 _ rfl) 2 _ _ rfl) 1 2 _ rfl) 51 5 _ rfl) 52 _ _ rfl
  obtain ⟨P', gap', cn', h1'⟩ := zV1_two h1 q1 q2 (by omega) (zfr_up _ _ f rfl) (by rw [zw1_n _ _ (by omega), zw1_n _ _ (by omega), zw1_y])
    (fun j => by
      rw [zw1_n _ _ (by omega), zw1_n _ _ (by omega), zw1_n _ _ (by omega)]
      by_cases e : j = zci p w
      · rw [if_pos e, e, zw1_y]
      · rw [if_neg e, zw1_n _ _ (fun q => e q.2), zw1_n _ _ (by omega)])
    (fun j => by
      by_cases e : j = zpl p w
      · rw [if_pos e, e, zw1_y]
      · rw [if_neg e, zw1_n _ _ (fun q => e q.2), zw1_n _ _ (by omega), zw1_n _ _ (by omega), zw1_n _ _ (by omega), zw1_n _ _ (by omega)])
  refine ⟨nI i, zw1 (zw1 (zw1 S 30 5 (nI i)) 2 (zci p w) (zpv w b)) 1 2 (nI (ver + 1)), _, ?_, ?_, n, P', cs, gap', cn', ver + 1, vs, by omega, h1', zV2_cg h2 (f.1 3 2 rfl) (f.1 51 9 rfl) (fun i => f.1 4 i rfl) (fun i => f.1 57 i rfl), zV3_cg h3 (f.1 24 7 rfl) (f.1 51 29 rfl) (f.1 24 6 rfl) (f.1 51 30 rfl) (fun c i h => by rcases h with rfl | rfl | rfl | rfl | rfl | rfl <;> exact f.1 _ i rfl) (fun c i h => by rcases h with rfl | rfl | rfl | rfl <;> exact f.1 _ i rfl), ⟨i, sz, by omega, d2, ?_, ?_, (f.1 30 6 rfl).trans d5, (f.1 51 4 rfl).trans d6, fun j hj => zEn_cg (d7 j hj) (fun c hc => by rcases hc with rfl | rfl | rfl | rfl | rfl | rfl | rfl <;> exact f.1 _ j rfl)⟩, zV5_cg h5 (f.1 35 2 rfl) (f.1 51 34 rfl) (f.1 35 3 rfl) (f.1 51 37 rfl) (fun c i h => by rcases h with rfl | rfl | rfl | rfl <;> exact f.1 _ i rfl), zSHs_cg h6 (fun c i h => by rcases h with rfl | rfl | rfl | rfl | rfl | rfl | rfl | rfl <;> exact f.1 _ i rfl) f.2⟩
  · have ss : zcV sc zm_X4_set [.ref 1, .int (nI p), .int (nI w), .int (zpv w b)] (zw1 S 30 5 (nI i)) = some (zw1 (zw1 (zw1 S 30 5 (nI i)) 2 (zci p w) (zpv w b)) 1 2 (nI (ver + 1))) := c_setN' sc h1 (fun i => zw1_n _ _ (by omega)) q1 _
    rw [c_X10_undo, c_X1_takeBack, d3, if_pos (by rw [show (1 : Int32) = nI 1 from rfl, n_le (by omega) (by omega)]; omega), ei, if_neg ob, if_neg ob, if_neg ob, n_cl (by omega), q4, q5, q7, ss, Option.bind_some, Option.bind_some, zw1_n _ _ (by omega), zw1_n _ _ (by omega), zw1_y]
  · show zcI sc zm_X11_undo [.ref 51] (zw1 (zw1 (zw1 S 30 5 (nI i)) 2 (zci p w) (zpv w b)) 1 2 (nI (ver + 1))) = _
    have r : ∀ c i', c = 51 ∨ c = 53 ∨ c = 54 → (zw1 (zw1 (zw1 S 30 5 (nI i)) 2 (zci p w) (zpv w b)) 1 2 (nI (ver + 1))).1 c i' = S.1 c i' := fun c i' hc => by rw [zw1_n _ _ (by omega), zw1_n _ _ (by omega), zw1_n _ _ (by omega)]
    rw [c_X11_undo, r 51 5 (by omega), d4, if_pos (by rw [n_ne0 (by omega)]; omega), ei, if_neg ob, if_neg ob, n_cl (by omega), r 53 i (by omega), q6, if_neg ob2, n_cl (by omega), r 54 i (by omega), q9]
  · rw [zw1_n _ _ (by omega), zw1_n _ _ (by omega), zw1_n _ _ (by omega), zw1_n _ _ (by omega), zw1_y]
  · rw [zw1_n _ _ (by omega), zw1_y]
theorem o_redo (sc : zSc) {t : Nat} (hT : t < 1000000) {S : zS} (h : zInv t S) : zOp t (zcI sc zm_X10_redo [.ref 0] S) (fun S => zcI sc zm_X11_redo [.ref 51] S) := by
  have h0 := h
  obtain ⟨n, P, cs, gap, cn, ver, vs, ht, h1, h2, h3, ⟨dn, sz, d1, d2, d3, d4, d5, d6, d7⟩, h5, h6⟩ := h
  have hn := h1.1.1.2.1
  by_cases c : dn = sz
  · refine zInv_self h0 (v := -5) ?_ ?_
    · rw [c_X10_redo, c_X1_doAgain, d3, d5, if_neg (by rw [n_lt (by omega) (by omega)]; omega), Option.bind_some]
    · show zcI sc zm_X11_redo [.ref 51] S = _
      rw [c_X11_redo, d4, d6, if_neg (by rw [n_ne (by omega) (by omega)]; omega)]
  obtain ⟨p, w, b, a, q1, q2, q3, q4, q5, q6, q7, q8, q9, q10⟩ := d7 dn (by omega)
  have hl := zpl_lt hn q1
  have ob : ¬ (nI dn < 0 ∨ 40 ≤ (nI dn).toNatClampNeg) := (by first | (rw [n_ob (by omega)]; omega) | (rw [n_obb (by omega)]; omega))
  have ob2 : ¬ (nI (zpl p w) < 0 ∨ 66 ≤ (nI (zpl p w)).toNatClampNeg) := (by first | (rw [n_ob (by omega)]; omega) | (rw [n_obb (by omega)]; omega))
  have f : zfr (zk [2, 52] [(30, 5), (1, 2), (51, 5)]) S (zw1 (zw1 (zw1 (zw1 (zw1 S 2 (zci p w) (zpv w a)) 1 2 (nI (ver + 1))) 30 5 (nI (dn + 1))) 52 (zpl p w) (zpv w a)) 51 5 (nI (dn + 1))) :=
    zfr_w (zfr_w (zfr_w (zfr_w (zfr_w0 2 _ _ rfl) 1 2 _ rfl) 30 5 _ rfl) 52 _ _ rfl) 51 5 _ rfl
  obtain ⟨P', gap', cn', h1'⟩ := zV1_two h1 q1 q3 (by omega) (zfr_up _ _ f rfl) (by rw [zw1_n _ _ (by omega), zw1_n _ _ (by omega), zw1_n _ _ (by omega), zw1_y])
    (fun j => by
      rw [zw1_n _ _ (by omega), zw1_n _ _ (by omega), zw1_n _ _ (by omega), zw1_n _ _ (by omega)]
      by_cases e : j = zci p w
      · rw [if_pos e, e, zw1_y]
      · rw [if_neg e, zw1_n _ _ (fun q => e q.2)])
    (fun j => by
      rw [zw1_n _ _ (by omega)]
      by_cases e : j = zpl p w
      · rw [if_pos e, e, zw1_y]
      · rw [if_neg e, zw1_n _ _ (fun q => e q.2), zw1_n _ _ (by omega), zw1_n _ _ (by omega), zw1_n _ _ (by omega)])
  refine ⟨nI sz - nI (dn + 1), zw1 (zw1 (zw1 S 2 (zci p w) (zpv w a)) 1 2 (nI (ver + 1))) 30 5 (nI (dn + 1)), _, ?_, ?_, n, P', cs, gap', cn', ver + 1, vs, by omega, h1', zV2_cg h2 (f.1 3 2 rfl) (f.1 51 9 rfl) (fun i => f.1 4 i rfl) (fun i => f.1 57 i rfl), zV3_cg h3 (f.1 24 7 rfl) (f.1 51 29 rfl) (f.1 24 6 rfl) (f.1 51 30 rfl) (fun c i h => by rcases h with rfl | rfl | rfl | rfl | rfl | rfl <;> exact f.1 _ i rfl) (fun c i h => by rcases h with rfl | rfl | rfl | rfl <;> exact f.1 _ i rfl), ⟨dn + 1, sz, by omega, d2, ?_, ?_, (f.1 30 6 rfl).trans d5, (f.1 51 4 rfl).trans d6, fun j hj => zEn_cg (d7 j hj) (fun c hc => by rcases hc with rfl | rfl | rfl | rfl | rfl | rfl | rfl <;> exact f.1 _ j rfl)⟩, zV5_cg h5 (f.1 35 2 rfl) (f.1 51 34 rfl) (f.1 35 3 rfl) (f.1 51 37 rfl) (fun c i h => by rcases h with rfl | rfl | rfl | rfl <;> exact f.1 _ i rfl), zSHs_cg h6 (fun c i h => by rcases h with rfl | rfl | rfl | rfl | rfl | rfl | rfl | rfl <;> exact f.1 _ i rfl) f.2⟩
  · have r30 : ∀ i, (zw1 (zw1 S 2 (zci p w) (zpv w a)) 1 2 (nI (ver + 1))).1 30 i = S.1 30 i := fun i => by rw [zw1_n _ _ (by omega), zw1_n _ _ (by omega)]
    rw [c_X10_redo, c_X1_doAgain, d3, d5, if_pos (by rw [n_lt (by omega) (by omega)]; omega), if_neg ob, if_neg ob, if_neg ob, n_cl (by omega), q4, q5, q8, c_setN sc h1 q1, Option.bind_some, Option.bind_some, r30, r30, d3, d5, n_s1]
  · show zcI sc zm_X11_redo [.ref 51] (zw1 (zw1 (zw1 S 2 (zci p w) (zpv w a)) 1 2 (nI (ver + 1))) 30 5 (nI (dn + 1))) = _
    have r : ∀ c i', c = 51 ∨ c = 53 ∨ c = 55 → (zw1 (zw1 (zw1 S 2 (zci p w) (zpv w a)) 1 2 (nI (ver + 1))) 30 5 (nI (dn + 1))).1 c i' = S.1 c i' := fun c i' hc => by rw [zw1_n _ _ (by omega), zw1_n _ _ (by omega), zw1_n _ _ (by omega)]
    rw [c_X11_redo, r 51 5 (by omega), r 51 4 (by omega), d4, d6, if_pos (by rw [n_ne (by omega) (by omega)]; exact c), if_neg ob, if_neg ob, n_cl (by omega), r 53 dn (by omega), q6, if_neg ob2, n_cl (by omega), r 55 dn (by omega), q10, n_s1]
  · rw [zw1_n _ _ (by omega), zw1_n _ _ (by omega), zw1_y]
  · rw [zw1_y]
