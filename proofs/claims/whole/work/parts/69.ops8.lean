theorem m_bec_go (sc : zSc) {S0 : zS} {q : Nat} (hq : q < 66) (x2 x3 : Int32) (h5 : S0.1 51 5 = nI 40) : ∀ (k i : Nat) (S : zS), i + k = 40 → 1 ≤ i → zfr (zk [53, 54, 55] []) S0 S → (∀ c j, (c = 53 ∨ c = 54 ∨ c = 55) → S.1 c j = if j + 1 < i then S0.1 c (j + 1) else S0.1 c j) →
    ∃ S', zO zgI sc (zg1, (zm_X11_becomes, 1), 26, S, [some (.ref 51), some (.int (nI q)), some (.int x2), some (.int x3), some (.int (nI i))], []) = some (x3, S') ∧ zfr (zk [52, 53, 54, 55] [(51, 4), (51, 5)]) S0 S' ∧ S'.1 51 5 = nI 40 ∧ S'.1 51 4 = nI 40 ∧ S'.1 53 39 = nI q ∧ S'.1 54 39 = x3 ∧ S'.1 55 39 = x2 ∧ (∀ j, S'.1 52 j = if j = q then x2 else S0.1 52 j) ∧ (∀ j, j < 39 → zEm (j + 1) j S0 S')
  | 0, i, S, hi, _, f, a => by
    have : i = 40 := by omega
    subst this
    have e5 : S.1 51 5 - (1 : Int32) = nI 39 := by rw [f.1 51 5 rfl, h5]; exact n_p1 (by omega)
    have ob : ¬ (nI 39 < 0 ∨ 40 ≤ (nI 39).toNatClampNeg) := (by first | (rw [n_ob (by omega)]; omega) | (rw [n_obb (by omega)]; omega))
    refine ⟨zw1 (zw1 (zw1 (zw1 (zw1 (zw1 (zw1 S 51 5 (nI 39)) 53 39 (nI q)) 54 39 x3) 55 39 x2) 51 5 (nI 40)) 51 4 (nI 40)) 52 q x2, ?_, zfr_w (zfr_w (zfr_w (zfr_w (zfr_w (zfr_w (zfr_w (zfr_up _ _ f rfl) 51 5 _ rfl) 53 _ _ rfl) 54 _ _ rfl) 55 _ _ rfl) 51 5 _ rfl) 51 4 _ rfl) 52 _ _ rfl, ?_, ?_, ?_, ?_, ?_, fun j => ?_, fun j hj c hc => ?_⟩
    · rw [e_X11_becomes_26, e5, if_pos (by decide), if_neg ob, if_neg ob, if_neg ob, if_neg (by first | (rw [n_ob (by omega)]; omega) | (rw [n_obb (by omega)]; omega)), n_cl (by omega), n_cl (by omega), n_s1]
    · simp only [zw1_r]; simp
    · simp only [zw1_r]; simp
    · simp only [zw1_r]; simp
    · simp only [zw1_r]; simp
    · simp only [zw1_r]; simp
    · by_cases e : j = q
      · rw [if_pos e, e, zw1_y]
      · rw [if_neg e, zw1_n _ _ (fun q => e q.2), zw1_n _ _ (by omega), zw1_n _ _ (by omega), zw1_n _ _ (by omega), zw1_n _ _ (by omega), zw1_n _ _ (by omega), zw1_n _ _ (by omega), f.1 52 j rfl]
    · rw [zw1_n _ _ (by omega), zw1_n _ _ (by omega), zw1_n _ _ (by omega), zw1_n _ _ (by omega), zw1_n _ _ (by omega), zw1_n _ _ (by omega), zw1_n _ _ (by omega), a c j hc, if_pos (by omega)]
  | k + 1, i, S, hi, h1, f, a => by
    obtain ⟨m, rfl⟩ : ∃ m, i = m + 1 := ⟨i - 1, by omega⟩
    have ob : ¬ (nI (m + 1) < 0 ∨ 40 ≤ (nI (m + 1)).toNatClampNeg) := (by first | (rw [n_ob (by omega)]; omega) | (rw [n_obb (by omega)]; omega))
    have ob' : ¬ (nI m < 0 ∨ 40 ≤ (nI m).toNatClampNeg) := (by first | (rw [n_ob (by omega)]; omega) | (rw [n_obb (by omega)]; omega))
    have em : nI (m + 1) - (1 : Int32) = nI m := n_p1 (by omega)
    rw [e_X11_becomes_26, em, if_neg (by rw [show (40 : Int32) = nI 40 from rfl, n_le (by omega) (by omega)]; omega), if_neg ob, if_neg ob', if_neg ob, if_neg ob', if_neg ob, if_neg ob', n_cl (by omega), n_cl (by omega), n_s1, a 53 (m + 1) (by omega), a 54 (m + 1) (by omega), a 55 (m + 1) (by omega), if_neg (by omega), if_neg (by omega), if_neg (by omega)]
    refine m_bec_go sc hq x2 x3 h5 k (m + 1 + 1) _ (by omega) (by omega) (zfr_w (zfr_w (zfr_w f 53 _ _ rfl) 54 _ _ rfl) 55 _ _ rfl) (fun c j hc => ?_)
    by_cases e : j = m
    · subst e
      rw [if_pos (by omega)]
      rcases hc with rfl | rfl | rfl <;> simp only [zw1_r] <;> simp
    · rw [zw1_n _ _ (fun q => e q.2), zw1_n _ _ (fun q => e q.2), zw1_n _ _ (fun q => e q.2), a c j hc]
      by_cases d : j + 1 < m + 1
      · rw [if_pos d, if_pos (by omega)]
      · rw [if_neg d, if_neg (by omega)]
/-- the model's number becomes another -/
theorem m_becomes (sc : zSc) {S : zS} {dn q : Nat} (hd : dn ≤ 40) (h5 : S.1 51 5 = nI dn) (hq : q < 66) {was now : Int32} (hw : S.1 52 q = was) (hne : was ≠ now) :
    ∃ (dn' : Nat) (S' : zS), zcI sc zm_X11_becomes [.ref 51, .int (nI q), .int now] S = some (was, S') ∧ dn' = (if dn < 40 then dn else 39) ∧ zfr (zk [52, 53, 54, 55] [(51, 4), (51, 5)]) S S' ∧ S'.1 51 5 = nI (dn' + 1) ∧ S'.1 51 4 = nI (dn' + 1) ∧ S'.1 53 dn' = nI q ∧ S'.1 54 dn' = was ∧ S'.1 55 dn' = now ∧ (∀ j, S'.1 52 j = if j = q then now else S.1 52 j) ∧ (∀ j, j < dn' → zEm (if dn < 40 then j else j + 1) j S S') := by
  have obq : ¬ (nI q < 0 ∨ 66 ≤ (nI q).toNatClampNeg) := (by first | (rw [n_ob (by omega)]; omega) | (rw [n_obb (by omega)]; omega))
  rw [n_cl (by omega)] at obq
  by_cases c : dn < 40
  · have ob : ¬ (nI dn < 0 ∨ 40 ≤ (nI dn).toNatClampNeg) := (by first | (rw [n_ob (by omega)]; omega) | (rw [n_obb (by omega)]; omega))
    refine ⟨dn, zw1 (zw1 (zw1 (zw1 (zw1 (zw1 S 53 dn (nI q)) 54 dn was) 55 dn now) 51 5 (nI (dn + 1))) 51 4 (nI (dn + 1))) 52 q now, ?_, (if_pos c).symm, zfr_w (zfr_w (zfr_w (zfr_w (zfr_w (zfr_w0 53 _ _ rfl) 54 _ _ rfl) 55 _ _ rfl) 51 5 _ rfl) 51 4 _ rfl) 52 _ _ rfl, ?_, ?_, ?_, ?_, ?_, fun j => ?_, fun j hj cc hc => ?_⟩
    · rw [c_X11_becomes, h5, n_cl (by omega), hw, if_neg obq, if_pos hne, if_pos (by rw [show (40 : Int32) = nI 40 from rfl, n_ne (by omega) (by omega)]; omega), if_neg ob, if_neg ob, if_neg ob, if_neg obq, n_cl (by omega), n_s1]
    · simp only [zw1_r]; simp
    · simp only [zw1_r]; simp
    · simp only [zw1_r]; simp
    · simp only [zw1_r]; simp
    · simp only [zw1_r]; simp
    · by_cases e : j = q
      · rw [if_pos e, e, zw1_y]
      · rw [if_neg e, zw1_n _ _ (fun q => e q.2), zw1_n _ _ (by omega), zw1_n _ _ (by omega), zw1_n _ _ (by omega), zw1_n _ _ (by omega), zw1_n _ _ (by omega)]
    · rw [if_pos c, zw1_n _ _ (by omega), zw1_n _ _ (by omega), zw1_n _ _ (by omega), zw1_n _ _ (by omega), zw1_n _ _ (by omega), zw1_n _ _ (by omega)]
  · have e : dn = 40 := by omega
    subst e
    obtain ⟨S', r, f, r1, r2, r3, r4, r5, r6, r7⟩ := m_bec_go sc hq now was h5 39 1 S rfl (by omega) (zfr_refl _ _) (fun c j hc => by rw [if_neg (by omega)])
    refine ⟨39, S', ?_, rfl, f, r1, r2, r3, r4, r5, r6, fun j hj => by rw [if_neg c]; exact r7 j hj⟩
    rw [c_X11_becomes, h5, n_cl (by omega), hw, if_neg obq, if_pos hne, if_neg (by decide)]
    exact r
theorem o_mend (sc : zSc) {t : Nat} (hT : t < 1000000) {S : zS} (h : zInv t S) (a1 a2 a3 : Int32) : zOp t (zcI sc zm_X10_mend [.ref 0, .int a1, .int a2, .int a3] S) (fun S => zcI sc zm_X11_mend [.ref 51, .int a1, .int a2, .int a3] S) := by
  have h0 := h
  obtain ⟨n, P, cs, gap, cn, ver, vs, ht, h1, h2, h3, ⟨dn, sz, d1, d2, d3, d4, d5, d6, d7⟩, h5, h6⟩ := h
  have hn := h1.1.1.2.1
  obtain ⟨m1, m2⟩ := m_placeOf sc h1.2.1.1 a1 a2
  have neg : (-1 : Int32) < 0 := by decide
  by_cases c : zhas (nI n) a1 a2
  case neg =>
    refine zInv_self h0 (v := -2000000000) ?_ ?_
    · rw [c_X10_mend, c_hasN sc h1.1.1, Option.bind_some]
      dsimp only
      rw [zb_f c, if_pos rfl]
    · show zcI sc zm_X11_mend [.ref 51, .int a1, .int a2, .int a3] S = _
      rw [c_X11_mend, m2 c, Option.bind_some]
      dsimp only
      rw [if_pos neg]
  obtain ⟨p, w, rfl, rfl, hv⟩ := (zhas_n hn).mp c
  have hw : w < 10 := by omega
  have hl := zpl_lt hn hv
  have np : ¬ (nI (zpl p w) < 0) := by rw [n_lt0 (by omega)]; exact fun q => q
  by_cases cf : fitI w a3
  case neg =>
    refine zInv_self h0 (v := -2000000000) ?_ ?_
    · rw [c_X10_mend, c_hasN sc h1.1.1, Option.bind_some]
      dsimp only
      rw [zb_t c, if_neg (by decide), s_fitsN sc S hw, Option.bind_some]
      dsimp only
      rw [zb_f cf, if_neg (by decide)]
    · show zcI sc zm_X11_mend [.ref 51, .int (nI p), .int (nI w), .int a3] S = _
      rw [c_X11_mend, m1 p w rfl rfl hv, Option.bind_some]
      dsimp only
      rw [if_neg np, m_mayBecome sc S hw, Option.bind_some]
      dsimp only
      rw [zb_f cf, if_pos rfl]
  have hC : zcI sc zm_X10_mend [.ref 0, .int (nI p), .int (nI w), .int a3] S = (if vlN P gap cn p w = a3 then some (vlN P gap cn p w, S) else ((zcV sc zm_X1_add [.ref 30, .int (nI p), .int (nI w), .int (vlN P gap cn p w), .int a3] S).bind (fun q4 => (zcV sc zm_X4_set [.ref 1, .int (nI p), .int (nI w), .int a3] q4).bind (fun q5 => some (vlN P gap cn p w, q5))))) := by
    rw [c_X10_mend, c_hasN sc h1.1.1, Option.bind_some]
    dsimp only
    rw [zb_t c, if_neg (by decide), s_fitsN sc S hw, Option.bind_some]
    dsimp only
    rw [zb_t cf, if_pos (by decide), c_getN sc h1 hv, Option.bind_some]
  have hM : ∀ T, zPM n P T → zcI sc zm_X11_mend [.ref 51, .int (nI p), .int (nI w), .int a3] T = (zcI sc zm_X11_becomes [.ref 51, .int (nI (zpl p w)), .int a3] T).bind (fun q3 => some (q3.1, q3.2)) := fun T hT => by
    rw [c_X11_mend, (m_placeOf sc hT (nI p) (nI w)).1 p w rfl rfl hv, Option.bind_some]
    dsimp only
    rw [if_neg np, m_mayBecome sc T hw, Option.bind_some]
    dsimp only
    rw [zb_t cf, if_neg (by decide)]
  by_cases ce : vlN P gap cn p w = a3
  · refine zInv_self h0 (v := vlN P gap cn p w) ?_ ?_
    · rw [hC, if_pos ce]
    · show zcI sc zm_X11_mend [.ref 51, .int (nI p), .int (nI w), .int a3] S = _
      have hmv := m_valN h1 hv
      rw [hM S h1.2.1.1, c_X11_becomes, if_neg (by first | (rw [n_ob (by omega)]; omega) | (rw [n_obb (by omega)]; omega)), n_cl (by omega), hmv, if_neg (fun q => q ce), Option.bind_some]
  obtain ⟨a, rfl, ha⟩ := fit_n hw cf
  obtain ⟨b, hb, hb2⟩ := vlN_ft h1 hv
  obtain ⟨dn', S1, r, rd, r1, r2, r3, r4, r5, r6, r7, f1⟩ := c_add sc (S := S) (dn := dn) (by omega) d3 (nI p) (nI w) (vlN P gap cn p w) (zpv w a)
  have ss := c_setN' sc h1 (S := S1) (fun i => f1.1 1 i rfl) hv (zpv w a)
  have fS2 : zfr (zk [2, 31, 32, 33, 34] [(1, 2), (30, 5), (30, 6)]) S (zw1 (zw1 S1 2 (zci p w) (zpv w a)) 1 2 (nI (ver + 1))) := zfr_w (zfr_w (zfr_up _ _ f1 rfl) 2 _ _ rfl) 1 2 _ rfl
  obtain ⟨dn2, S3, k0, kd, f3, k1, k2, k3, k4, k5, k6, k7⟩ := m_becomes sc (S := zw1 (zw1 S1 2 (zci p w) (zpv w a)) 1 2 (nI (ver + 1))) (dn := dn) (q := zpl p w) (was := vlN P gap cn p w) (now := zpv w a) (by omega) ((fS2.1 51 5 rfl).trans d4) (by omega) ((fS2.1 52 _ rfl).trans (m_valN h1 hv)) ce
  have : dn2 = dn' := by rw [kd, rd]
  subst this
  have f : zfr (zk [2, 52, 30, 31, 32, 33, 34, 53, 54, 55] [(1, 2), (51, 4), (51, 5)]) S S3 := zfr_tr (zfr_up _ _ fS2 rfl) (zfr_up _ _ f3 rfl)
  obtain ⟨P', gap', cn', h1'⟩ := zV1_two h1 hv ha (by omega) f (by rw [f3.1 1 2 rfl, zw1_y])
    (fun j => by
      rw [f3.1 2 j rfl, zw1_n _ _ (by omega)]
      by_cases e : j = zci p w
      · rw [if_pos e, e, zw1_y]
      · rw [if_neg e, zw1_n _ _ (fun q => e q.2), f1.1 2 j rfl])
    (fun j => by rw [k6, fS2.1 52 j rfl])
  have g3 : ∀ c j, (c = 31 ∨ c = 32 ∨ c = 33 ∨ c = 34) → S3.1 c j = S1.1 c j := fun c j hc => by
    rcases hc with rfl | rfl | rfl | rfl
    · rw [f3.1 31 j rfl, zw1_n _ _ (by omega), zw1_n _ _ (by omega)]
    · rw [f3.1 32 j rfl, zw1_n _ _ (by omega), zw1_n _ _ (by omega)]
    · rw [f3.1 33 j rfl, zw1_n _ _ (by omega), zw1_n _ _ (by omega)]
    · rw [f3.1 34 j rfl, zw1_n _ _ (by omega), zw1_n _ _ (by omega)]
  have hdn : dn2 < 40 := by
    rw [rd]; split <;> omega
  have hg4 : zV4 n S3 := by
    refine ⟨dn2 + 1, dn2 + 1, by omega, by omega, ?_, k1, ?_, k2, fun j hj => ?_⟩
    · rw [f3.1 30 5 rfl, zw1_n _ _ (by omega), zw1_n _ _ (by omega), r1]
    · rw [f3.1 30 6 rfl, zw1_n _ _ (by omega), zw1_n _ _ (by omega), r2]
    · by_cases e : j = dn2
      · subst e
        exact ⟨p, w, b, a, hv, hb2, ha, (g3 31 _ (by omega)).trans r3, (g3 32 _ (by omega)).trans r4, k3, ((g3 33 _ (by omega)).trans r5).trans hb, (g3 34 _ (by omega)).trans r6, k4.trans hb, k5⟩
      · have hj' : j < dn2 := by omega
        have hs : (if dn < 40 then j else j + 1) < sz := by
          by_cases c40 : dn < 40
          · rw [if_pos c40] at rd ⊢; omega
          · rw [if_neg c40] at rd ⊢; omega
        refine zEn_cg (d7 _ hs) (fun c hc => ?_)
        rcases (by omega : (c = 31 ∨ c = 32 ∨ c = 33 ∨ c = 34) ∨ (c = 53 ∨ c = 54 ∨ c = 55)) with q | q
        · rw [g3 c j q, r7 j hj' c q]
        · rw [k7 j hj' c q]
          rcases q with rfl | rfl | rfl <;> exact fS2.1 _ _ rfl
  refine ⟨vlN P gap cn p w, zw1 (zw1 S1 2 (zci p w) (zpv w a)) 1 2 (nI (ver + 1)), S3, ?_, ?_, n, P', cs, gap', cn', ver + 1, vs, by omega, h1', zV2_cg h2 (f.1 3 2 rfl) (f.1 51 9 rfl) (fun i => f.1 4 i rfl) (fun i => f.1 57 i rfl), zV3_cg h3 (f.1 24 7 rfl) (f.1 51 29 rfl) (f.1 24 6 rfl) (f.1 51 30 rfl) (fun c i h => by rcases h with rfl | rfl | rfl | rfl | rfl | rfl <;> exact f.1 _ i rfl) (fun c i h => by rcases h with rfl | rfl | rfl | rfl <;> exact f.1 _ i rfl), hg4, zV5_cg h5 (f.1 35 2 rfl) (f.1 51 34 rfl) (f.1 35 3 rfl) (f.1 51 37 rfl) (fun c i h => by rcases h with rfl | rfl | rfl | rfl <;> exact f.1 _ i rfl), zSHs_cg h6 (fun c i h => by rcases h with rfl | rfl | rfl | rfl | rfl | rfl | rfl | rfl <;> exact f.1 _ i rfl) f.2⟩
  · rw [hC, if_neg ce, r, Option.bind_some, ss, Option.bind_some]
  · show zcI sc zm_X11_mend [.ref 51, .int (nI p), .int (nI w), .int (zpv w a)] (zw1 (zw1 S1 2 (zci p w) (zpv w a)) 1 2 (nI (ver + 1))) = _
    have hp : zPM n P (zw1 (zw1 S1 2 (zci p w) (zpv w a)) 1 2 (nI (ver + 1))) := zPM_cg h1.2.1.1 (fS2.1 51 6 rfl) (fun j => fS2.1 52 j rfl)
    rw [hM _ hp, k0, Option.bind_some]
