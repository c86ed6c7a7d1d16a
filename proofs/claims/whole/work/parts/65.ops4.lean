/-! ===== a call in deed ===== -/
abbrev nbt (m p : Nat) : Int32 := nI (if m.testBit p = true then 1 else 0)
theorem s_note_go (sc : zSc) {n m : Nat} {S0 : zS} (hn : n ≤ 8) (h1 : S0.1 1 1 = nI n) (h12 : S0.1 12 12 = nI m) (hm : m < 256) : ∀ (k p : Nat) (S : zS), p + k = n → zfr (zx1 25) S0 S → (∀ q, q < p → S.1 25 q = S0.1 25 q + nbt m q) → (∀ q, p ≤ q → S.1 25 q = S0.1 25 q) →
    ∃ S', zO zgV sc (zg1, (zm_X2_note, 2), 54, S, [some (.ref 24), some (.ref 12), some (.int (nI p))], []) = some S' ∧ zfr (zx1 25) S0 S' ∧ (∀ q, q < n → S'.1 25 q = S0.1 25 q + nbt m q) ∧ (∀ q, n ≤ q → S'.1 25 q = S0.1 25 q)
  | 0, p, S, hp, f, a, b => by
    have : p = n := by omega
    subst this
    refine ⟨S, ?_, f, a, b⟩
    rw [e_X2_note_12_54, f.1 1 1 rfl, h1, if_pos (by rw [n_le (by omega) (by omega)]; omega)]
  | k + 1, p, S, hp, f, a, b => by
    have ob : ¬ (nI p < 0 ∨ 8 ≤ (nI p).toNatClampNeg) := (by first | (rw [n_ob (by omega)]; omega) | (rw [n_obb (by omega)]; omega))
    have nx : ∀ x, x = S0.1 25 p + nbt m p → ∃ S', zO zgV sc (zg1, (zm_X2_note, 2), 54, zw1 S 25 p x, [some (.ref 24), some (.ref 12), some (.int (nI (p + 1)))], []) = some S' ∧ zfr (zx1 25) S0 S' ∧ (∀ q, q < n → S'.1 25 q = S0.1 25 q + nbt m q) ∧ (∀ q, n ≤ q → S'.1 25 q = S0.1 25 q) := by
      intro x hx
      refine s_note_go sc hn h1 h12 hm k (p + 1) _ (by omega) (zfr_w f 25 p _ rfl) (fun q hq => ?_) (fun q hq => ?_)
      · by_cases e : q = p
        · rw [e, zw1_y, hx]
        · rw [zw1_n _ _ (by omega)]; exact a q (by omega)
      · rw [zw1_n _ _ (by omega)]; exact b q (by omega)
    rw [e_X2_note_12_54, f.1 1 1 rfl, h1, if_neg (by rw [n_le (by omega) (by omega)]; omega), if_neg ob, f.1 12 12 rfl, h12, s_holds sc S hm (by omega), Option.bind_some]
    dsimp only
    rw [if_neg ob, if_neg ob, n_cl (by omega), b p (Nat.le_refl _), n_s1]
    by_cases c : m.testBit p = true
    · rw [zb_t c, if_neg (by decide)]
      exact nx _ (by unfold nbt; rw [if_pos c]; rfl)
    · rw [zb_f c, if_pos rfl]
      exact nx _ (by unfold nbt; rw [if_neg c]; rfl)
theorem m_note_go (sc : zSc) {n m : Nat} {S0 : zS} (hn : n ≤ 8) (h1 : S0.1 51 6 = nI n) (h21 : S0.1 51 21 = nI m) (hm : m < 256) (x1 x2 : Int32) : ∀ (k p : Nat) (S : zS), p + k = n → zfr (zx1 56) S0 S → (∀ q, q < p → S.1 56 q = S0.1 56 q + nbt m q) → (∀ q, p ≤ q → S.1 56 q = S0.1 56 q) →
    ∃ S', zO zgI sc (zg1, (zm_X11_call, 66), 31, S, [some (.ref 51), some (.int x1), some (.int x2), some (.int (nI p))], []) = some (nI m, zw1 (zw1 (zw1 (zw1 S' 64 0 (S0.1 64 0 + 1)) 64 1 (S0.1 64 1 + S0.1 51 25)) 64 2 (S0.1 64 2 + nI (pcn m))) 64 3 (S0.1 64 3 + S0.1 51 24)) ∧ zfr (zx1 56) S0 S' ∧ (∀ q, q < n → S'.1 56 q = S0.1 56 q + nbt m q) ∧ (∀ q, n ≤ q → S'.1 56 q = S0.1 56 q)
  | 0, p, S, hp, f, a, b => by
    have : p = n := by omega
    subst this
    refine ⟨S, ?_, f, a, b⟩
    rw [e_X11_call_31, f.1 51 6 rfl, h1, if_pos (by rw [n_le (by omega) (by omega)]; omega), f.1 51 21 rfl, h21, m_bitsOf sc _ hm, Option.bind_some]
    dsimp only
    rw [zw1_n (d := 51) _ _ (by omega), zw1_n (d := 51) _ _ (by omega), f.1 51 21 rfl, h21, zw1_n (d := 64) (j := 3) _ _ (by omega), zw1_n (d := 64) (j := 3) _ _ (by omega), zw1_n (d := 51) _ _ (by omega), zw1_n (d := 51) _ _ (by omega), f.1 64 0 rfl, f.1 64 1 rfl, f.1 64 2 rfl, f.1 64 3 rfl, f.1 51 24 rfl, f.1 51 25 rfl]
  | k + 1, p, S, hp, f, a, b => by
    have ob : ¬ (nI p < 0 ∨ 8 ≤ (nI p).toNatClampNeg) := (by first | (rw [n_ob (by omega)]; omega) | (rw [n_obb (by omega)]; omega))
    have nx : ∀ x, x = S0.1 56 p + nbt m p → ∃ S', zO zgI sc (zg1, (zm_X11_call, 66), 31, zw1 S 56 p x, [some (.ref 51), some (.int x1), some (.int x2), some (.int (nI (p + 1)))], []) = some (nI m, zw1 (zw1 (zw1 (zw1 S' 64 0 (S0.1 64 0 + 1)) 64 1 (S0.1 64 1 + S0.1 51 25)) 64 2 (S0.1 64 2 + nI (pcn m))) 64 3 (S0.1 64 3 + S0.1 51 24)) ∧ zfr (zx1 56) S0 S' ∧ (∀ q, q < n → S'.1 56 q = S0.1 56 q + nbt m q) ∧ (∀ q, n ≤ q → S'.1 56 q = S0.1 56 q) := by
      intro x hx
      refine m_note_go sc hn h1 h21 hm x1 x2 k (p + 1) _ (by omega) (zfr_w f 56 p _ rfl) (fun q hq => ?_) (fun q hq => ?_)
      · by_cases e : q = p
        · rw [e, zw1_y, hx]
        · rw [zw1_n _ _ (by omega)]; exact a q (by omega)
      · rw [zw1_n _ _ (by omega)]; exact b q (by omega)
    rw [e_X11_call_31, f.1 51 6 rfl, h1, if_neg (by rw [n_le (by omega) (by omega)]; omega), if_neg ob, f.1 51 21 rfl, h21, m_isIn sc S hm (by omega), Option.bind_some]
    dsimp only
    rw [if_neg ob, if_neg ob, n_cl (by omega), b p (Nat.le_refl _), n_s1]
    by_cases c : m.testBit p = true
    · rw [zb_t c, if_neg (by decide)]
      exact nx _ (by unfold nbt; rw [if_pos c]; rfl)
    · rw [zb_f c, if_pos rfl]
      exact nx _ (by unfold nbt; rw [if_neg c]; rfl)
theorem o_call (sc : zSc) {t : Nat} {S : zS} (h : zInv t S) (a1 a2 : Int32) : zOp t (zcI sc zm_X10_call [.ref 0, .int a1, .int a2] S) (fun S => zcI sc zm_X11_call [.ref 51, .int a1, .int a2] S) := by
  have h0 := h
  obtain ⟨n, P, cs, gap, cn, ver, vs, ht, h1, h2, h3, h4, h5, h6⟩ := h
  have hn := h1.1.1.2.1
  have hr := h1.1.2.1
  by_cases g1 : tok a1
  case neg =>
    refine zInv_self h0 (v := -1) ?_ ?_
    · rw [c_X10_call, s_isLW, Option.bind_some]
      dsimp only
      rw [zb_f g1]; exact if_pos rfl
    · show zcI sc zm_X11_call [.ref 51, .int a1, .int a2] S = _
      rw [c_X11_call, m_isTw, Option.bind_some]
      dsimp only
      rw [zb_f g1]; exact if_pos rfl
  by_cases g2 : rg a2 255
  case neg =>
    refine zInv_self h0 (v := -1) ?_ ?_
    · rw [c_X10_call, s_isLW, Option.bind_some]
      dsimp only
      rw [zb_t g1, if_neg (by decide), s_isBits, Option.bind_some]
      dsimp only
      rw [zb_f g2]; exact if_neg (fun q => q rfl)
    · show zcI sc zm_X11_call [.ref 51, .int a1, .int a2] S = _
      rw [c_X11_call, m_isTw, Option.bind_some]
      dsimp only
      rw [zb_t g1, if_neg (by decide), m_isSet', Option.bind_some]
      dsimp only
      rw [zb_f g2]; exact if_neg (fun q => q rfl)
  obtain ⟨tw, rfl, ht1, ht2, e1, e2⟩ := tok_n g1
  obtain ⟨lk, rfl, hlk⟩ := rg_n g2
  have hg := kcm_good (P := P) (cs := cs) (gap := gap) (o := none) (l := tw / 10) (way := tw % 10) (lk := lk) hn
  obtain ⟨S1, b1, b2, b3, b4, b5⟩ := c_byWay sc h1.1 ht1 ht2 (lk := lk) (by omega)
  -- the class's book
  have k12 : S1.1 12 12 = nI (kcm n P cs gap none (tw / 10) (tw % 10) lk n 3 0) := b2.1
  have fA : zfr (zk [26] []) S1 (zw1 (zw1 (zw1 (zw1 S1 26 0 (S1.1 26 0 + 1)) 26 1 (S1.1 26 1 + S1.1 12 15)) 26 2 (S1.1 26 2 + nI (pcn (kcm n P cs gap none (tw / 10) (tw % 10) lk n 3 0)))) 26 3 (S1.1 26 3 + S1.1 12 16)) :=
    zfr_w (zfr_w (zfr_w (zfr_w0 26 0 _ rfl) 26 1 _ rfl) 26 2 _ rfl) 26 3 _ rfl
  obtain ⟨S2, c1, c2, c3, c4⟩ := s_note_go sc (m := kcm n P cs gap none (tw / 10) (tw % 10) lk n 3 0) hn (S0 := zw1 (zw1 (zw1 (zw1 S1 26 0 (S1.1 26 0 + 1)) 26 1 (S1.1 26 1 + S1.1 12 15)) 26 2 (S1.1 26 2 + nI (pcn (kcm n P cs gap none (tw / 10) (tw % 10) lk n 3 0)))) 26 3 (S1.1 26 3 + S1.1 12 16)) ((fA.1 1 1 rfl).trans b3.1.1.1) ((fA.1 12 12 rfl).trans k12) hg.1 n 0 _ (by omega) (zfr_refl _ _) (fun q hq => by omega) (fun q _ => rfl)
  have f2 : zfr (zk [8, 9, 10, 11, 12, 13, 14, 15, 16, 17, 18, 19, 20, 21, 22, 25, 26] [(6, 7)]) S S2 := zfr_tr (zfr_up _ _ b5 rfl) (zfr_tr (zfr_up _ _ fA rfl) (zfr_up _ _ c2 rfl))
  have hV1 : zV1 n P cs gap cn ver S1 := ⟨b3.1, zME_C h1.2.1 b5, (b5.1 2 65 rfl).trans h1.2.2.1, (b5.1 52 65 rfl).trans h1.2.2.2.1, h1.2.2.2.2.1, h1.2.2.2.2.2.1, fun p w a b c => (b5.1 2 _ rfl).trans (h1.2.2.2.2.2.2 p w a b c)⟩
  have f12 : zfr (zk [25, 26] []) S1 S2 := zfr_tr (zfr_up _ _ fA rfl) (zfr_up _ _ c2 rfl)
  have hV2 : zV1 n P cs gap cn ver S2 := zV1_cg hV1 (fun c i h => by rcases h with rfl | rfl | rfl | rfl | rfl | rfl | rfl | rfl | rfl <;> exact f12.1 _ i rfl) (f12.1 51 6 rfl) (f12.1 51 11 rfl) (f12.1 51 18 rfl)
  -- the model
  obtain ⟨S3, d1, d2, d3, d4⟩ := m_run sc hV2.2.1 hr ht1 ht2 (lk := lk) (by omega)
  obtain ⟨S4, k1, k2, k3, k4⟩ := m_note_go sc (m := kcm n P cs gap none (tw / 10) (tw % 10) lk n 3 0) hn d4.1.1 d2.2.1 hg.1 (nI tw) (nI lk) n 0 S3 (by omega) (zfr_refl _ _) (fun q hq => by omega) (fun q _ => rfl)
  have f35 : zfr (zk [56, 64] []) S3 (zw1 (zw1 (zw1 (zw1 S4 64 0 (S3.1 64 0 + 1)) 64 1 (S3.1 64 1 + S3.1 51 25)) 64 2 (S3.1 64 2 + nI (pcn (kcm n P cs gap none (tw / 10) (tw % 10) lk n 3 0)))) 64 3 (S3.1 64 3 + S3.1 51 24)) :=
    zfr_w (zfr_w (zfr_w (zfr_w (zfr_up _ _ k2 rfl) 64 0 _ rfl) 64 1 _ rfl) 64 2 _ rfl) 64 3 _ rfl
  have f25 : zfr (zk [56, 64, 59, 60, 61] [(51, 12), (51, 13), (51, 14), (51, 15), (51, 16), (51, 21), (51, 22), (51, 23), (51, 24), (51, 25)]) S2 (zw1 (zw1 (zw1 (zw1 S4 64 0 (S3.1 64 0 + 1)) 64 1 (S3.1 64 1 + S3.1 51 25)) 64 2 (S3.1 64 2 + nI (pcn (kcm n P cs gap none (tw / 10) (tw % 10) lk n 3 0)))) 64 3 (S3.1 64 3 + S3.1 51 24)) := zfr_tr (zfr_up _ _ d3 rfl) (zfr_up _ _ f35 rfl)
  have f : zfr (zk [8, 9, 10, 11, 12, 13, 14, 15, 16, 17, 18, 19, 20, 21, 22, 25, 26, 56, 64, 59, 60, 61] [(6, 7), (51, 12), (51, 13), (51, 14), (51, 15), (51, 16), (51, 21), (51, 22), (51, 23), (51, 24), (51, 25)]) S (zw1 (zw1 (zw1 (zw1 S4 64 0 (S3.1 64 0 + 1)) 64 1 (S3.1 64 1 + S3.1 51 25)) 64 2 (S3.1 64 2 + nI (pcn (kcm n P cs gap none (tw / 10) (tw % 10) lk n 3 0)))) 64 3 (S3.1 64 3 + S3.1 51 24)) := zfr_tr (zfr_up _ _ f2 rfl) (zfr_up _ _ f25 rfl)
  have hV5 : zV1 n P cs gap cn ver (zw1 (zw1 (zw1 (zw1 S4 64 0 (S3.1 64 0 + 1)) 64 1 (S3.1 64 1 + S3.1 51 25)) 64 2 (S3.1 64 2 + nI (pcn (kcm n P cs gap none (tw / 10) (tw % 10) lk n 3 0)))) 64 3 (S3.1 64 3 + S3.1 51 24)) := zV1_cg hV2 (fun c i h => by rcases h with rfl | rfl | rfl | rfl | rfl | rfl | rfl | rfl | rfl <;> exact f25.1 _ i rfl) (f25.1 51 6 rfl) (f25.1 51 11 rfl) (f25.1 51 18 rfl)
  have f03 : ∀ c i, c = 56 ∨ c = 64 → S3.1 c i = S.1 c i := fun c i hc => by rcases hc with rfl | rfl <;> rw [d3.1 _ i rfl, f12.1 _ i rfl, b5.1 _ i rfl]
  have f01 : ∀ c i, c = 25 ∨ c = 26 → S1.1 c i = S.1 c i := fun c i hc => by rcases hc with rfl | rfl <;> exact b5.1 _ i rfl
  refine ⟨nI (kcm n P cs gap none (tw / 10) (tw % 10) lk n 3 0), S2, _, ?_, ?_, n, P, cs, gap, cn, ver, vs, by omega, hV5, zV2_cg h2 (f.1 3 2 rfl) (f.1 51 9 rfl) (fun i => f.1 4 i rfl) (fun i => f.1 57 i rfl), ⟨fun q k => ?_, fun q k => ?_, fun q q1 q2 => ?_, zIm_cg h3.2.2.2 (f.1 24 7 rfl) (f.1 51 29 rfl) (f.1 24 6 rfl) (f.1 51 30 rfl) (fun c i h => by rcases h with rfl | rfl | rfl | rfl | rfl | rfl <;> exact f.1 _ i rfl)⟩, zV4_cg h4 (f.1 30 5 rfl) (f.1 51 5 rfl) (f.1 30 6 rfl) (f.1 51 4 rfl) (fun c i h => by rcases h with rfl | rfl | rfl | rfl | rfl | rfl | rfl <;> exact f.1 _ i rfl), zV5_cg h5 (f.1 35 2 rfl) (f.1 51 34 rfl) (f.1 35 3 rfl) (f.1 51 37 rfl) (fun c i h => by rcases h with rfl | rfl | rfl | rfl <;> exact f.1 _ i rfl), zSHs_cg h6 (fun c i h => by rcases h with rfl | rfl | rfl | rfl | rfl | rfl | rfl | rfl <;> exact f.1 _ i rfl) f.2⟩
  · rw [c_X10_call, s_isLW, Option.bind_some]
    dsimp only
    rw [zb_t g1, if_neg (by decide), s_isBits, Option.bind_some]
    dsimp only
    rw [zb_t g2, if_pos (by decide), e2, e1, b1, Option.bind_some, c_X2_note_12, k12, s_bitCount sc _ hg.1, Option.bind_some]
    dsimp only
    have r2 : (zw1 (zw1 S1 26 0 (S1.1 26 0 + 1)) 26 1 (S1.1 26 1 + S1.1 12 15)).1 12 16 = S1.1 12 16 := by rw [zw1_n _ _ (by omega), zw1_n _ _ (by omega)]
    have r3 : (zw1 (zw1 S1 26 0 (S1.1 26 0 + 1)) 26 1 (S1.1 26 1 + S1.1 12 15)).1 26 3 = S1.1 26 3 := by rw [zw1_n _ _ (by omega), zw1_n _ _ (by omega)]
    rw [r2, r3]
    have c1' : zO zgV sc (zg1, (zm_X2_note, 2), 54, zw1 (zw1 (zw1 (zw1 S1 26 0 (S1.1 26 0 + 1)) 26 1 (S1.1 26 1 + S1.1 12 15)) 26 2 (S1.1 26 2 + nI (pcn (kcm n P cs gap none (tw / 10) (tw % 10) lk n 3 0)))) 26 3 (S1.1 26 3 + S1.1 12 16), [some (.ref 24), some (.ref 12), some (.int (0 : Int32))], []) = some S2 := c1
    rw [c1', Option.bind_some, f12.1 12 12 rfl, k12]
  · show zcI sc zm_X11_call [.ref 51, .int (nI tw), .int (nI lk)] S2 = _
    rw [c_X11_call, m_isTw, Option.bind_some]
    dsimp only
    rw [zb_t g1, if_neg (by decide), m_isSet', Option.bind_some]
    dsimp only
    rw [zb_t g2, if_pos (by decide), e2, e1, d1, Option.bind_some]
    exact k1
  · rw [zw1_n (d := 56) _ _ (by omega), zw1_n (d := 56) _ _ (by omega), zw1_n (d := 56) _ _ (by omega), zw1_n (d := 56) _ _ (by omega), f25.1 25 q rfl]
    have r : ∀ q, (zw1 (zw1 (zw1 (zw1 S1 26 0 (S1.1 26 0 + 1)) 26 1 (S1.1 26 1 + S1.1 12 15)) 26 2 (S1.1 26 2 + nI (pcn (kcm n P cs gap none (tw / 10) (tw % 10) lk n 3 0)))) 26 3 (S1.1 26 3 + S1.1 12 16)).1 25 q = S.1 25 q := fun q => by rw [fA.1 25 q rfl]; exact f01 25 q (Or.inl rfl)
    by_cases e : q < n
    · rw [c3 q e, k3 q e, r, f03 56 q (Or.inl rfl), h3.1 q k]
    · rw [c4 q (by omega), k4 q (by omega), r, f03 56 q (Or.inl rfl), h3.1 q k]
  · have r : S2.1 26 q = (zw1 (zw1 (zw1 (zw1 S1 26 0 (S1.1 26 0 + 1)) 26 1 (S1.1 26 1 + S1.1 12 15)) 26 2 (S1.1 26 2 + nI (pcn (kcm n P cs gap none (tw / 10) (tw % 10) lk n 3 0)))) 26 3 (S1.1 26 3 + S1.1 12 16)).1 26 q := c2.1 26 q rfl
    have e25 : S3.1 51 25 = S1.1 12 15 := by rw [d2.2.2.2.2.2, b2.2.2.2.2.1]
    have e24 : S3.1 51 24 = S1.1 12 16 := by rw [d2.2.2.2.2.1, b2.2.2.2.1]
    have s4 : ∀ i, S4.1 64 i = S.1 26 i ∨ 5 ≤ i := fun i => by
      by_cases hi : i < 5
      · left; rw [k2.1 64 i rfl, f03 64 i (Or.inr rfl), h3.2.1 i hi]
      · right; omega
    have s3 : ∀ i, i < 5 → S3.1 64 i = S.1 26 i := fun i hi => by rw [f03 64 i (Or.inr rfl), h3.2.1 i hi]
    have s1 : ∀ i, S1.1 26 i = S.1 26 i := fun i => f01 26 i (Or.inr rfl)
    rw [f25.1 26 q rfl, r, e25, e24, s3 0 (by omega), s3 1 (by omega), s3 2 (by omega), s3 3 (by omega), s1 0, s1 1, s1 2, s1 3]
    simp only [zw1_r]
    rcases (by omega : q = 0 ∨ q = 1 ∨ q = 2 ∨ q = 3 ∨ q = 4) with rfl | rfl | rfl | rfl | rfl
    · simp
    · simp
    · simp
    · simp
    · simp
      rw [s1 4]
      exact ((s4 4).resolve_right (by omega)).symm
  · rw [f25.1 25 q rfl, c4 q q1, fA.1 25 q rfl, f01 25 q (Or.inl rfl)]
    exact h3.2.2.1 q q1 q2
