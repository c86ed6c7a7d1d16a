/-! ===== back ===== -/
theorem c_back_go (sc : zSc) {n kn ver : Nat} {bo : Nat → Nat} {S0 : zS} (hn : n ≤ 8) (hk : kn ≤ n) (h1 : S0.1 1 1 = nI n) (h6 : S0.1 24 6 = nI kn) (hb : ∀ q, q < kn → S0.1 28 q = nI (bo q)) : ∀ (k p : Nat) (S : zS), p + k = kn → zfr (zk [2] [(1, 2)]) S0 S → S.1 1 2 = nI (ver + p) → (∀ j, S.1 2 j = if j % 8 = 3 ∧ j / 8 < p then nI (bo (j / 8)) else S0.1 2 j) →
    ∃ S', zO zgI sc (zg1, (zm_X2_layBack, 4), 12, S, [some (.ref 24), some (.int (nI p))], []) = some (S0.1 29 0, S') ∧ zfr (zk [2, 25, 26] [(1, 2)]) S0 S' ∧ S'.1 1 2 = nI (ver + kn) ∧ (∀ j, S'.1 2 j = if j % 8 = 3 ∧ j / 8 < kn then nI (bo (j / 8)) else S0.1 2 j) ∧ (∀ q, q < 8 → S'.1 25 q = S0.1 27 q) ∧ (∀ q, q < 5 → S'.1 26 q = S0.1 29 q)
  | 0, p, S, hp, f, hv, a => by
    have : p = kn := by omega
    subst this
    have r26 : (zwc1 (zwc1 S 25 (va_cpy (S.1 27) (S.1 25) 0 0 8)) 26 (va_cpy ((zwc1 S 25 (va_cpy (S.1 27) (S.1 25) 0 0 8)).1 29) ((zwc1 S 25 (va_cpy (S.1 27) (S.1 25) 0 0 8)).1 26) 0 0 5)).1 26 0 = S0.1 29 0 := by
      rw [zc1_r, if_pos rfl, cpy0 (by omega), zc1_r, if_neg (by omega), f.1 29 0 rfl]
    refine ⟨zwc1 (zwc1 S 25 (va_cpy (S.1 27) (S.1 25) 0 0 8)) 26 (va_cpy ((zwc1 S 25 (va_cpy (S.1 27) (S.1 25) 0 0 8)).1 29) ((zwc1 S 25 (va_cpy (S.1 27) (S.1 25) 0 0 8)).1 26) 0 0 5), ?_, zfr_tr (zfr_up _ _ f rfl) (zfr_tr (zwc_f _ (fun _ => rfl)) (zwc_f _ (fun _ => rfl))), ?_, fun j => ?_, fun q hq => ?_, fun q hq => ?_⟩
    · rw [e_X2_layBack_12, f.1 24 6 rfl, h6, if_pos (by rw [n_le (by omega) (by omega)]; omega), if_neg cpy_ok8, if_neg cpy_ok5, cl0, cl8, cl5, r26]
    · rw [zc1_r, if_neg (by omega), zc1_r, if_neg (by omega), hv]
    · rw [zc1_r, if_neg (by omega), zc1_r, if_neg (by omega)]; exact a j
    · rw [zc1_r, if_neg (by omega), zc1_r, if_pos rfl, cpy0 hq, f.1 27 q rfl]
    · rw [zc1_r, if_pos rfl, cpy0 hq, zc1_r, if_neg (by omega), f.1 29 q rfl]
  | k + 1, p, S, hp, f, hv, a => by
    have hz : zsz S := by
      unfold zsz
      rw [f.1 1 1 rfl, h1, zi_nI (by omega)]; omega
    have ss : zcV sc zm_X4_set [.ref 1, .int (nI p), .int (3 : Int32), .int (nI (bo p))] S = some (zw1 (zw1 S 2 (8 * p + 3) (nI (bo p))) 1 2 (nI (ver + (p + 1)))) := by
      have hvd : vld n p 3 := Or.inl ⟨by omega, by omega⟩
      have := s_set sc S (nI p) (nI 3) (nI (bo p)) hz (by rw [f.1 1 1 rfl, h1]; exact (zhas_n hn).mpr ⟨p, 3, rfl, rfl, hvd⟩)
      rw [zsl_n hn hvd, hv, n_s1] at this
      exact this
    rw [e_X2_layBack_12, f.1 24 6 rfl, h6, if_neg (by rw [n_le (by omega) (by omega)]; omega), if_neg (by first | (rw [n_ob (by omega)]; omega) | (rw [n_obb (by omega)]; omega)), n_cl (by omega), f.1 28 p rfl, hb p (by omega), ss, Option.bind_some, n_s1]
    refine c_back_go sc hn hk h1 h6 hb k (p + 1) _ (by omega) (zfr_w (zfr_w f 2 _ _ rfl) 1 2 _ rfl) (zw1_y _ _ _ _) (fun j => ?_)
    rw [zw1_n _ _ (by omega)]
    by_cases e : j = 8 * p + 3
    · rw [e, zw1_y, if_pos (by omega), show (8 * p + 3) / 8 = p by omega]
    · rw [zw1_n _ _ (fun q => e q.2), a]
      by_cases c : j % 8 = 3 ∧ j / 8 < p
      · rw [if_pos c, if_pos (by omega)]
      · rw [if_neg c, if_neg (by omega)]
theorem m_back5 (sc : zSc) {S0 : zS} : ∀ (k p : Nat) (S : zS), p + k = 5 → zfr (zx1 64) S0 S → (∀ q, q < p → S.1 64 q = S0.1 67 q) →
    ∃ S', zO zgI sc (zg1, (zm_X11_back, 1), 75, S, [some (.ref 51), some (.int (nI p))], []) = some (S0.1 67 0, S') ∧ zfr (zx1 64) S0 S' ∧ (∀ q, q < 5 → S'.1 64 q = S0.1 67 q)
  | 0, p, S, hp, f, a => by
    have : p = 5 := by omega
    subst this
    exact ⟨S, by rw [e_X11_back_75, if_pos (by decide), a 0 (by omega)], f, a⟩
  | k + 1, p, S, hp, f, a => by
    have ob : ¬ (nI p < 0 ∨ 5 ≤ (nI p).toNatClampNeg) := (by first | (rw [n_ob (by omega)]; omega) | (rw [n_obb (by omega)]; omega))
    rw [e_X11_back_75, if_neg (by rw [show (5 : Int32) = nI 5 from rfl, n_le (by omega) (by omega)]; omega), if_neg ob, if_neg ob, n_cl (by omega), n_s1, f.1 67 p rfl]
    refine m_back5 sc k (p + 1) _ (by omega) (zfr_w f 64 p _ rfl) (fun q hq => ?_)
    by_cases e : q = p
    · rw [e, zw1_y]
    · rw [zw1_n _ _ (by omega)]; exact a q (by omega)
theorem m_back_go (sc : zSc) {n kn : Nat} {bo : Nat → Nat} {S0 : zS} (hn : n ≤ 8) (hk : kn ≤ n) (h1 : S0.1 51 6 = nI n) (h30 : S0.1 51 30 = nI kn) (hb : ∀ q, q < kn → S0.1 65 q = nI (bo q)) : ∀ (k p : Nat) (S : zS), p + k = n → zfr (zk [52, 56] []) S0 S → (∀ j, S.1 52 j = if 24 ≤ j ∧ j < 24 + p ∧ j < 24 + kn then nI (bo (j - 24)) else S0.1 52 j) → (∀ q, q < p → S.1 56 q = if q < kn then S0.1 66 q else 0) → (∀ q, p ≤ q → S.1 56 q = S0.1 56 q) →
    ∃ S', zO zgI sc (zg1, (zm_X11_back, 1), 12, S, [some (.ref 51), some (.int (nI p))], []) = some (S0.1 67 0, S') ∧ zfr (zk [52, 56, 64] []) S0 S' ∧ (∀ j, S'.1 52 j = if 24 ≤ j ∧ j < 24 + kn then nI (bo (j - 24)) else S0.1 52 j) ∧ (∀ q, q < n → S'.1 56 q = if q < kn then S0.1 66 q else 0) ∧ (∀ q, n ≤ q → S'.1 56 q = S0.1 56 q) ∧ (∀ q, q < 5 → S'.1 64 q = S0.1 67 q)
  | 0, p, S, hp, f, a, b, c => by
    have : p = n := by omega
    subst this
    obtain ⟨S', g1, g2, g3⟩ := m_back5 sc 5 0 S (by omega) (zfr_refl _ _) (fun q hq => by omega)
    refine ⟨S', ?_, zfr_tr (zfr_up _ _ f rfl) (zfr_up _ _ g2 rfl), fun j => ?_, fun q hq => ?_, fun q hq => ?_, fun q hq => ?_⟩
    · rw [e_X11_back_12, f.1 51 6 rfl, h1, if_pos (by rw [n_le (by omega) (by omega)]; omega), ← f.1 67 0 rfl]
      exact g1
    · rw [g2.1 52 j rfl, a]
      by_cases e : 24 ≤ j ∧ j < 24 + kn
      · rw [if_pos e, if_pos (by omega)]
      · rw [if_neg e, if_neg (by omega)]
    · rw [g2.1 56 q rfl]; exact b q hq
    · rw [g2.1 56 q rfl]; exact c q hq
    · rw [g3 q hq, f.1 67 q rfl]
  | k + 1, p, S, hp, f, a, b, c => by
    have ob : ¬ (nI p < 0 ∨ 8 ≤ (nI p).toNatClampNeg) := (by first | (rw [n_ob (by omega)]; omega) | (rw [n_obb (by omega)]; omega))
    have e24 : (24 : Int32) + nI p = nI (24 + p) := zn_add 24 p
    have ob2 : ¬ (nI (24 + p) < 0 ∨ 66 ≤ (nI (24 + p)).toNatClampNeg) := (by first | (rw [n_ob (by omega)]; omega) | (rw [n_obb (by omega)]; omega))
    have le : (nI kn ≤ nI p) = (kn ≤ p) := n_le (by omega) (by omega)
    rw [e_X11_back_12, f.1 51 6 rfl, h1, if_neg (by rw [n_le (by omega) (by omega)]; omega), f.1 51 30 rfl, h30]
    by_cases d : kn ≤ p
    · have d' : nI kn ≤ nI p := by rw [le]; exact d
      rw [if_pos d', if_pos d', if_neg ob, n_cl (by omega), n_s1]
      refine m_back_go sc hn hk h1 h30 hb k (p + 1) _ (by omega) (zfr_w f 56 p _ rfl) (fun j => ?_) (fun q hq => ?_) (fun q hq => ?_)
      · rw [zw1_n _ _ (by omega), a]
        by_cases e : 24 ≤ j ∧ j < 24 + p ∧ j < 24 + kn
        · rw [if_pos e, if_pos (by omega)]
        · rw [if_neg e, if_neg (by omega)]
      · by_cases e : q = p
        · rw [e, zw1_y, if_neg (by omega)]
        · rw [zw1_n _ _ (by omega)]; exact b q (by omega)
      · rw [zw1_n _ _ (by omega)]; exact c q (by omega)
    · have d' : ¬ (nI kn ≤ nI p) := by rw [le]; exact d
      rw [if_neg d', if_neg d', if_neg ob, if_neg ob, if_neg ob, e24, if_neg ob2, n_cl (by omega), n_cl (by omega), f.1 65 p rfl, f.1 66 p rfl, hb p (by omega), n_s1]
      refine m_back_go sc hn hk h1 h30 hb k (p + 1) _ (by omega) (zfr_w (zfr_w f 52 _ _ rfl) 56 p _ rfl) (fun j => ?_) (fun q hq => ?_) (fun q hq => ?_)
      · rw [zw1_n _ _ (by omega)]
        by_cases g : j = 24 + p
        · rw [g, zw1_y, if_pos (by omega), show 24 + p - 24 = p by omega]
        · rw [zw1_n _ _ (fun q => g q.2), a]
          by_cases e : 24 ≤ j ∧ j < 24 + p ∧ j < 24 + kn
          · rw [if_pos e, if_pos (by omega)]
          · rw [if_neg e, if_neg (by omega)]
      · by_cases e : q = p
        · rw [e, zw1_y, if_pos (by omega)]
        · rw [zw1_n _ _ (by omega), zw1_n _ _ (by omega)]; exact b q (by omega)
      · rw [zw1_n _ _ (by omega), zw1_n _ _ (by omega)]; exact c q (by omega)
theorem o_back (sc : zSc) {t : Nat} (hT : t < 1000000) {S : zS} (h : zInv t S) : zOp t (zcI sc zm_X10_back [.ref 0] S) (fun S => zcI sc zm_X11_back [.ref 51] S) := by
  have h0 := h
  obtain ⟨n, P, cs, gap, cn, ver, vs, ht, h1, h2, h3, h4, h5, h6⟩ := h
  have hn := h1.1.1.2.1
  rcases h3.2.2.2 with ⟨i1, i2⟩ | ⟨i1, i2, kn, i3, i4, i5, i6, i7, i8, i9⟩
  · refine zInv_self h0 (v := -5) ?_ ?_
    · rw [c_X10_back, c_X2_layBack, i1, if_neg (fun q => q rfl), Option.bind_some]
    · show zcI sc zm_X11_back [.ref 51] S = _
      rw [c_X11_back, i2, if_neg (fun q => q rfl)]
  · -- how bold they were
    have hbo : ∃ bo : Nat → Nat, ∀ q, q < kn → bo q ≤ 7 ∧ S.1 28 q = nI (bo q) ∧ S.1 65 q = nI (bo q) :=
      ⟨fun q => (S.1 28 q).toInt.toNat, fun q hq => by
        obtain ⟨b, y1, y2, y3⟩ := i6 q hq
        have e : (S.1 28 q).toInt.toNat = b := by rw [y2, zi_nI (by omega)]; rfl
        show (S.1 28 q).toInt.toNat ≤ 7 ∧ S.1 28 q = nI ((S.1 28 q).toInt.toNat) ∧ S.1 65 q = nI ((S.1 28 q).toInt.toNat)
        rw [e]
        exact ⟨y1, y2, y3⟩⟩
    obtain ⟨bo, hbo⟩ := hbo
    obtain ⟨S1, a1, a2, a3, a4, a5, a6⟩ := c_back_go sc (ver := ver) hn i3 h1.1.1.1 i4 (fun q hq => (hbo q hq).2.1) kn 0 S (by omega) (zfr_refl _ _) h1.1.2.2.2.2.2.1 (fun j => by rw [if_neg (by omega)])
    obtain ⟨S2, b1, b2, b3, b4, b5, b6⟩ := m_back_go sc hn i3 (S0 := S1) ((a2.1 51 6 rfl).trans h1.2.1.1.1) ((a2.1 51 30 rfl).trans i5) (fun q hq => (a2.1 65 q rfl).trans (hbo q hq).2.2) n 0 S1 (by omega) (zfr_refl _ _) (fun j => by rw [if_neg (by omega)]) (fun q hq => by omega) (fun q _ => rfl)
    have f : zfr (zk [2, 25, 26, 52, 56, 64] [(1, 2)]) S S2 := zfr_tr (zfr_up _ _ a2 rfl) (zfr_up _ _ b2 rfl)
    have v12 : S2.1 1 2 = nI (ver + kn) := (b2.1 1 2 rfl).trans a3
    have hP' : ∀ q u, (if q < kn ∧ u = 3 then bo q else P q u) = if q < kn ∧ u = 3 then bo q else P q u := fun _ _ => rfl
    refine ⟨S.1 29 0, S1, S2, ?_, ?_, n, fun q u => if q < kn ∧ u = 3 then bo q else P q u, cs, gap, cn, ver + kn, vs, by omega, ⟨⟨⟨(f.1 1 1 rfl).trans h1.1.1.1, hn, fun q u hq hu => ?_⟩, fun q hq => ?_, ?_, zCD_cg h1.1.2.2.2.1 (f.1 6 2 rfl) (fun j => f.1 7 j rfl), fun e => ?_, v12, by omega, ?_⟩, ⟨⟨(f.1 51 6 rfl).trans h1.2.1.1.1, hn, fun q u hq hu => ?_⟩, ?_, zTX_cg h1.2.1.2.2.1 (f.1 51 11 rfl) (fun j => f.1 58 j rfl), zTD_cg h1.2.1.2.2.2 (f.1 51 18 rfl)⟩, ?_, ?_, h1.2.2.2.2.1, h1.2.2.2.2.2.1, fun q u k1 k2 k3 => ?_⟩, zV2_cg h2 (f.1 3 2 rfl) (f.1 51 9 rfl) (fun i => f.1 4 i rfl) (fun i => f.1 57 i rfl), ⟨fun q k => ?_, fun q k => ?_, fun q k1 k2 => ?_, zIm_cg h3.2.2.2 (f.1 24 7 rfl) (f.1 51 29 rfl) (f.1 24 6 rfl) (f.1 51 30 rfl) (fun c i h => by rcases h with rfl | rfl | rfl | rfl | rfl | rfl <;> exact f.1 _ i rfl)⟩, zV4_cg h4 (f.1 30 5 rfl) (f.1 51 5 rfl) (f.1 30 6 rfl) (f.1 51 4 rfl) (fun c i h => by rcases h with rfl | rfl | rfl | rfl | rfl | rfl | rfl <;> exact f.1 _ i rfl), zV5_cg h5 (f.1 35 2 rfl) (f.1 51 34 rfl) (f.1 35 3 rfl) (f.1 51 37 rfl) (fun c i h => by rcases h with rfl | rfl | rfl | rfl <;> exact f.1 _ i rfl), zSHs_cg h6 (fun c i h => by rcases h with rfl | rfl | rfl | rfl | rfl | rfl | rfl | rfl <;> exact f.1 _ i rfl) f.2⟩
    · rw [c_X10_back, c_X2_layBack, i1, if_pos (by decide)]
      have a1' : zO zgI sc (zg1, (zm_X2_layBack, 4), 12, S, [some (.ref 24), some (.int (0 : Int32))], []) = some (S.1 29 0, S1) := a1
      rw [a1', Option.bind_some]
    · show zcI sc zm_X11_back [.ref 51] S1 = _
      rw [c_X11_back, a2.1 51 29 rfl, i2, if_pos (by decide)]
      refine Eq.trans b1 ?_
      rw [a2.1 67 0 rfl, ← i9 0 (by omega)]
    · rw [b2.1 2 _ rfl, a4]
      dsimp only
      by_cases e : q < kn ∧ u = 3
      · rw [if_pos e, if_pos (by omega), show (8 * q + u) / 8 = q by omega, e.2]; rfl
      · rw [if_neg e, if_neg (by omega)]; exact h1.1.1.2.2 q u hq hu
    · have := h1.1.2.1 q hq
      dsimp only
      by_cases e : q < kn
      · have := (hbo q e).1
        simp [e]
        omega
      · simp [e]
        omega
    · rw [b2.1 2 64 rfl, a4, if_neg (by omega)]; exact h1.1.2.2.1
    · rw [f.1 6 7 rfl, v12] at e
      by_cases z : kn = 0
      · have eP : (fun q u => if q < kn ∧ u = 3 then bo q else P q u) = P := by
          funext q u
          rw [if_neg (by omega)]
        rw [eP]
        rw [z, Nat.add_zero, ← h1.1.2.2.2.2.2.1] at e
        exact zCL_cg (h1.1.2.2.2.2.1 e) (f.1 6 2 rfl) (fun j => f.1 7 j rfl) (f.1 8 1 rfl) (fun j => f.1 10 j rfl) (fun j => f.1 11 j rfl)
      · exfalso
        rcases h1.1.2.2.2.2.2.2.2 with k | ⟨x, k1, k2⟩
        · rw [k] at e; exact nI_m1 (by omega) e.symm
        · rw [k2, n_eq (by omega) (by omega)] at e; omega
    · rw [f.1 6 7 rfl]
      rcases h1.1.2.2.2.2.2.2.2 with k | ⟨x, k1, k2⟩
      · exact Or.inl k
      · exact Or.inr ⟨x, by omega, k2⟩
    · rw [b3, a2.1 52 _ rfl]
      dsimp only
      by_cases e : q < kn ∧ u = 3
      · rw [if_pos e, if_pos (by omega), show 8 * u + q - 24 = q by omega, e.2]; rfl
      · rw [if_neg e, if_neg (by omega)]; exact h1.2.1.1.2.2 q u hq hu
    · rw [b3, if_neg (by omega), a2.1 52 64 rfl]; exact h1.2.1.2.1
    · rw [b2.1 2 65 rfl, a4, if_neg (by omega)]; exact h1.2.2.1
    · rw [b3, if_neg (by omega), a2.1 52 65 rfl]; exact h1.2.2.2.1
    · rw [b2.1 2 _ rfl, a4, if_neg (by omega)]; exact h1.2.2.2.2.2.2 q u k1 k2 k3
    · rw [b2.1 25 q rfl, a5 q k]
      by_cases e : q < n
      · rw [b4 q e, a2.1 66 q rfl]
        by_cases g : q < kn
        · rw [if_pos g]; exact i7 q g
        · rw [if_neg g]; exact i8 q (by omega) k
      · rw [b5 q (by omega), a2.1 56 q rfl, ← h3.1 q k, h3.2.2.1 q (by omega) k]
        exact i8 q (by omega) k
    · rw [b2.1 26 q rfl, a6 q k, b6 q k, a2.1 67 q rfl]; exact i9 q k
    · rw [b2.1 25 q rfl, a5 q k2]; exact i8 q (by omega) k2
