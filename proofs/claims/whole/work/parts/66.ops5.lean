/-! ===== image, back ===== -/
theorem zwc_f {c : Nat} {S : zS} (g : Nat → Int32) {K : Nat → Nat → Bool} (h : ∀ i, K c i = false) : zfr K S (zwc1 S c g) := by
  refine ⟨fun d j k => ?_, rfl⟩
  rw [zc1_r]
  by_cases e : d = c
  · rw [e, h j] at k; exact (Bool.false_ne_true k).elim
  · rw [if_neg e]
theorem cpy0 {f g : Nat → Int32} {n j : Nat} (h : j < n) : va_cpy f g 0 0 n j = f j := by
  show (if 0 ≤ j ∧ j < 0 + n then f (0 + (j - 0)) else g j) = f j
  rw [if_pos ⟨by omega, by omega⟩, Nat.zero_add, Nat.sub_zero]
theorem cpy_ok8 : ¬ ((0 : Int32) < 0 ∨ (0 : Int32) < 0 ∨ (8 : Int32) < 0 ∨ 8 < (0 : Int32).toNatClampNeg + (8 : Int32).toNatClampNeg ∨ 8 < (0 : Int32).toNatClampNeg + (8 : Int32).toNatClampNeg) := by decide
theorem cpy_ok5 : ¬ ((0 : Int32) < 0 ∨ (0 : Int32) < 0 ∨ (5 : Int32) < 0 ∨ 5 < (0 : Int32).toNatClampNeg + (5 : Int32).toNatClampNeg ∨ 5 < (0 : Int32).toNatClampNeg + (5 : Int32).toNatClampNeg) := by decide
theorem cl0 : (0 : Int32).toNatClampNeg = 0 := rfl
theorem cl8 : (8 : Int32).toNatClampNeg = 8 := rfl
theorem cl5 : (5 : Int32).toNatClampNeg = 5 := rfl
theorem c_keep_go (sc : zSc) {n : Nat} {P : Nat → Nat → Nat} {S0 : zS} (hP : zPC n P S0) (h6 : S0.1 24 6 = nI n) : ∀ (k p : Nat) (S : zS), p + k = n → zfr (zx1 28) S0 S → (∀ q, q < p → S.1 28 q = nI (P q 3)) →
    ∃ S', zO zgI sc (zg1, (zm_X2_keepImage, 4), 18, S, [some (.ref 24), some (.int (nI p))], []) = some (S0.1 26 0, S') ∧ zfr (zk [27, 28, 29] []) S0 S' ∧ (∀ q, q < n → S'.1 28 q = nI (P q 3)) ∧ (∀ q, q < 8 → S'.1 27 q = S0.1 25 q) ∧ (∀ q, q < 5 → S'.1 29 q = S0.1 26 q)
  | 0, p, S, hp, f, a => by
    have hn := hP.2.1
    have : p = n := by omega
    subst this
    refine ⟨zwc1 (zwc1 S 27 (va_cpy (S.1 25) (S.1 27) 0 0 8)) 29 (va_cpy ((zwc1 S 27 (va_cpy (S.1 25) (S.1 27) 0 0 8)).1 26) ((zwc1 S 27 (va_cpy (S.1 25) (S.1 27) 0 0 8)).1 29) 0 0 5), ?_, zfr_tr (zfr_up _ _ f rfl) (zfr_tr (zwc_f _ (fun _ => rfl)) (zwc_f _ (fun _ => rfl))), fun q hq => ?_, fun q hq => ?_, fun q hq => ?_⟩
    · rw [e_X2_keepImage_18, f.1 24 6 rfl, h6, if_pos (by rw [n_le (by omega) (by omega)]; omega), if_neg cpy_ok8, if_neg cpy_ok5, cl0, cl8, cl5, f.1 26 0 rfl]
    · rw [zc1_r, if_neg (by omega), zc1_r, if_neg (by omega)]; exact a q hq
    · rw [zc1_r, if_neg (by omega), zc1_r, if_pos rfl, cpy0 hq, f.1 25 q rfl]
    · rw [zc1_r, if_pos rfl, cpy0 hq, zc1_r, if_neg (by omega), f.1 26 q rfl]
  | k + 1, p, S, hp, f, a => by
    have hn := hP.2.1
    have hP' : zPC n P S := zPC_cg hP (f.1 1 1 rfl) (fun j => f.1 2 j rfl)
    rw [e_X2_keepImage_18, f.1 24 6 rfl, h6, if_neg (by rw [n_le (by omega) (by omega)]; omega), s_get3 sc hP' (by omega), Option.bind_some]
    dsimp only
    rw [if_neg (by first | (rw [n_ob (by omega)]; omega) | (rw [n_obb (by omega)]; omega)), n_cl (by omega), n_s1]
    refine c_keep_go sc hP h6 k (p + 1) _ (by omega) (zfr_w f 28 p _ rfl) (fun q hq => ?_)
    by_cases e : q = p
    · rw [e, zw1_y]
    · rw [zw1_n _ _ (by omega)]; exact a q (by omega)
theorem m_keep5 (sc : zSc) {S0 : zS} : ∀ (k p : Nat) (S : zS), p + k = 5 → zfr (zx1 67) S0 S → (∀ q, q < p → S.1 67 q = S0.1 64 q) →
    ∃ S', zO zgI sc (zg1, (zm_X11_image, 2), 55, S, [some (.ref 51), some (.int (nI p))], []) = some (S0.1 64 0, S') ∧ zfr (zx1 67) S0 S' ∧ (∀ q, q < 5 → S'.1 67 q = S0.1 64 q)
  | 0, p, S, hp, f, a => by
    have : p = 5 := by omega
    subst this
    exact ⟨S, by rw [e_X11_image_55, if_pos (by decide), f.1 64 0 rfl], f, a⟩
  | k + 1, p, S, hp, f, a => by
    have ob : ¬ (nI p < 0 ∨ 5 ≤ (nI p).toNatClampNeg) := (by first | (rw [n_ob (by omega)]; omega) | (rw [n_obb (by omega)]; omega))
    rw [e_X11_image_55, if_neg (by rw [show (5 : Int32) = nI 5 from rfl, n_le (by omega) (by omega)]; omega), if_neg ob, if_neg ob, n_cl (by omega), n_s1, f.1 64 p rfl]
    refine m_keep5 sc k (p + 1) _ (by omega) (zfr_w f 67 p _ rfl) (fun q hq => ?_)
    by_cases e : q = p
    · rw [e, zw1_y]
    · rw [zw1_n _ _ (by omega)]; exact a q (by omega)
theorem m_keep_go (sc : zSc) {n : Nat} {P : Nat → Nat → Nat} {S0 : zS} (hP : zPM n P S0) : ∀ (k p : Nat) (S : zS), p + k = n → zfr (zk [65, 66] []) S0 S → (∀ q, q < p → S.1 65 q = nI (P q 3) ∧ S.1 66 q = S0.1 56 q) →
    ∃ S', zO zgI sc (zg1, (zm_X11_image, 2), 15, S, [some (.ref 51), some (.int (nI p))], []) = some (S0.1 64 0, S') ∧ zfr (zk [65, 66, 67] []) S0 S' ∧ (∀ q, q < n → S'.1 65 q = nI (P q 3) ∧ S'.1 66 q = S0.1 56 q) ∧ (∀ q, q < 5 → S'.1 67 q = S0.1 64 q)
  | 0, p, S, hp, f, a => by
    have hn := hP.2.1
    have : p = n := by omega
    subst this
    obtain ⟨S', g1, g2, g3⟩ := m_keep5 sc 5 0 S (by omega) (zfr_refl _ _) (fun q hq => by omega)
    refine ⟨S', ?_, zfr_tr (zfr_up _ _ f rfl) (zfr_up _ _ g2 rfl), fun q hq => ?_, fun q hq => ?_⟩
    · rw [e_X11_image_15, f.1 51 6 rfl, hP.1, if_pos (by rw [n_le (by omega) (by omega)]; omega), ← f.1 64 0 rfl]
      exact g1
    · rw [g2.1 65 q rfl, g2.1 66 q rfl]; exact a q hq
    · rw [g3 q hq, f.1 64 q rfl]
  | k + 1, p, S, hp, f, a => by
    have hn := hP.2.1
    have hP' : zPM n P S := zPM_cg hP (f.1 51 6 rfl) (fun j => f.1 52 j rfl)
    have ob : ¬ (nI p < 0 ∨ 8 ≤ (nI p).toNatClampNeg) := (by first | (rw [n_ob (by omega)]; omega) | (rw [n_obb (by omega)]; omega))
    rw [e_X11_image_15, f.1 51 6 rfl, hP.1, if_neg (by rw [n_le (by omega) (by omega)]; omega), m_of3 sc hP' (by omega), Option.bind_some]
    dsimp only
    rw [if_neg ob, if_neg ob, if_neg ob, n_cl (by omega), n_s1, f.1 56 p rfl]
    refine m_keep_go sc hP k (p + 1) _ (by omega) (zfr_w (zfr_w f 65 p _ rfl) 66 p _ rfl) (fun q hq => ?_)
    by_cases e : q = p
    · rw [e, zw1_n _ _ (by omega), zw1_y, zw1_y]; exact ⟨rfl, rfl⟩
    · rw [zw1_n _ _ (by omega), zw1_n _ _ (by omega), zw1_n _ _ (by omega), zw1_n _ _ (by omega)]; exact a q (by omega)
theorem o_image (sc : zSc) {t : Nat} {S : zS} (h : zInv t S) : zOp t (zcI sc zm_X10_image [.ref 0] S) (fun S => zcI sc zm_X11_image [.ref 51] S) := by
  obtain ⟨n, P, cs, gap, cn, ver, vs, ht, h1, h2, h3, h4, h5, h6⟩ := h
  have hn := h1.1.1.2.1
  have fA : zfr (zk [] [(24, 6), (24, 7)]) S (zw1 (zw1 S 24 7 1) 24 6 (nI n)) := zfr_w (zfr_w0 24 7 _ rfl) 24 6 _ rfl
  obtain ⟨S1, a1, a2, a3, a4, a5⟩ := c_keep_go sc (P := P) (S0 := zw1 (zw1 S 24 7 1) 24 6 (nI n)) (zPC_cg h1.1.1 (fA.1 1 1 rfl) (fun j => fA.1 2 j rfl)) (zw1_y _ _ _ _) n 0 _ (by omega) (zfr_refl _ _) (fun q hq => by omega)
  have f1 : zfr (zk [27, 28, 29] [(24, 6), (24, 7)]) S S1 := zfr_tr (zfr_up _ _ fA rfl) (zfr_up _ _ a2 rfl)
  have fB : zfr (zk [] [(51, 29), (51, 30)]) S1 (zw1 (zw1 S1 51 29 1) 51 30 (nI n)) := zfr_w (zfr_w0 51 29 _ rfl) 51 30 _ rfl
  have f1B : zfr (zk [27, 28, 29] [(24, 6), (24, 7), (51, 29), (51, 30)]) S (zw1 (zw1 S1 51 29 1) 51 30 (nI n)) := zfr_tr (zfr_up _ _ f1 rfl) (zfr_up _ _ fB rfl)
  obtain ⟨S2, b1, b2, b3, b4⟩ := m_keep_go sc (P := P) (S0 := zw1 (zw1 S1 51 29 1) 51 30 (nI n)) (zPM_cg h1.2.1.1 (f1B.1 51 6 rfl) (fun j => f1B.1 52 j rfl)) n 0 _ (by omega) (zfr_refl _ _) (fun q hq => by omega)
  have f : zfr (zk [27, 28, 29, 65, 66, 67] [(24, 6), (24, 7), (51, 29), (51, 30)]) S S2 := zfr_tr (zfr_up _ _ f1B rfl) (zfr_up _ _ b2 rfl)
  have f12 : zfr (zk [65, 66, 67] [(51, 29), (51, 30)]) S1 S2 := zfr_tr (zfr_up _ _ fB rfl) (zfr_up _ _ b2 rfl)
  refine ⟨S.1 26 0, S1, S2, ?_, ?_, n, P, cs, gap, cn, ver, vs, by omega, zV1_cg h1 (fun c i h => by rcases h with rfl | rfl | rfl | rfl | rfl | rfl | rfl | rfl | rfl <;> exact f.1 _ i rfl) (f.1 51 6 rfl) (f.1 51 11 rfl) (f.1 51 18 rfl), zV2_cg h2 (f.1 3 2 rfl) (f.1 51 9 rfl) (fun i => f.1 4 i rfl) (fun i => f.1 57 i rfl), ⟨fun q k => ?_, fun q k => ?_, fun q k1 k2 => ?_, Or.inr ⟨?_, ?_, n, Nat.le_refl _, ?_, ?_, fun q hq => ⟨P q 3, (h1.1.2.1 q hq).2.2.2.2.1, ?_, (b3 q hq).1⟩, fun q hq => ?_, fun q k1 k2 => ?_, fun q hq => ?_⟩⟩, zV4_cg h4 (f.1 30 5 rfl) (f.1 51 5 rfl) (f.1 30 6 rfl) (f.1 51 4 rfl) (fun c i h => by rcases h with rfl | rfl | rfl | rfl | rfl | rfl | rfl <;> exact f.1 _ i rfl), zV5_cg h5 (f.1 35 2 rfl) (f.1 51 34 rfl) (f.1 35 3 rfl) (f.1 51 37 rfl) (fun c i h => by rcases h with rfl | rfl | rfl | rfl <;> exact f.1 _ i rfl), zSHs_cg h6 (fun c i h => by rcases h with rfl | rfl | rfl | rfl | rfl | rfl | rfl | rfl <;> exact f.1 _ i rfl) f.2⟩
  · rw [c_X10_image, c_X2_keepImage, h1.1.1.1]
    have a1' : zO zgI sc (zg1, (zm_X2_keepImage, 4), 18, zw1 (zw1 S 24 7 1) 24 6 (nI n), [some (.ref 24), some (.int (0 : Int32))], []) = some ((zw1 (zw1 S 24 7 1) 24 6 (nI n)).1 26 0, S1) := a1
    rw [a1', Option.bind_some, fA.1 26 0 rfl]
  · show zcI sc zm_X11_image [.ref 51] S1 = _
    rw [c_X11_image, f1.1 51 6 rfl, h1.2.1.1.1]
    refine Eq.trans b1 ?_
    rw [f1B.1 64 0 rfl, ← h3.2.1 0 (by omega)]
  · rw [f.1 25 q rfl, f.1 56 q rfl]; exact h3.1 q k
  · rw [f.1 26 q rfl, f.1 64 q rfl]; exact h3.2.1 q k
  · rw [f.1 25 q rfl]; exact h3.2.2.1 q k1 k2
  · rw [f12.1 24 7 rfl, a2.1 24 7 rfl, zw1_n _ _ (by omega), zw1_y]
  · rw [b2.1 51 29 rfl, zw1_n _ _ (by omega), zw1_y]
  · rw [f12.1 24 6 rfl, a2.1 24 6 rfl, zw1_y]
  · rw [b2.1 51 30 rfl, zw1_y]
  · rw [f12.1 28 q rfl]; exact a3 q hq
  · rw [f12.1 27 q rfl, a4 q (by omega), (b3 q hq).2, fA.1 25 q rfl, f1B.1 56 q rfl]; exact h3.1 q (by omega)
  · rw [f12.1 27 q rfl, a4 q k2, fA.1 25 q rfl]; exact h3.2.2.1 q k1 k2
  · rw [f12.1 29 q rfl, a5 q hq, b4 q hq, fA.1 26 q rfl, f1B.1 64 q rfl]; exact h3.2.1 q hq
