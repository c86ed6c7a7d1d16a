theorem m_bec_go (sc : zSc) {S0 : zS} {q : Nat} (hq : q < 66) (x2 x3 : Int32) (h5 : S0.1 51 5 = nI 40) : ∀ (k i : Nat) (S : zS), i + k = 40 → 1 ≤ i → zfr (zk [53, 54, 55] []) S0 S → (∀ c j, (c = 53 ∨ c = 54 ∨ c = 55) → S.1 c j = if j + 1 < i then S0.1 c (j + 1) else S0.1 c j) →
    ∃ S', zO zgI sc (zg1, (zm_X11_becomes, 1), 26, S, [some (.ref 51), some (.int (nI q)), some (.int x2), some (.int x3), some (.int (nI i))], []) = some (x3, S') ∧ zfr (zk [52, 53, 54, 55] [(51, 4), (51, 5)]) S0 S' ∧ S'.1 51 5 = nI 40 ∧ S'.1 51 4 = nI 40 ∧ S'.1 53 39 = nI q ∧ S'.1 54 39 = x3 ∧ S'.1 55 39 = x2 ∧ (∀ j, S'.1 52 j = if j = q then x2 else S0.1 52 j) ∧ (∀ j, j < 39 → zEm (j + 1) j S0 S')
  | 0, i, S, hi, _, f, a => by
    have : i = 40 := by omega
    subst this
    have e5 : S.1 51 5 - (1 : Int32) = nI 39 := by rw [f.1 51 5 rfl, h5]; exact n_p1 (by omega)
    have ob : ¬ (nI 39 < 0 ∨ 40 ≤ (nI 39).toNatClampNeg) := (by first | (rw [n_ob (by omega)]; omega) | (rw [n_obb (by omega)]; omega))
    refine ⟨zw1 (zw1 (zw1 (zw1 (zw1 (zw1 (zw1 S 51 5 (nI 39)) 53 39 (nI q)) 54 39 x3) 55 39 x2) 51 5 (nI 40)) 51 4 (nI 40)) 52 q x2, ?_, zfr_w (zfr_w (zfr_w (zfr_w (zfr_w (zfr_w (zfr_w (zfr_up _ _ f rfl) 51 5 _ rfl) 53 _ _ rfl) 54 _ _ rfl) 55 _ _ rfl) 51 5 _ rfl) 51 4 _ rfl) 52 _ _ rfl, ?_, ?_, ?_, ?_, ?_, fun j => ?_, fun j hj c hc => ?_⟩
    · rw [e_X11_becomes_26, e5, if_pos (by decide), if_neg ob, if_neg ob, if_neg ob, if_neg (by first | (rw [n_ob (by omega)]; omega) | (rw [n_obb (by omega)]; omega)), n_cl (by omega), n_cl (by omega), n_s1]
    · simp only [zw1_r]; simp
    · simp only [zw1_r]; simp
    · simp only [zw1_r]; simp
    · simp only [zw1_r]; simp
    · simp only [zw1_r]; simp
    · by_cases e : j = q
      · rw [if_pos e, e, zw1_y]
      · rw [if_neg e, zw1_n _ _ (fun q => e q.2), zw1_n _ _ (by omega), zw1_n _ _ (by omega), zw1_n _ _ (by omega), zw1_n _ _ (by omega), zw1_n _ _ (by omega), zw1_n _ _ (by omega), f.1 52 j rfl]
    · rw [zw1_n _ _ (by omega), zw1_n _ _ (by omega), zw1_n _ _ (by omega), zw1_n _ _ (by omega), zw1_n _ _ (by omega), zw1_n _ _ (by omega), zw1_n _ _ (by omega), a c j hc, if_pos (by omega)]
  | k + 1, i, S, hi, h1, f, a => by
    obtain ⟨m, rfl⟩ : ∃ m, i = m + 1 := ⟨i - 1, by omega⟩
    have ob : ¬ (nI (m + 1) < 0 ∨ 40 ≤ (nI (m + 1)).toNatClampNeg) := (by first | (rw [n_ob (by omega)]; omega) | (rw [n_obb (by omega)]; omega))
    have ob' : ¬ (nI m < 0 ∨ 40 ≤ (nI m).toNatClampNeg) := (by first | (rw [n_ob (by omega)]; omega) | (rw [n_obb (by omega)]; omega))
    have em : nI (m + 1) - (1 : Int32) = nI m := n_p1 (by omega)
    rw [e_X11_becomes_26, em, if_neg (by rw [show (40 : Int32) = nI 40 from rfl, n_le (by omega) (by omega)]; omega), if_neg ob, if_neg ob', if_neg ob, if_neg ob', if_neg ob, if_neg ob', n_cl (by omega), n_cl (by omega), n_s1, a 53 (m + 1) (by omega), a 54 (m + 1) (by omega), a 55 (m + 1) (by omega), if_neg (by omega), if_neg (by omega), if_neg (by omega)]
    refine m_bec_go sc hq x2 x3 h5 k (m + 1 + 1) _ (by omega) (by omega) (zfr_w (zfr_w (zfr_w f 53 _ _ rfl) 54 _ _ rfl) 55 _ _ rfl) (fun c j hc => ?_)
    by_cases e : j = m
    · subst e
      rw [if_pos (by omega)]
      rcases hc with rfl | rfl | rfl <;> simp only [zw1_r] <;> simp
    · rw [zw1_n _ _ (fun q => e q.2), zw1_n _ _ (fun q => e q.2), zw1_n _ _ (fun q => e q.2), a c j hc]
      by_cases d : j + 1 < m + 1
      · rw [if_pos d, if_pos (by omega)]
      · rw [if_neg d, if_neg (by omega)]
/-- the model's number becomes another -/
theorem m_becomes (sc : zSc) {S : zS} {dn q : Nat} (hd : dn ≤ 40) (h5 : S.1 51 5 = nI dn) (hq : q < 66) {was now : Int32} (hw : S.1 52 q = was) (hne : was ≠ now) :
    ∃ (dn' : Nat) (S' : zS), zcI sc zm_X11_becomes [.ref 51, .int (nI q), .int now] S = some (was, S') ∧ dn' = (if dn < 40 then dn else 39) ∧ zfr (zk [52, 53, 54, 55] [(51, 4), (51, 5)]) S S' ∧ S'.1 51 5 = nI (dn' + 1) ∧ S'.1 51 4 = nI (dn' + 1) ∧ S'.1 53 dn' = nI q ∧ S'.1 54 dn' = was ∧ S'.1 55 dn' = now ∧ (∀ j, S'.1 52 j = if j = q then now else S.1 52 j) ∧ (∀ j, j < dn' → zEm (if dn < 40 then j else j + 1) j S S') := by
  have obq : ¬ (nI q < 0 ∨ 66 ≤ (nI q).toNatClampNeg) := (by first | (rw [n_ob (by omega)]; omega) | (rw [n_obb (by omega)]; omega))
  rw [n_cl (by omega)] at obq
  by_cases c : dn < 40
  · have ob : ¬ (nI dn < 0 ∨ 40 ≤ (nI dn).toNatClampNeg) := (by first | (rw [n_ob (by omega)]; omega) | (rw [n_obb (by omega)]; omega))
    refine ⟨dn, zw1 (zw1 (zw1 (zw1 (zw1 (zw1 S 53 dn (nI q)) 54 dn was) 55 dn now) 51 5 (nI (dn + 1))) 51 4 (nI (dn + 1))) 52 q now, ?_, (if_pos c).symm, zfr_w (zfr_w (zfr_w (zfr_w (zfr_w (zfr_w0 53 _ _ rfl) 54 _ _ rfl) 55 _ _ rfl) 51 5 _ rfl) 51 4 _ rfl) 52 _ _ rfl, ?_, ?_, ?_, ?_, ?_, fun j => ?_, fun j hj cc hc => ?_⟩
    · rw [c_X11_becomes, h5, n_cl (by omega), hw, if_neg obq, if_pos hne, if_pos (by rw [show (40 : Int32) = nI 40 from rfl, n_ne (by omega) (by omega)]; omega), if_neg ob, if_neg ob, if_neg ob, if_neg obq, n_cl (by omega), n_s1]
    · simp only [zw1_r]; simp
    · simp only [zw1_r]; simp
    · simp only [zw1_r]; simp
    · simp only [zw1_r]; simp
    · simp only [zw1_r]; simp
    · by_cases e : j = q
      · rw [if_pos e, e, zw1_y]
      · rw [if_neg e, zw1_n _ _ (fun q => e q.2), zw1_n _ _ (by omega), zw1_n _ _ (by omega), zw1_n _ _ (by omega), zw1_n _ _ (by omega), zw1_n _ _ (by omega)]
    · rw [if_pos c, zw1_n _ _ (by omega), zw1_n _ _ (by omega), zw1_n _ _ (by omega), zw1_n _ _ (by omega), zw1_n _ _ (by omega), zw1_n _ _ (by omega)]
  · have e : dn = 40 := by omega
    subst e
    obtain ⟨S', r, f, r1, r2, r3, r4, r5, r6, r7⟩ := m_bec_go sc hq now was h5 39 1 S rfl (by omega) (zfr_refl _ _) (fun c j hc => by rw [if_neg (by omega)])
    refine ⟨39, S', ?_, rfl, f, r1, r2, r3, r4, r5, r6, fun j hj => by rw [if_neg c]; exact r7 j hj⟩
    rw [c_X11_becomes, h5, n_cl (by omega), hw, if_neg obq, if_pos hne, if_neg (by decide)]
    exact r
