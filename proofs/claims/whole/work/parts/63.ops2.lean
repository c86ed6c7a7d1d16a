theorem zV1_cg {n : Nat} {P : Nat → Nat → Nat} {cs : List Int32} {gap cn ver : Nat} {S S' : zS} (h : zV1 n P cs gap cn ver S) (g : ∀ c i, (c = 1 ∨ c = 2 ∨ c = 6 ∨ c = 7 ∨ c = 8 ∨ c = 10 ∨ c = 11 ∨ c = 52 ∨ c = 58) → S'.1 c i = S.1 c i) (g6 : S'.1 51 6 = S.1 51 6) (g11 : S'.1 51 11 = S.1 51 11) (g18 : S'.1 51 18 = S.1 51 18) : zV1 n P cs gap cn ver S' := by
  refine ⟨⟨zPC_cg h.1.1 (g 1 1 (by omega)) (fun j => g 2 j (by omega)), h.1.2.1, (g 2 64 (by omega)).trans h.1.2.2.1, zCD_cg h.1.2.2.2.1 (g 6 2 (by omega)) (fun j => g 7 j (by omega)), fun e => ?_, (g 1 2 (by omega)).trans h.1.2.2.2.2.2.1, h.1.2.2.2.2.2.2.1, ?_⟩, ⟨zPM_cg h.2.1.1 g6 (fun j => g 52 j (by omega)), (g 52 64 (by omega)).trans h.2.1.2.1, zTX_cg h.2.1.2.2.1 g11 (fun j => g 58 j (by omega)), zTD_cg h.2.1.2.2.2 g18⟩, (g 2 65 (by omega)).trans h.2.2.1, (g 52 65 (by omega)).trans h.2.2.2.1, h.2.2.2.2.1, h.2.2.2.2.2.1, fun p w a b c => (g 2 _ (by omega)).trans (h.2.2.2.2.2.2 p w a b c)⟩
  · rw [g 6 7 (by omega), g 1 2 (by omega)] at e
    exact zCL_cg (h.1.2.2.2.2.1 e) (g 6 2 (by omega)) (fun j => g 7 j (by omega)) (g 8 1 (by omega)) (fun j => g 10 j (by omega)) (fun j => g 11 j (by omega))
  · rw [g 6 7 (by omega)]; exact h.1.2.2.2.2.2.2.2
theorem o_feed (sc : zSc) {t : Nat} {S : zS} (h : zInv t S) (a1 : Int32) : zOp t (zcI sc zm_X10_feed [.ref 0, .int a1] S) (fun S => zcI sc zm_X11_feed [.ref 51, .int a1] S) := by
  have h0 := h
  obtain ⟨n, P, cs, gap, cn, ver, vs, ht, h1, ⟨tn, tb, b1, b2, b3, b4⟩, h3, h4, h5, h6⟩ := h
  have wC : zcI sc zm_X10_within [.int a1, .int (0 : Int32), .int (255 : Int32)] S = some (zb (rg a1 255), S) := s_within sc S a1 0 255
  have wM : ∀ S : zS, zcI sc zm_X11_within [.long a1.toInt64, .long (Int64.ofNat 0), .long (255 : Int64)] S = some (zb (rg a1 255), S) := by
    intro S
    rw [m_within]
    refine zb_sm ?_
    rw [l32, l64_0, show (255 : Int64).toInt = 255 from rfl]
  by_cases c : rg a1 255
  case neg =>
    refine zInv_self h0 (v := -1) ?_ ?_
    · rw [c_X10_feed, wC, Option.bind_some]
      dsimp only
      rw [zb_f c]; exact if_pos rfl
    · show zcI sc zm_X11_feed [.ref 51, .int a1] S = _
      rw [c_X11_feed, wM, Option.bind_some]
      dsimp only
      rw [zb_f c]; exact if_neg (fun q => q rfl)
  obtain ⟨x, rfl, hx⟩ := rg_n c
  by_cases d : tn < 120
  · have f : zfr (zk [4, 57] [(3, 2), (51, 9)]) S (zw1 (zw1 (zw1 (zw1 S 4 tn (nI x)) 3 2 (nI (tn + 1))) 57 tn (nI x)) 51 9 (nI (tn + 1))) :=
      zfr_w (zfr_w (zfr_w (zfr_w0 4 _ _ rfl) 3 2 _ rfl) 57 _ _ rfl) 51 9 _ rfl
    refine ⟨nI (tn + 1), zw1 (zw1 S 4 tn (nI x)) 3 2 (nI (tn + 1)), zw1 (zw1 (zw1 (zw1 S 4 tn (nI x)) 3 2 (nI (tn + 1))) 57 tn (nI x)) 51 9 (nI (tn + 1)), ?_, ?_, n, P, cs, gap, cn, ver, vs, by omega, zV1_cg h1 (fun c i h => by rcases h with rfl | rfl | rfl | rfl | rfl | rfl | rfl | rfl | rfl <;> exact f.1 _ i rfl) (f.1 51 6 rfl) (f.1 51 11 rfl) (f.1 51 18 rfl), ?_, zV3_cg h3 (f.1 24 7 rfl) (f.1 51 29 rfl) (f.1 24 6 rfl) (f.1 51 30 rfl) (fun c i h => by rcases h with rfl | rfl | rfl | rfl | rfl | rfl <;> exact f.1 _ i rfl) (fun c i h => by rcases h with rfl | rfl | rfl | rfl <;> exact f.1 _ i rfl), zV4_cg h4 (f.1 30 5 rfl) (f.1 51 5 rfl) (f.1 30 6 rfl) (f.1 51 4 rfl) (fun c i h => by rcases h with rfl | rfl | rfl | rfl | rfl | rfl | rfl <;> exact f.1 _ i rfl), zV5_cg h5 (f.1 35 2 rfl) (f.1 51 34 rfl) (f.1 35 3 rfl) (f.1 51 37 rfl) (fun c i h => by rcases h with rfl | rfl | rfl | rfl <;> exact f.1 _ i rfl), zSHs_cg h6 (fun c i h => by rcases h with rfl | rfl | rfl | rfl | rfl | rfl | rfl | rfl <;> exact f.1 _ i rfl) f.2⟩
    · rw [c_X10_feed, wC, Option.bind_some]
      dsimp only
      rw [zb_t c, if_neg (by decide), c_X7_add, b2, if_pos (by rw [show (120 : Int32) = nI 120 from rfl, n_lt (by omega) (by omega)]; exact d), if_neg (by first | (rw [n_ob (by omega)]; omega) | (rw [n_obb (by omega)]; omega)), n_cl (by omega), n_s1, Option.bind_some]
    · show zcI sc zm_X11_feed [.ref 51, .int (nI x)] (zw1 (zw1 S 4 tn (nI x)) 3 2 (nI (tn + 1))) = _
      have e9 : (zw1 (zw1 S 4 tn (nI x)) 3 2 (nI (tn + 1))).1 51 9 = nI tn := by rw [zw1_n _ _ (by omega), zw1_n _ _ (by omega)]; exact b3
      rw [c_X11_feed, wM, Option.bind_some]
      dsimp only
      rw [zb_t c, if_pos (by decide), e9, if_pos (by rw [show (120 : Int32) = nI 120 from rfl, n_ne (by omega) (by omega)]; omega), if_neg (by first | (rw [n_ob (by omega)]; omega) | (rw [n_obb (by omega)]; omega)), n_cl (by omega), n_s1]
    · refine ⟨tn + 1, fun i => if i = tn then x else tb i, by omega, ?_, ?_, fun i hi => ?_⟩
      · rw [zw1_n _ _ (by omega), zw1_n _ _ (by omega), zw1_y]
      · rw [zw1_y]
      · dsimp only
        by_cases e : i = tn
        · rw [if_pos e, e, zw1_n _ _ (by omega), zw1_n _ _ (by omega), zw1_n _ _ (by omega), zw1_y, zw1_n _ _ (by omega), zw1_y]
          exact ⟨by omega, rfl, rfl⟩
        · rw [if_neg e, zw1_n _ _ (by omega), zw1_n _ _ (by omega), zw1_n _ _ (by omega), zw1_n _ _ (by omega), zw1_n _ _ (by omega), zw1_n _ _ (by omega), zw1_n _ _ (by omega), zw1_n _ _ (by omega)]
          exact b4 i (by omega)
  · refine zInv_self h0 (v := -3) ?_ ?_
    · rw [c_X10_feed, wC, Option.bind_some]
      dsimp only
      rw [zb_t c, if_neg (by decide), c_X7_add, b2, if_neg (by rw [show (120 : Int32) = nI 120 from rfl, n_lt (by omega) (by omega)]; exact d), Option.bind_some]
    · show zcI sc zm_X11_feed [.ref 51, .int (nI x)] S = _
      rw [c_X11_feed, wM, Option.bind_some]
      dsimp only
      rw [zb_t c, if_pos (by decide), b3, if_neg (by rw [show (120 : Int32) = nI 120 from rfl, n_ne (by omega) (by omega)]; omega)]
/-! ===== the law's text taken ===== -/
theorem o_law (sc : zSc) {t : Nat} {S : zS} (h : zInv t S) : zOp t (zcI sc zm_X10_law [.ref 0] S) (fun S => zcI sc zm_X11_law [.ref 51] S) := by
  obtain ⟨n, P, cs, gap, cn, ver, vs, ht, h1, ⟨tn, tb, b1, b2, b3, b4⟩, h3, h4, h5, h6⟩ := h
  have hz : zcbG tn (fun i => if i < tn then tb i else 0) := ⟨b1, fun i hi => if_neg (by omega), fun i => by
    show (if i < tn then tb i else 0) < 256
    split
    · rename_i q; exact (b4 i q).1
    · omega⟩
  obtain ⟨S1, a1, a2, a3⟩ := s_read sc hz (S := S) ⟨b2, fun i hi => by rw [(b4 i hi).2.1]; show nI (tb i) = nI (if i < tn then tb i else 0); rw [if_pos hi]⟩
  have w57 : ∀ S' : zS, (∀ i, S'.1 57 i = S.1 57 i) → ∀ i, i < tn → S'.1 57 i = nI ((fun i => if i < tn then tb i else 0) i) := by
    intro S' g i hi
    rw [g, (b4 i hi).2.2]
    show nI (tb i) = nI (if i < tn then tb i else 0)
    rw [if_pos hi]
  have fct : plfact tn 0 (ptext (fun i => if i < tn then tb i else 0)) := plines_fact hz.2.1 121 0 (Nat.zero_le _)
  by_cases c : pfine tn (ptext (fun i => if i < tn then tb i else 0))
  · obtain ⟨g1, g2⟩ := a3 c.1
    have hl : (ptext (fun i => if i < tn then tb i else 0)).2.2.1.length ≤ 121 := by
      have := (fct.2.2 c.1).2
      have := fct.1
      omega
    have pv : pval tn (ptext (fun i => if i < tn then tb i else 0)) = -1 := if_pos c
    obtain ⟨S2, k1, k2, k3, k4, k5⟩ := s_take sc g1 hl g2
    have f2 : zfr (zk [5, 7] [(3, 2), (3, 3), (3, 4), (6, 2), (6, 7)]) S (zw1 S2 3 2 0) := zfr_w (zfr_tr (zfr_up _ _ a2 rfl) (zfr_up _ _ k5 rfl)) 3 2 _ rfl
    obtain ⟨v, S3, m1, m2, m3, _⟩ := m_work sc hz (S := zw1 S2 3 2 0) (-1) (Or.inl ⟨rfl, w57 _ (fun i => f2.1 57 i rfl)⟩)
    obtain ⟨m4, m5⟩ := m3 c
    have f3 : zfr (zk [5, 7] [(3, 2), (3, 3), (3, 4), (6, 2), (6, 7), (51, 12), (51, 13), (51, 14), (51, 15), (51, 16)]) S S3 := zfr_tr (zfr_up _ _ f2 rfl) (zfr_up _ _ m2 rfl)
    -- the text kept
    have cp : ∀ (k i : Nat) (S4 : zS), i + k = tn → zfr (zk [58] []) (zw1 S3 51 9 0) S4 → (∀ j, j < i → S4.1 58 j = nI (if j < tn then tb j else 0)) →
        ∃ S5, zO zgI sc (zg1, (zm_X11_law, 64), 37, S4, [some (.ref 51), some (.int v), some (.int (nI tn)), some (.int (nI i))], []) = some (1, zw1 S5 51 11 (nI tn)) ∧ zfr (zk [58] []) (zw1 S3 51 9 0) S5 ∧ ∀ j, j < tn → S5.1 58 j = nI (if j < tn then tb j else 0) := by
      intro k
      induction k with
      | zero =>
        intro i S4 hi f hj
        have : i = tn := by omega
        subst this
        refine ⟨S4, ?_, f, hj⟩
        rw [e_X11_law_37, if_pos (by rw [n_le (by omega) (by omega)]; omega)]
      | succ k ih =>
        intro i S4 hi f hj
        have r57 : S4.1 57 i = nI (if i < tn then tb i else 0) := by
          rw [f.1 57 i rfl, zw1_n _ _ (by omega)]
          exact w57 S3 (fun i => f3.1 57 i rfl) i (by omega)
        have ob : ¬ (nI i < 0 ∨ 120 ≤ (nI i).toNatClampNeg) := (by first | (rw [n_ob (by omega)]; omega) | (rw [n_obb (by omega)]; omega))
        rw [e_X11_law_37, if_neg (by rw [n_le (by omega) (by omega)]; omega), if_neg ob, if_neg ob, n_cl (by omega), r57, n_s1]
        refine ih (i + 1) _ (by omega) (zfr_w f 58 i _ rfl) (fun j hj' => ?_)
        by_cases e : j = i
        · rw [e, zw1_y]
        · rw [zw1_n _ _ (by omega)]; exact hj j (by omega)
    obtain ⟨S5, p1, p2, p3⟩ := cp tn 0 (zw1 S3 51 9 0) (by omega) (zfr_refl _ _) (fun j hj => by omega)
    have f : zfr (zk [5, 7, 58] [(3, 2), (3, 3), (3, 4), (6, 2), (6, 7), (51, 9), (51, 11), (51, 12), (51, 13), (51, 14), (51, 15), (51, 16)]) S (zw1 S5 51 11 (nI tn)) := zfr_w (zfr_tr (zfr_w (zfr_up _ _ f3 rfl) 51 9 _ rfl) (zfr_up _ _ p2 rfl)) 51 11 _ rfl
    have r6 : ∀ i, i = 2 ∨ i = 7 → (zw1 S5 51 11 (nI tn)).1 6 i = S2.1 6 i := by
      intro i hi
      rw [zw1_n _ _ (by omega), p2.1 6 i (by rcases hi with rfl | rfl <;> rfl), zw1_n _ _ (by omega), m2.1 6 i (by rcases hi with rfl | rfl <;> rfl), zw1_n _ _ (by omega)]
    have r7 : ∀ i, (zw1 S5 51 11 (nI tn)).1 7 i = S2.1 7 i := by
      intro i
      rw [zw1_n _ _ (by omega), p2.1 7 i rfl, zw1_n _ _ (by omega), m2.1 7 i rfl, zw1_n _ _ (by omega)]
    have hxok : xok (ptext (fun i => if i < tn then tb i else 0)).2.2.1 0 := by
      have := (plines_gd (fun i => if i < tn then tb i else 0) 121 0 c.1).2 [] 0 trivial
      rw [List.append_nil] at this
      exact this
    have ver2 : (zw1 S5 51 11 (nI tn)).1 1 2 = nI ver := (f.1 1 2 rfl).trans h1.1.2.2.2.2.2.1
    refine ⟨1, zw1 S2 3 2 0, zw1 S5 51 11 (nI tn), ?_, ?_, n, P, (ptext (fun i => if i < tn then tb i else 0)).2.2.1, gap, cn, ver, vs, by omega, ⟨⟨zPC_cg h1.1.1 (f.1 1 1 rfl) (fun j => f.1 2 j rfl), h1.1.2.1, (f.1 2 64 rfl).trans h1.1.2.2.1, ⟨by rw [r6 2 (Or.inl rfl), k2], hl, xcd_cg r7 _ 0 k4, hxok⟩, fun e => ?_, ver2, h1.1.2.2.2.2.2.2.1, Or.inl (by rw [r6 7 (Or.inr rfl), k3])⟩, ⟨zPM_cg h1.2.1.1 (f.1 51 6 rfl) (fun j => f.1 52 j rfl), (f.1 52 64 rfl).trans h1.2.1.2.1, Or.inr ⟨tn, _, zw1_y _ _ _ _, hz, fun i hi => by rw [zw1_n _ _ (by omega)]; exact p3 i hi, c, rfl⟩, zTD_cg h1.2.1.2.2.2 (f.1 51 18 rfl)⟩, (f.1 2 65 rfl).trans h1.2.2.1, (f.1 52 65 rfl).trans h1.2.2.2.1, h1.2.2.2.2.1, h1.2.2.2.2.2.1, fun p w x y z => (f.1 2 _ rfl).trans (h1.2.2.2.2.2.2 p w x y z)⟩, ⟨0, tb, by omega, ?_, ?_, fun i hi => by omega⟩, zV3_cg h3 (f.1 24 7 rfl) (f.1 51 29 rfl) (f.1 24 6 rfl) (f.1 51 30 rfl) (fun c i h => by rcases h with rfl | rfl | rfl | rfl | rfl | rfl <;> exact f.1 _ i rfl) (fun c i h => by rcases h with rfl | rfl | rfl | rfl <;> exact f.1 _ i rfl), zV4_cg h4 (f.1 30 5 rfl) (f.1 51 5 rfl) (f.1 30 6 rfl) (f.1 51 4 rfl) (fun c i h => by rcases h with rfl | rfl | rfl | rfl | rfl | rfl | rfl <;> exact f.1 _ i rfl), zV5_cg h5 (f.1 35 2 rfl) (f.1 51 34 rfl) (f.1 35 3 rfl) (f.1 51 37 rfl) (fun c i h => by rcases h with rfl | rfl | rfl | rfl <;> exact f.1 _ i rfl), zSHs_cg h6 (fun c i h => by rcases h with rfl | rfl | rfl | rfl | rfl | rfl | rfl | rfl <;> exact f.1 _ i rfl) f.2⟩
    · rw [c_X10_law, a1, Option.bind_some, pv]
      dsimp only
      rw [if_neg neg1_ge0, k1, Option.bind_some, c_X7_wipe, Option.bind_some, if_neg neg1_ge0]
    · show zcI sc zm_X11_law [.ref 51] (zw1 S2 3 2 0) = _
      have e9 : (zw1 S2 3 2 0).1 51 9 = nI tn := (f2.1 51 9 rfl).trans b3
      have e9' : S3.1 51 9 = nI tn := (f3.1 51 9 rfl).trans b3
      rw [c_X11_law, e9, m1, Option.bind_some]
      dsimp only
      rw [m5, if_pos (by decide), e9']
      exact p1
    · rw [r6 7 (Or.inr rfl), k3, ver2] at e
      exact absurd e.symm (nI_m1 h1.1.2.2.2.2.2.2.1)
    · rw [zw1_n _ _ (by omega), p2.1 3 2 rfl, zw1_n _ _ (by omega), m2.1 3 2 rfl, zw1_y]; rfl
    · rw [zw1_n _ _ (by omega), p2.1 51 9 rfl, zw1_y]; rfl
  · have pv : pval tn (ptext (fun i => if i < tn then tb i else 0)) = nI (ptext (fun i => if i < tn then tb i else 0)).2.1 := if_neg c
    have hple := fct.1
    have f2 : zfr (zk [5] [(3, 2), (3, 3), (3, 4)]) S (zw1 S1 3 2 0) := zfr_w (zfr_up _ _ a2 rfl) 3 2 _ rfl
    obtain ⟨v, S3, m1, m2, _, m3⟩ := m_work sc hz (S := zw1 S1 3 2 0) (-1) (Or.inl ⟨rfl, w57 _ (fun i => f2.1 57 i rfl)⟩)
    have m5 := m3 c
    have f : zfr (zk [5] [(3, 2), (3, 3), (3, 4), (51, 9), (51, 12), (51, 13), (51, 14), (51, 15), (51, 16)]) S (zw1 S3 51 9 0) := zfr_w (zfr_tr (zfr_up _ _ f2 rfl) (zfr_up _ _ m2 rfl)) 51 9 _ rfl
    have ge : (0 : Int32) ≤ nI (ptext (fun i => if i < tn then tb i else 0)).2.1 := by rw [n_0le (by omega)]; trivial
    refine ⟨-100 - nI (ptext (fun i => if i < tn then tb i else 0)).2.1, zw1 S1 3 2 0, zw1 S3 51 9 0, ?_, ?_, n, P, cs, gap, cn, ver, vs, by omega, zV1_cg h1 (fun c i h => by rcases h with rfl | rfl | rfl | rfl | rfl | rfl | rfl | rfl | rfl <;> exact f.1 _ i rfl) (f.1 51 6 rfl) (f.1 51 11 rfl) (f.1 51 18 rfl), ⟨0, tb, by omega, ?_, ?_, fun i hi => by omega⟩, zV3_cg h3 (f.1 24 7 rfl) (f.1 51 29 rfl) (f.1 24 6 rfl) (f.1 51 30 rfl) (fun c i h => by rcases h with rfl | rfl | rfl | rfl | rfl | rfl <;> exact f.1 _ i rfl) (fun c i h => by rcases h with rfl | rfl | rfl | rfl <;> exact f.1 _ i rfl), zV4_cg h4 (f.1 30 5 rfl) (f.1 51 5 rfl) (f.1 30 6 rfl) (f.1 51 4 rfl) (fun c i h => by rcases h with rfl | rfl | rfl | rfl | rfl | rfl | rfl <;> exact f.1 _ i rfl), zV5_cg h5 (f.1 35 2 rfl) (f.1 51 34 rfl) (f.1 35 3 rfl) (f.1 51 37 rfl) (fun c i h => by rcases h with rfl | rfl | rfl | rfl <;> exact f.1 _ i rfl), zSHs_cg h6 (fun c i h => by rcases h with rfl | rfl | rfl | rfl | rfl | rfl | rfl | rfl <;> exact f.1 _ i rfl) f.2⟩
    · rw [c_X10_law, a1, Option.bind_some, pv]
      dsimp only
      rw [if_pos ge, c_X7_wipe, Option.bind_some, if_pos ge]
    · show zcI sc zm_X11_law [.ref 51] (zw1 S1 3 2 0) = _
      have e9 : (zw1 S1 3 2 0).1 51 9 = nI tn := (f2.1 51 9 rfl).trans b3
      rw [c_X11_law, e9, m1, Option.bind_some]
      dsimp only
      rw [m5, if_neg (by rw [n_lt0 (by omega)]; exact id)]
    · rw [zw1_n _ _ (by omega), m2.1 3 2 rfl, zw1_y]; rfl
    · rw [zw1_y]; rfl
