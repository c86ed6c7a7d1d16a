/-! ===== who, howBold, forWhom: the questions ===== -/
theorem shR_s {c : Nat} (h : c < 3) (h0 : c ≠ 0) : ¬ (shR c = 0) ∧ ¬ ((0 : Int32) ≤ (if c = 0 then 1 else shR c)) ∧ shR c ≠ -1 := by
  rcases (by omega : c = 1 ∨ c = 2) with rfl | rfl <;> exact ⟨by decide, by decide, by decide⟩
theorem shR_ne {c : Nat} (h : c < 3) : ¬ ((if c = 0 then 1 else shR c) = (-1 : Int32)) := by
  rcases (by omega : c = 0 ∨ c = 1 ∨ c = 2) with rfl | rfl | rfl <;> decide
theorem q_who_0 (sc : zSc) {n : Nat} {P : Nat → Nat → Nat} {cs : List Int32} {gap ver : Nat} {S : zS} (hC : zCE n P cs gap ver S) (hM : zME n P cs gap none S) {vs : Nat} (hS : zSh 39 40 0 vs S) (hv : vs ≤ 50) (a2 : Int32) :
    zQ n P cs gap ver (zcI sc zm_X10_who [.ref 0, .int (0 : Int32), .int a2] S) (fun S => zcI sc zm_X11_who [.ref 51, .int (nI 0), .int a2] S) S := by
  have hr := hC.2.1
  obtain ⟨c, hc, r1, r2, r3⟩ := sh_ref_0 sc hS hv
  have sne := shR_ne hc
  by_cases h2 : rg a2 2
  case neg =>
    refine ⟨-1, S, S, ?_, ?_, hC, zfr_refl _ _, zfr_refl _ _⟩
    · rw [c_X10_who_L0, r1, Option.bind_some]
      dsimp only
      rw [if_neg (c := rg a2 2 ∧ _) (fun q => h2 q.1), if_neg (by decide)]
    · show zcI sc zm_X11_who [.ref 51, .int (nI 0), .int a2] S = _
      rw [c_X11_who, r2 S rfl, Option.bind_some]
      dsimp only
      rw [if_neg sne, m_isWay', Option.bind_some]
      dsimp only
      rw [zb_f h2]; exact if_neg (fun q => q rfl)
  have t2 : rg a2 2 ∧ (1 : Int32) ≠ 0 := ⟨h2, by decide⟩
  by_cases hc0 : c = 0
  · obtain ⟨w, rfl, hw⟩ := rg_n h2
    obtain ⟨m, e, g1, g2⟩ := r3 hc0
    obtain ⟨S1, b1, b2, b3⟩ := c_load sc hC (show w < 3 by omega)
    obtain ⟨S2, d1, d2, d3⟩ := c_who_0 sc (m := m) (e := e) n 0 S1 none (by omega) b2 ⟨g1.1, (b3.1 39 2 rfl).trans g1.2.1, fun i hi => by rw [b3.2]; exact g1.2.2 i hi⟩
    have f2 : zfr zkC S S2 := zfr_tr b3 d3
    obtain ⟨S3, k1, k2⟩ := m_who_go sc hr (show w < 3 by omega) (show 0 < 6 by omega) (m := m) (e := e) n 0 S2 none none (by omega) (zME_C hM f2) ⟨g2.1, (f2.1 71 0 rfl).trans g2.2.1, fun i hi => by rw [f2.2]; exact g2.2.2 i hi⟩
    refine ⟨nI (hmk (fun p => decide (rgF n P cs gap w m e p 3 0 = 0)) n), S2, S3, ?_, ?_, d2, f2, k2⟩
    · have d1' : zcI sc zm_X5_ifNotBold [.ref 23, .ref 39, .int (nI n)] S1 = some (nI (hmk (fun p => decide (rgF n P cs gap w m e p 3 0 = 0)) n), S2) := (c_X5_ifNotBold_39 sc S1 (nI n)).trans d1
      rw [c_X10_who_L0, r1, Option.bind_some]
      dsimp only
      rw [if_pos t2, hc0, if_pos (show shR 0 = 0 from rfl), b1, Option.bind_some, b2.1.1.1, d1', Option.bind_some]
    · show zcI sc zm_X11_who [.ref 51, .int (nI 0), .int (nI w)] S2 = _
      rw [c_X11_who, r2 S2 (f2.1 70 0 rfl), Option.bind_some]
      dsimp only
      rw [if_neg sne, m_isWay', Option.bind_some]
      dsimp only
      rw [zb_t h2, if_pos (show (1 : Int32) ≠ 0 by decide), r2 S2 (f2.1 70 0 rfl), Option.bind_some]
      dsimp only
      rw [hc0, if_pos (show (0 : Int32) ≤ (if (0 : Nat) = 0 then 1 else shR 0) by decide)]
      exact k1
  · obtain ⟨s0, s1, _⟩ := shR_s hc hc0
    refine ⟨shR c, S, S, ?_, ?_, hC, zfr_refl _ _, zfr_refl _ _⟩
    · rw [c_X10_who_L0, r1, Option.bind_some]
      dsimp only
      rw [if_pos t2, if_neg s0]
    · show zcI sc zm_X11_who [.ref 51, .int (nI 0), .int a2] S = _
      rw [c_X11_who, r2 S rfl, Option.bind_some]
      dsimp only
      rw [if_neg sne, m_isWay', Option.bind_some]
      dsimp only
      rw [zb_t h2, if_pos (show (1 : Int32) ≠ 0 by decide), r2 S rfl, Option.bind_some]
      dsimp only
      rw [if_neg s1, r2 S rfl, Option.bind_some, if_neg hc0]
theorem q_howBold_0 (sc : zSc) {n : Nat} {P : Nat → Nat → Nat} {cs : List Int32} {gap ver : Nat} {S : zS} (hC : zCE n P cs gap ver S) (hM : zME n P cs gap none S) {vs : Nat} (hS : zSh 39 40 0 vs S) (hv : vs ≤ 50) (a2 a3 : Int32) :
    zQ n P cs gap ver (zcI sc zm_X10_howBold [.ref 0, .int (0 : Int32), .int a2, .int a3] S) (fun S => zcI sc zm_X11_howBold [.ref 51, .int (nI 0), .int a2, .int a3] S) S := by
  have hr := hC.2.1
  have hn := hC.1.2.1
  obtain ⟨c, hc, r1, r2, r3⟩ := sh_ref_0 sc hS hv
  by_cases h23 : rg a2 2 ∧ rgp a3 n
  case neg =>
    refine ⟨-1, S, S, ?_, ?_, hC, zfr_refl _ _, zfr_refl _ _⟩
    · rw [c_X10_howBold_L0, c_isOne sc hC.1, Option.bind_some]
      dsimp only
      rw [r1, Option.bind_some]
      dsimp only
      rw [if_neg (c := rg a2 2 ∧ _) (fun q => h23 ⟨q.1, zb_n.mp q.2⟩), if_neg (by decide)]
    · show zcI sc zm_X11_howBold [.ref 51, .int (nI 0), .int a2, .int a3] S = _
      rw [c_X11_howBold, m_askedOf sc hM.1 (r2 S rfl) hc, Option.bind_some]
      dsimp only
      rw [if_neg h23, if_neg (show ¬ ((0 : Int32) ≤ -1) by decide), m_askedOf sc hM.1 (r2 S rfl) hc, Option.bind_some, if_neg h23]
  have t2 : rg a2 2 ∧ zb (rgp a3 n) ≠ 0 := ⟨h23.1, zb_n.mpr h23.2⟩
  by_cases hc0 : c = 0
  · obtain ⟨w, rfl, hw⟩ := rg_n h23.1
    obtain ⟨p, rfl, hp⟩ := rgp_n h23.2
    obtain ⟨m, e, g1, g2⟩ := r3 hc0
    obtain ⟨S1, b1, b2, b3⟩ := c_load sc hC (show w < 3 by omega)
    obtain ⟨S2, d1, d2, d3⟩ := c_howBold_0 sc (m := m) (e := e) hp 8 0 S1 P (by omega) b2 (fun _ _ => rfl) (fun _ => rfl) ⟨g1.1, (b3.1 39 2 rfl).trans g1.2.1, fun i hi => by rw [b3.2]; exact g1.2.2 i hi⟩
    have f2 : zfr zkC S S2 := zfr_tr b3 d3
    have hM2 := zME_C hM f2
    obtain ⟨S3, k1, k2⟩ := m_howBold_go sc hr (show w < 3 by omega) (show 0 < 6 by omega) (m := m) (e := e) hp (nI p) (S2.1 52 (24 + p)) hM2 rfl ⟨g2.1, (f2.1 71 0 rfl).trans g2.2.1, fun i hi => by rw [f2.2]; exact g2.2.2 i hi⟩ 8 0 S2 (by omega) (zfr_refl _ _)
    refine ⟨z2 (fsV (rgF n P cs gap w m e p 3) 8 0) (fsV (rgF n P cs gap w m e p 3) 8 0 - 1), S2, S3, ?_, ?_, d2, f2, k2⟩
    · have d1' : zcI sc zm_X5_leastBold [.ref 23, .ref 39, .int (nI p)] S1 = some (z2 (fsV (rgF n P cs gap w m e p 3) 8 0) (fsV (rgF n P cs gap w m e p 3) 8 0 - 1), S2) := (c_X5_leastBold_39 sc S1 (nI p)).trans d1
      rw [c_X10_howBold_L0, c_isOne sc hC.1, Option.bind_some]
      dsimp only
      rw [r1, Option.bind_some]
      dsimp only
      rw [if_pos t2, hc0, if_pos (show shR 0 = 0 from rfl), b1, Option.bind_some, d1', Option.bind_some]
    · show zcI sc zm_X11_howBold [.ref 51, .int (nI 0), .int (nI w), .int (nI p)] S2 = _
      have e24 : (24 : Int32) + nI p = nI (24 + p) := zn_add 24 p
      rw [c_X11_howBold, m_askedOf sc hM2.1 (r2 S2 (f2.1 70 0 rfl)) hc, Option.bind_some]
      dsimp only
      rw [if_pos h23, hc0, if_pos (show (0 : Int32) ≤ (if (0 : Nat) = 0 then 1 else shR 0) by decide), e24, if_neg (by first | (rw [n_ob (by omega)]; omega) | (rw [n_obb (by omega)]; omega)), n_cl (by omega)]
      exact k1
  · obtain ⟨s0, s1, _⟩ := shR_s hc hc0
    refine ⟨shR c, S, S, ?_, ?_, hC, zfr_refl _ _, zfr_refl _ _⟩
    · rw [c_X10_howBold_L0, c_isOne sc hC.1, Option.bind_some]
      dsimp only
      rw [r1, Option.bind_some]
      dsimp only
      rw [if_pos t2, if_neg s0]
    · show zcI sc zm_X11_howBold [.ref 51, .int (nI 0), .int a2, .int a3] S = _
      rw [c_X11_howBold, m_askedOf sc hM.1 (r2 S rfl) hc, Option.bind_some]
      dsimp only
      rw [if_pos h23, if_neg s1, m_askedOf sc hM.1 (r2 S rfl) hc, Option.bind_some, if_pos h23, if_neg hc0]
theorem q_forWhom_0 (sc : zSc) {n : Nat} {P : Nat → Nat → Nat} {cs : List Int32} {gap ver : Nat} {S : zS} (hC : zCE n P cs gap ver S) (hM : zME n P cs gap none S) {vs : Nat} (hS : zSh 39 40 0 vs S) (hv : vs ≤ 50) (a2 a3 a4 : Int32) :
    zQ n P cs gap ver (zcI sc zm_X10_forWhom [.ref 0, .int (0 : Int32), .int a2, .int a3, .int a4] S) (fun S => zcI sc zm_X11_forWhom [.ref 51, .int (nI 0), .int a2, .int a3, .int a4] S) S := by
  have hr := hC.2.1
  have hn := hC.1.2.1
  obtain ⟨c, hc, r1, r2, r3⟩ := sh_ref_0 sc hS hv
  -- what the class begins with
  have cl : zcI sc zm_X10_forWhom [.ref 0, .int (0 : Int32), .int a2, .int a3, .int a4] S = if (rg a2 2 ∧ rgp a3 n) ∧ rg a4 1 then (if shR c = 0 then ((zcV sc zm_X0_load [.ref 12, .int a2] S).bind (fun q3 => ((zcI sc zm_X5_setsOfFriends [.ref 23, .ref 39, .int a3, .int a4] q3).bind (fun q4 => some (q4.1, q4.2))))) else some (shR c, S)) else some (-1, S) := by
    have no : ∀ x : Int32, ¬ (rg a2 2 ∧ x ≠ 0) → (if (if rg a2 2 ∧ x ≠ 0 then shR c else -1) = 0 then ((zcV sc zm_X0_load [.ref 12, .int a2] S).bind (fun q3 => ((zcI sc zm_X5_setsOfFriends [.ref 23, .ref 39, .int a3, .int a4] q3).bind (fun q4 => some (q4.1, q4.2))))) else some ((if rg a2 2 ∧ x ≠ 0 then shR c else -1), S)) = some (-1, S) := by
      intro x hx
      rw [if_neg hx, if_neg (by decide)]
    rw [c_X10_forWhom_L0, c_isOne sc hC.1, Option.bind_some]
    dsimp only
    by_cases h3 : rgp a3 n
    · rw [zb_t h3, if_neg (show ¬ ((1 : Int32) = 0) by decide), s_w1, Option.bind_some]
      dsimp only
      by_cases h4 : rg a4 1
      · rw [zb_t h4, if_neg (show ¬ ((1 : Int32) = 0) by decide), r1, Option.bind_some]
        dsimp only
        by_cases h2 : rg a2 2
        · have t2 : rg a2 2 ∧ (1 : Int32) ≠ 0 := ⟨h2, by decide⟩
          rw [if_pos t2, if_pos (c := (rg a2 2 ∧ rgp a3 n) ∧ rg a4 1) ⟨⟨h2, h3⟩, h4⟩]
        · rw [no 1 (fun q => h2 q.1), if_neg (c := (rg a2 2 ∧ rgp a3 n) ∧ rg a4 1) (fun q => h2 q.1.1)]
      · rw [zb_f h4, if_pos rfl, r1, Option.bind_some]
        dsimp only
        rw [no 0 (fun q => q.2 rfl), if_neg (c := (rg a2 2 ∧ rgp a3 n) ∧ rg a4 1) (fun q => h4 q.2)]
    · rw [zb_f h3, if_pos rfl, r1, Option.bind_some]
      dsimp only
      rw [no 0 (fun q => q.2 rfl), if_neg (c := (rg a2 2 ∧ rgp a3 n) ∧ rg a4 1) (fun q => h3 q.1.2)]
  have sne := shR_ne hc
  by_cases h23 : rg a2 2 ∧ rgp a3 n
  case neg =>
    refine ⟨-1, S, S, ?_, ?_, hC, zfr_refl _ _, zfr_refl _ _⟩
    · rw [cl, if_neg (fun q => h23 q.1)]
    · show zcI sc zm_X11_forWhom [.ref 51, .int (nI 0), .int a2, .int a3, .int a4] S = _
      rw [c_X11_forWhom, m_askedOf sc hM.1 (r2 S rfl) hc, Option.bind_some]
      dsimp only
      rw [if_neg h23]; exact if_pos rfl
  by_cases h4 : rg a4 1
  case neg =>
    refine ⟨-1, S, S, ?_, ?_, hC, zfr_refl _ _, zfr_refl _ _⟩
    · rw [cl, if_neg (fun q => h4 q.2)]
    · show zcI sc zm_X11_forWhom [.ref 51, .int (nI 0), .int a2, .int a3, .int a4] S = _
      rw [c_X11_forWhom, m_askedOf sc hM.1 (r2 S rfl) hc, Option.bind_some]
      dsimp only
      rw [if_pos h23, if_neg sne, m_w1, Option.bind_some]
      dsimp only
      rw [zb_f h4]; exact if_neg (fun q => q rfl)
  by_cases hc0 : c = 0
  · obtain ⟨w, rfl, hw⟩ := rg_n h23.1
    obtain ⟨p, rfl, hp⟩ := rgp_n h23.2
    obtain ⟨m, e, g1, g2⟩ := r3 hc0
    obtain ⟨S1, b1, b2, b3⟩ := c_load sc hC (show w < 3 by omega)
    obtain ⟨S2, d1, d2, d3⟩ := c_forWhom_0 sc (m := m) (e := e) hp a4 256 0 S1 P (by omega) b2 (fun _ _ => rfl) (fun _ => rfl) ⟨g1.1, (b3.1 39 2 rfl).trans g1.2.1, fun i hi => by rw [b3.2]; exact g1.2.2 i hi⟩
    have f2 : zfr zkC S S2 := zfr_tr b3 d3
    have hM2 := zME_C hM f2
    obtain ⟨S3, k1, k2⟩ := m_forWhom_go sc hr (show w < 3 by omega) (show 0 < 6 by omega) (m := m) (e := e) hp (nI p) a4 (S2.1 52 (32 + p)) hM2 rfl ⟨g2.1, (f2.1 71 0 rfl).trans g2.2.1, fun i hi => by rw [f2.2]; exact g2.2.2 i hi⟩ 256 0 S2 (by omega) (zfr_refl _ _)
    refine ⟨if a4 ≠ 0 then z2 (cnt (fun v => decide (rgF n P cs gap w m e p 4 v = 0)) 256) (fsF (fun v => decide (rgF n P cs gap w m e p 4 v = 0)) 256) else nI (cnt (fun v => decide (rgF n P cs gap w m e p 4 v = 0)) 256), S2, S3, ?_, ?_, d2, f2, k2⟩
    · have d1' : zcI sc zm_X5_setsOfFriends [.ref 23, .ref 39, .int (nI p), .int a4] S1 = some (if a4 ≠ 0 then z2 (cnt (fun v => decide (rgF n P cs gap w m e p 4 v = 0)) 256) (fsF (fun v => decide (rgF n P cs gap w m e p 4 v = 0)) 256) else nI (cnt (fun v => decide (rgF n P cs gap w m e p 4 v = 0)) 256), S2) := (c_X5_setsOfFriends_39 sc S1 (nI p) a4).trans d1
      rw [cl, if_pos (c := (_ ∧ _) ∧ _) ⟨h23, h4⟩, hc0, if_pos (show shR 0 = 0 from rfl), b1, Option.bind_some, d1', Option.bind_some]
    · show zcI sc zm_X11_forWhom [.ref 51, .int (nI 0), .int (nI w), .int (nI p), .int a4] S2 = _
      have e32 : (32 : Int32) + nI p = nI (32 + p) := zn_add 32 p
      rw [c_X11_forWhom, m_askedOf sc hM2.1 (r2 S2 (f2.1 70 0 rfl)) hc, Option.bind_some]
      dsimp only
      rw [if_pos h23, if_neg sne, m_w1, Option.bind_some]
      dsimp only
      rw [zb_t h4, if_pos (show (1 : Int32) ≠ 0 by decide), m_askedOf sc hM2.1 (r2 S2 (f2.1 70 0 rfl)) hc, Option.bind_some]
      dsimp only
      rw [if_pos h23, hc0, if_pos (show (0 : Int32) ≤ (if (0 : Nat) = 0 then 1 else shR 0) by decide), e32, if_neg (by first | (rw [n_ob (by omega)]; omega) | (rw [n_obb (by omega)]; omega)), n_cl (by omega)]
      exact k1
  · obtain ⟨s0, s1, _⟩ := shR_s hc hc0
    refine ⟨shR c, S, S, ?_, ?_, hC, zfr_refl _ _, zfr_refl _ _⟩
    · rw [cl, if_pos (c := (_ ∧ _) ∧ _) ⟨h23, h4⟩, if_neg s0]
    · show zcI sc zm_X11_forWhom [.ref 51, .int (nI 0), .int a2, .int a3, .int a4] S = _
      rw [c_X11_forWhom, m_askedOf sc hM.1 (r2 S rfl) hc, Option.bind_some]
      dsimp only
      rw [if_pos h23, if_neg sne, m_w1, Option.bind_some]
      dsimp only
      rw [zb_t h4, if_pos (show (1 : Int32) ≠ 0 by decide), m_askedOf sc hM.1 (r2 S rfl) hc, Option.bind_some]
      dsimp only
      rw [if_pos h23, if_neg s1, m_askedOf sc hM.1 (r2 S rfl) hc, Option.bind_some, if_pos h23, if_neg hc0]
theorem q_who_1 (sc : zSc) {n : Nat} {P : Nat → Nat → Nat} {cs : List Int32} {gap ver : Nat} {S : zS} (hC : zCE n P cs gap ver S) (hM : zME n P cs gap none S) {vs : Nat} (hS : zSh 41 42 1 vs S) (hv : vs ≤ 50) (a2 : Int32) :
    zQ n P cs gap ver (zcI sc zm_X10_who [.ref 0, .int (1 : Int32), .int a2] S) (fun S => zcI sc zm_X11_who [.ref 51, .int (nI 1), .int a2] S) S := by
  have hr := hC.2.1
  obtain ⟨c, hc, r1, r2, r3⟩ := sh_ref_1 sc hS hv
  have sne := shR_ne hc
  by_cases h2 : rg a2 2
  case neg =>
    refine ⟨-1, S, S, ?_, ?_, hC, zfr_refl _ _, zfr_refl _ _⟩
    · rw [c_X10_who_L1, r1, Option.bind_some]
      dsimp only
      rw [if_neg (c := rg a2 2 ∧ _) (fun q => h2 q.1), if_neg (by decide)]
    · show zcI sc zm_X11_who [.ref 51, .int (nI 1), .int a2] S = _
      rw [c_X11_who, r2 S rfl, Option.bind_some]
      dsimp only
      rw [if_neg sne, m_isWay', Option.bind_some]
      dsimp only
      rw [zb_f h2]; exact if_neg (fun q => q rfl)
  have t2 : rg a2 2 ∧ (1 : Int32) ≠ 0 := ⟨h2, by decide⟩
  by_cases hc0 : c = 0
  · obtain ⟨w, rfl, hw⟩ := rg_n h2
    obtain ⟨m, e, g1, g2⟩ := r3 hc0
    obtain ⟨S1, b1, b2, b3⟩ := c_load sc hC (show w < 3 by omega)
    obtain ⟨S2, d1, d2, d3⟩ := c_who_1 sc (m := m) (e := e) n 0 S1 none (by omega) b2 ⟨g1.1, (b3.1 41 2 rfl).trans g1.2.1, fun i hi => by rw [b3.2]; exact g1.2.2 i hi⟩
    have f2 : zfr zkC S S2 := zfr_tr b3 d3
    obtain ⟨S3, k1, k2⟩ := m_who_go sc hr (show w < 3 by omega) (show 1 < 6 by omega) (m := m) (e := e) n 0 S2 none none (by omega) (zME_C hM f2) ⟨g2.1, (f2.1 71 1 rfl).trans g2.2.1, fun i hi => by rw [f2.2]; exact g2.2.2 i hi⟩
    refine ⟨nI (hmk (fun p => decide (rgF n P cs gap w m e p 3 0 = 0)) n), S2, S3, ?_, ?_, d2, f2, k2⟩
    · have d1' : zcI sc zm_X5_ifNotBold [.ref 23, .ref 41, .int (nI n)] S1 = some (nI (hmk (fun p => decide (rgF n P cs gap w m e p 3 0 = 0)) n), S2) := (c_X5_ifNotBold_41 sc S1 (nI n)).trans d1
      rw [c_X10_who_L1, r1, Option.bind_some]
      dsimp only
      rw [if_pos t2, hc0, if_pos (show shR 0 = 0 from rfl), b1, Option.bind_some, b2.1.1.1, d1', Option.bind_some]
    · show zcI sc zm_X11_who [.ref 51, .int (nI 1), .int (nI w)] S2 = _
      rw [c_X11_who, r2 S2 (f2.1 70 1 rfl), Option.bind_some]
      dsimp only
      rw [if_neg sne, m_isWay', Option.bind_some]
      dsimp only
      rw [zb_t h2, if_pos (show (1 : Int32) ≠ 0 by decide), r2 S2 (f2.1 70 1 rfl), Option.bind_some]
      dsimp only
      rw [hc0, if_pos (show (0 : Int32) ≤ (if (0 : Nat) = 0 then 1 else shR 0) by decide)]
      exact k1
  · obtain ⟨s0, s1, _⟩ := shR_s hc hc0
    refine ⟨shR c, S, S, ?_, ?_, hC, zfr_refl _ _, zfr_refl _ _⟩
    · rw [c_X10_who_L1, r1, Option.bind_some]
      dsimp only
      rw [if_pos t2, if_neg s0]
    · show zcI sc zm_X11_who [.ref 51, .int (nI 1), .int a2] S = _
      rw [c_X11_who, r2 S rfl, Option.bind_some]
      dsimp only
      rw [if_neg sne, m_isWay', Option.bind_some]
      dsimp only
      rw [zb_t h2, if_pos (show (1 : Int32) ≠ 0 by decide), r2 S rfl, Option.bind_some]
      dsimp only
      rw [if_neg s1, r2 S rfl, Option.bind_some, if_neg hc0]
theorem q_howBold_1 (sc : zSc) {n : Nat} {P : Nat → Nat → Nat} {cs : List Int32} {gap ver : Nat} {S : zS} (hC : zCE n P cs gap ver S) (hM : zME n P cs gap none S) {vs : Nat} (hS : zSh 41 42 1 vs S) (hv : vs ≤ 50) (a2 a3 : Int32) :
    zQ n P cs gap ver (zcI sc zm_X10_howBold [.ref 0, .int (1 : Int32), .int a2, .int a3] S) (fun S => zcI sc zm_X11_howBold [.ref 51, .int (nI 1), .int a2, .int a3] S) S := by
  have hr := hC.2.1
  have hn := hC.1.2.1
  obtain ⟨c, hc, r1, r2, r3⟩ := sh_ref_1 sc hS hv
  by_cases h23 : rg a2 2 ∧ rgp a3 n
  case neg =>
    refine ⟨-1, S, S, ?_, ?_, hC, zfr_refl _ _, zfr_refl _ _⟩
    · rw [c_X10_howBold_L1, c_isOne sc hC.1, Option.bind_some]
      dsimp only
      rw [r1, Option.bind_some]
      dsimp only
      rw [if_neg (c := rg a2 2 ∧ _) (fun q => h23 ⟨q.1, zb_n.mp q.2⟩), if_neg (by decide)]
    · show zcI sc zm_X11_howBold [.ref 51, .int (nI 1), .int a2, .int a3] S = _
      rw [c_X11_howBold, m_askedOf sc hM.1 (r2 S rfl) hc, Option.bind_some]
      dsimp only
      rw [if_neg h23, if_neg (show ¬ ((0 : Int32) ≤ -1) by decide), m_askedOf sc hM.1 (r2 S rfl) hc, Option.bind_some, if_neg h23]
  have t2 : rg a2 2 ∧ zb (rgp a3 n) ≠ 0 := ⟨h23.1, zb_n.mpr h23.2⟩
  by_cases hc0 : c = 0
  · obtain ⟨w, rfl, hw⟩ := rg_n h23.1
    obtain ⟨p, rfl, hp⟩ := rgp_n h23.2
    obtain ⟨m, e, g1, g2⟩ := r3 hc0
    obtain ⟨S1, b1, b2, b3⟩ := c_load sc hC (show w < 3 by omega)
    obtain ⟨S2, d1, d2, d3⟩ := c_howBold_1 sc (m := m) (e := e) hp 8 0 S1 P (by omega) b2 (fun _ _ => rfl) (fun _ => rfl) ⟨g1.1, (b3.1 41 2 rfl).trans g1.2.1, fun i hi => by rw [b3.2]; exact g1.2.2 i hi⟩
    have f2 : zfr zkC S S2 := zfr_tr b3 d3
    have hM2 := zME_C hM f2
    obtain ⟨S3, k1, k2⟩ := m_howBold_go sc hr (show w < 3 by omega) (show 1 < 6 by omega) (m := m) (e := e) hp (nI p) (S2.1 52 (24 + p)) hM2 rfl ⟨g2.1, (f2.1 71 1 rfl).trans g2.2.1, fun i hi => by rw [f2.2]; exact g2.2.2 i hi⟩ 8 0 S2 (by omega) (zfr_refl _ _)
    refine ⟨z2 (fsV (rgF n P cs gap w m e p 3) 8 0) (fsV (rgF n P cs gap w m e p 3) 8 0 - 1), S2, S3, ?_, ?_, d2, f2, k2⟩
    · have d1' : zcI sc zm_X5_leastBold [.ref 23, .ref 41, .int (nI p)] S1 = some (z2 (fsV (rgF n P cs gap w m e p 3) 8 0) (fsV (rgF n P cs gap w m e p 3) 8 0 - 1), S2) := (c_X5_leastBold_41 sc S1 (nI p)).trans d1
      rw [c_X10_howBold_L1, c_isOne sc hC.1, Option.bind_some]
      dsimp only
      rw [r1, Option.bind_some]
      dsimp only
      rw [if_pos t2, hc0, if_pos (show shR 0 = 0 from rfl), b1, Option.bind_some, d1', Option.bind_some]
    · show zcI sc zm_X11_howBold [.ref 51, .int (nI 1), .int (nI w), .int (nI p)] S2 = _
      have e24 : (24 : Int32) + nI p = nI (24 + p) := zn_add 24 p
      rw [c_X11_howBold, m_askedOf sc hM2.1 (r2 S2 (f2.1 70 1 rfl)) hc, Option.bind_some]
      dsimp only
      rw [if_pos h23, hc0, if_pos (show (0 : Int32) ≤ (if (0 : Nat) = 0 then 1 else shR 0) by decide), e24, if_neg (by first | (rw [n_ob (by omega)]; omega) | (rw [n_obb (by omega)]; omega)), n_cl (by omega)]
      exact k1
  · obtain ⟨s0, s1, _⟩ := shR_s hc hc0
    refine ⟨shR c, S, S, ?_, ?_, hC, zfr_refl _ _, zfr_refl _ _⟩
    · rw [c_X10_howBold_L1, c_isOne sc hC.1, Option.bind_some]
      dsimp only
      rw [r1, Option.bind_some]
      dsimp only
      rw [if_pos t2, if_neg s0]
    · show zcI sc zm_X11_howBold [.ref 51, .int (nI 1), .int a2, .int a3] S = _
      rw [c_X11_howBold, m_askedOf sc hM.1 (r2 S rfl) hc, Option.bind_some]
      dsimp only
      rw [if_pos h23, if_neg s1, m_askedOf sc hM.1 (r2 S rfl) hc, Option.bind_some, if_pos h23, if_neg hc0]
theorem q_forWhom_1 (sc : zSc) {n : Nat} {P : Nat → Nat → Nat} {cs : List Int32} {gap ver : Nat} {S : zS} (hC : zCE n P cs gap ver S) (hM : zME n P cs gap none S) {vs : Nat} (hS : zSh 41 42 1 vs S) (hv : vs ≤ 50) (a2 a3 a4 : Int32) :
    zQ n P cs gap ver (zcI sc zm_X10_forWhom [.ref 0, .int (1 : Int32), .int a2, .int a3, .int a4] S) (fun S => zcI sc zm_X11_forWhom [.ref 51, .int (nI 1), .int a2, .int a3, .int a4] S) S := by
  have hr := hC.2.1
  have hn := hC.1.2.1
  obtain ⟨c, hc, r1, r2, r3⟩ := sh_ref_1 sc hS hv
  -- what the class begins with
  have cl : zcI sc zm_X10_forWhom [.ref 0, .int (1 : Int32), .int a2, .int a3, .int a4] S = if (rg a2 2 ∧ rgp a3 n) ∧ rg a4 1 then (if shR c = 0 then ((zcV sc zm_X0_load [.ref 12, .int a2] S).bind (fun q3 => ((zcI sc zm_X5_setsOfFriends [.ref 23, .ref 41, .int a3, .int a4] q3).bind (fun q4 => some (q4.1, q4.2))))) else some (shR c, S)) else some (-1, S) := by
    have no : ∀ x : Int32, ¬ (rg a2 2 ∧ x ≠ 0) → (if (if rg a2 2 ∧ x ≠ 0 then shR c else -1) = 0 then ((zcV sc zm_X0_load [.ref 12, .int a2] S).bind (fun q3 => ((zcI sc zm_X5_setsOfFriends [.ref 23, .ref 41, .int a3, .int a4] q3).bind (fun q4 => some (q4.1, q4.2))))) else some ((if rg a2 2 ∧ x ≠ 0 then shR c else -1), S)) = some (-1, S) := by
      intro x hx
      rw [if_neg hx, if_neg (by decide)]
    rw [c_X10_forWhom_L1, c_isOne sc hC.1, Option.bind_some]
    dsimp only
    by_cases h3 : rgp a3 n
    · rw [zb_t h3, if_neg (show ¬ ((1 : Int32) = 0) by decide), s_w1, Option.bind_some]
      dsimp only
      by_cases h4 : rg a4 1
      · rw [zb_t h4, if_neg (show ¬ ((1 : Int32) = 0) by decide), r1, Option.bind_some]
        dsimp only
        by_cases h2 : rg a2 2
        · have t2 : rg a2 2 ∧ (1 : Int32) ≠ 0 := ⟨h2, by decide⟩
          rw [if_pos t2, if_pos (c := (rg a2 2 ∧ rgp a3 n) ∧ rg a4 1) ⟨⟨h2, h3⟩, h4⟩]
        · rw [no 1 (fun q => h2 q.1), if_neg (c := (rg a2 2 ∧ rgp a3 n) ∧ rg a4 1) (fun q => h2 q.1.1)]
      · rw [zb_f h4, if_pos rfl, r1, Option.bind_some]
        dsimp only
        rw [no 0 (fun q => q.2 rfl), if_neg (c := (rg a2 2 ∧ rgp a3 n) ∧ rg a4 1) (fun q => h4 q.2)]
    · rw [zb_f h3, if_pos rfl, r1, Option.bind_some]
      dsimp only
      rw [no 0 (fun q => q.2 rfl), if_neg (c := (rg a2 2 ∧ rgp a3 n) ∧ rg a4 1) (fun q => h3 q.1.2)]
  have sne := shR_ne hc
  by_cases h23 : rg a2 2 ∧ rgp a3 n
  case neg =>
    refine ⟨-1, S, S, ?_, ?_, hC, zfr_refl _ _, zfr_refl _ _⟩
    · rw [cl, if_neg (fun q => h23 q.1)]
    · show zcI sc zm_X11_forWhom [.ref 51, .int (nI 1), .int a2, .int a3, .int a4] S = _
      rw [c_X11_forWhom, m_askedOf sc hM.1 (r2 S rfl) hc, Option.bind_some]
      dsimp only
      rw [if_neg h23]; exact if_pos rfl
  by_cases h4 : rg a4 1
  case neg =>
    refine ⟨-1, S, S, ?_, ?_, hC, zfr_refl _ _, zfr_refl _ _⟩
    · rw [cl, if_neg (fun q => h4 q.2)]
    · show zcI sc zm_X11_forWhom [.ref 51, .int (nI 1), .int a2, .int a3, .int a4] S = _
      rw [c_X11_forWhom, m_askedOf sc hM.1 (r2 S rfl) hc, Option.bind_some]
      dsimp only
      rw [if_pos h23, if_neg sne, m_w1, Option.bind_some]
      dsimp only
      rw [zb_f h4]; exact if_neg (fun q => q rfl)
  by_cases hc0 : c = 0
  · obtain ⟨w, rfl, hw⟩ := rg_n h23.1
    obtain ⟨p, rfl, hp⟩ := rgp_n h23.2
    obtain ⟨m, e, g1, g2⟩ := r3 hc0
    obtain ⟨S1, b1, b2, b3⟩ := c_load sc hC (show w < 3 by omega)
    obtain ⟨S2, d1, d2, d3⟩ := c_forWhom_1 sc (m := m) (e := e) hp a4 256 0 S1 P (by omega) b2 (fun _ _ => rfl) (fun _ => rfl) ⟨g1.1, (b3.1 41 2 rfl).trans g1.2.1, fun i hi => by rw [b3.2]; exact g1.2.2 i hi⟩
    have f2 : zfr zkC S S2 := zfr_tr b3 d3
    have hM2 := zME_C hM f2
    obtain ⟨S3, k1, k2⟩ := m_forWhom_go sc hr (show w < 3 by omega) (show 1 < 6 by omega) (m := m) (e := e) hp (nI p) a4 (S2.1 52 (32 + p)) hM2 rfl ⟨g2.1, (f2.1 71 1 rfl).trans g2.2.1, fun i hi => by rw [f2.2]; exact g2.2.2 i hi⟩ 256 0 S2 (by omega) (zfr_refl _ _)
    refine ⟨if a4 ≠ 0 then z2 (cnt (fun v => decide (rgF n P cs gap w m e p 4 v = 0)) 256) (fsF (fun v => decide (rgF n P cs gap w m e p 4 v = 0)) 256) else nI (cnt (fun v => decide (rgF n P cs gap w m e p 4 v = 0)) 256), S2, S3, ?_, ?_, d2, f2, k2⟩
    · have d1' : zcI sc zm_X5_setsOfFriends [.ref 23, .ref 41, .int (nI p), .int a4] S1 = some (if a4 ≠ 0 then z2 (cnt (fun v => decide (rgF n P cs gap w m e p 4 v = 0)) 256) (fsF (fun v => decide (rgF n P cs gap w m e p 4 v = 0)) 256) else nI (cnt (fun v => decide (rgF n P cs gap w m e p 4 v = 0)) 256), S2) := (c_X5_setsOfFriends_41 sc S1 (nI p) a4).trans d1
      rw [cl, if_pos (c := (_ ∧ _) ∧ _) ⟨h23, h4⟩, hc0, if_pos (show shR 0 = 0 from rfl), b1, Option.bind_some, d1', Option.bind_some]
    · show zcI sc zm_X11_forWhom [.ref 51, .int (nI 1), .int (nI w), .int (nI p), .int a4] S2 = _
      have e32 : (32 : Int32) + nI p = nI (32 + p) := zn_add 32 p
      rw [c_X11_forWhom, m_askedOf sc hM2.1 (r2 S2 (f2.1 70 1 rfl)) hc, Option.bind_some]
      dsimp only
      rw [if_pos h23, if_neg sne, m_w1, Option.bind_some]
      dsimp only
      rw [zb_t h4, if_pos (show (1 : Int32) ≠ 0 by decide), m_askedOf sc hM2.1 (r2 S2 (f2.1 70 1 rfl)) hc, Option.bind_some]
      dsimp only
      rw [if_pos h23, hc0, if_pos (show (0 : Int32) ≤ (if (0 : Nat) = 0 then 1 else shR 0) by decide), e32, if_neg (by first | (rw [n_ob (by omega)]; omega) | (rw [n_obb (by omega)]; omega)), n_cl (by omega)]
      exact k1
  · obtain ⟨s0, s1, _⟩ := shR_s hc hc0
    refine ⟨shR c, S, S, ?_, ?_, hC, zfr_refl _ _, zfr_refl _ _⟩
    · rw [cl, if_pos (c := (_ ∧ _) ∧ _) ⟨h23, h4⟩, if_neg s0]
    · show zcI sc zm_X11_forWhom [.ref 51, .int (nI 1), .int a2, .int a3, .int a4] S = _
      rw [c_X11_forWhom, m_askedOf sc hM.1 (r2 S rfl) hc, Option.bind_some]
      dsimp only
      rw [if_pos h23, if_neg sne, m_w1, Option.bind_some]
      dsimp only
      rw [zb_t h4, if_pos (show (1 : Int32) ≠ 0 by decide), m_askedOf sc hM.1 (r2 S rfl) hc, Option.bind_some]
      dsimp only
      rw [if_pos h23, if_neg s1, m_askedOf sc hM.1 (r2 S rfl) hc, Option.bind_some, if_pos h23, if_neg hc0]
theorem q_who_2 (sc : zSc) {n : Nat} {P : Nat → Nat → Nat} {cs : List Int32} {gap ver : Nat} {S : zS} (hC : zCE n P cs gap ver S) (hM : zME n P cs gap none S) {vs : Nat} (hS : zSh 43 44 2 vs S) (hv : vs ≤ 50) (a2 : Int32) :
    zQ n P cs gap ver (zcI sc zm_X10_who [.ref 0, .int (2 : Int32), .int a2] S) (fun S => zcI sc zm_X11_who [.ref 51, .int (nI 2), .int a2] S) S := by
  have hr := hC.2.1
  obtain ⟨c, hc, r1, r2, r3⟩ := sh_ref_2 sc hS hv
  have sne := shR_ne hc
  by_cases h2 : rg a2 2
  case neg =>
    refine ⟨-1, S, S, ?_, ?_, hC, zfr_refl _ _, zfr_refl _ _⟩
    · rw [c_X10_who_L2, r1, Option.bind_some]
      dsimp only
      rw [if_neg (c := rg a2 2 ∧ _) (fun q => h2 q.1), if_neg (by decide)]
    · show zcI sc zm_X11_who [.ref 51, .int (nI 2), .int a2] S = _
      rw [c_X11_who, r2 S rfl, Option.bind_some]
      dsimp only
      rw [if_neg sne, m_isWay', Option.bind_some]
      dsimp only
      rw [zb_f h2]; exact if_neg (fun q => q rfl)
  have t2 : rg a2 2 ∧ (1 : Int32) ≠ 0 := ⟨h2, by decide⟩
  by_cases hc0 : c = 0
  · obtain ⟨w, rfl, hw⟩ := rg_n h2
    obtain ⟨m, e, g1, g2⟩ := r3 hc0
    obtain ⟨S1, b1, b2, b3⟩ := c_load sc hC (show w < 3 by omega)
    obtain ⟨S2, d1, d2, d3⟩ := c_who_2 sc (m := m) (e := e) n 0 S1 none (by omega) b2 ⟨g1.1, (b3.1 43 2 rfl).trans g1.2.1, fun i hi => by rw [b3.2]; exact g1.2.2 i hi⟩
    have f2 : zfr zkC S S2 := zfr_tr b3 d3
    obtain ⟨S3, k1, k2⟩ := m_who_go sc hr (show w < 3 by omega) (show 2 < 6 by omega) (m := m) (e := e) n 0 S2 none none (by omega) (zME_C hM f2) ⟨g2.1, (f2.1 71 2 rfl).trans g2.2.1, fun i hi => by rw [f2.2]; exact g2.2.2 i hi⟩
    refine ⟨nI (hmk (fun p => decide (rgF n P cs gap w m e p 3 0 = 0)) n), S2, S3, ?_, ?_, d2, f2, k2⟩
    · have d1' : zcI sc zm_X5_ifNotBold [.ref 23, .ref 43, .int (nI n)] S1 = some (nI (hmk (fun p => decide (rgF n P cs gap w m e p 3 0 = 0)) n), S2) := (c_X5_ifNotBold_43 sc S1 (nI n)).trans d1
      rw [c_X10_who_L2, r1, Option.bind_some]
      dsimp only
      rw [if_pos t2, hc0, if_pos (show shR 0 = 0 from rfl), b1, Option.bind_some, b2.1.1.1, d1', Option.bind_some]
    · show zcI sc zm_X11_who [.ref 51, .int (nI 2), .int (nI w)] S2 = _
      rw [c_X11_who, r2 S2 (f2.1 70 2 rfl), Option.bind_some]
      dsimp only
      rw [if_neg sne, m_isWay', Option.bind_some]
      dsimp only
      rw [zb_t h2, if_pos (show (1 : Int32) ≠ 0 by decide), r2 S2 (f2.1 70 2 rfl), Option.bind_some]
      dsimp only
      rw [hc0, if_pos (show (0 : Int32) ≤ (if (0 : Nat) = 0 then 1 else shR 0) by decide)]
      exact k1
  · obtain ⟨s0, s1, _⟩ := shR_s hc hc0
    refine ⟨shR c, S, S, ?_, ?_, hC, zfr_refl _ _, zfr_refl _ _⟩
    · rw [c_X10_who_L2, r1, Option.bind_some]
      dsimp only
      rw [if_pos t2, if_neg s0]
    · show zcI sc zm_X11_who [.ref 51, .int (nI 2), .int a2] S = _
      rw [c_X11_who, r2 S rfl, Option.bind_some]
      dsimp only
      rw [if_neg sne, m_isWay', Option.bind_some]
      dsimp only
      rw [zb_t h2, if_pos (show (1 : Int32) ≠ 0 by decide), r2 S rfl, Option.bind_some]
      dsimp only
      rw [if_neg s1, r2 S rfl, Option.bind_some, if_neg hc0]
theorem q_howBold_2 (sc : zSc) {n : Nat} {P : Nat → Nat → Nat} {cs : List Int32} {gap ver : Nat} {S : zS} (hC : zCE n P cs gap ver S) (hM : zME n P cs gap none S) {vs : Nat} (hS : zSh 43 44 2 vs S) (hv : vs ≤ 50) (a2 a3 : Int32) :
    zQ n P cs gap ver (zcI sc zm_X10_howBold [.ref 0, .int (2 : Int32), .int a2, .int a3] S) (fun S => zcI sc zm_X11_howBold [.ref 51, .int (nI 2), .int a2, .int a3] S) S := by
  have hr := hC.2.1
  have hn := hC.1.2.1
  obtain ⟨c, hc, r1, r2, r3⟩ := sh_ref_2 sc hS hv
  by_cases h23 : rg a2 2 ∧ rgp a3 n
  case neg =>
    refine ⟨-1, S, S, ?_, ?_, hC, zfr_refl _ _, zfr_refl _ _⟩
    · rw [c_X10_howBold_L2, c_isOne sc hC.1, Option.bind_some]
      dsimp only
      rw [r1, Option.bind_some]
      dsimp only
      rw [if_neg (c := rg a2 2 ∧ _) (fun q => h23 ⟨q.1, zb_n.mp q.2⟩), if_neg (by decide)]
    · show zcI sc zm_X11_howBold [.ref 51, .int (nI 2), .int a2, .int a3] S = _
      rw [c_X11_howBold, m_askedOf sc hM.1 (r2 S rfl) hc, Option.bind_some]
      dsimp only
      rw [if_neg h23, if_neg (show ¬ ((0 : Int32) ≤ -1) by decide), m_askedOf sc hM.1 (r2 S rfl) hc, Option.bind_some, if_neg h23]
  have t2 : rg a2 2 ∧ zb (rgp a3 n) ≠ 0 := ⟨h23.1, zb_n.mpr h23.2⟩
  by_cases hc0 : c = 0
  · obtain ⟨w, rfl, hw⟩ := rg_n h23.1
    obtain ⟨p, rfl, hp⟩ := rgp_n h23.2
    obtain ⟨m, e, g1, g2⟩ := r3 hc0
    obtain ⟨S1, b1, b2, b3⟩ := c_load sc hC (show w < 3 by omega)
    obtain ⟨S2, d1, d2, d3⟩ := c_howBold_2 sc (m := m) (e := e) hp 8 0 S1 P (by omega) b2 (fun _ _ => rfl) (fun _ => rfl) ⟨g1.1, (b3.1 43 2 rfl).trans g1.2.1, fun i hi => by rw [b3.2]; exact g1.2.2 i hi⟩
    have f2 : zfr zkC S S2 := zfr_tr b3 d3
    have hM2 := zME_C hM f2
    obtain ⟨S3, k1, k2⟩ := m_howBold_go sc hr (show w < 3 by omega) (show 2 < 6 by omega) (m := m) (e := e) hp (nI p) (S2.1 52 (24 + p)) hM2 rfl ⟨g2.1, (f2.1 71 2 rfl).trans g2.2.1, fun i hi => by rw [f2.2]; exact g2.2.2 i hi⟩ 8 0 S2 (by omega) (zfr_refl _ _)
    refine ⟨z2 (fsV (rgF n P cs gap w m e p 3) 8 0) (fsV (rgF n P cs gap w m e p 3) 8 0 - 1), S2, S3, ?_, ?_, d2, f2, k2⟩
    · have d1' : zcI sc zm_X5_leastBold [.ref 23, .ref 43, .int (nI p)] S1 = some (z2 (fsV (rgF n P cs gap w m e p 3) 8 0) (fsV (rgF n P cs gap w m e p 3) 8 0 - 1), S2) := (c_X5_leastBold_43 sc S1 (nI p)).trans d1
      rw [c_X10_howBold_L2, c_isOne sc hC.1, Option.bind_some]
      dsimp only
      rw [r1, Option.bind_some]
      dsimp only
      rw [if_pos t2, hc0, if_pos (show shR 0 = 0 from rfl), b1, Option.bind_some, d1', Option.bind_some]
    · show zcI sc zm_X11_howBold [.ref 51, .int (nI 2), .int (nI w), .int (nI p)] S2 = _
      have e24 : (24 : Int32) + nI p = nI (24 + p) := zn_add 24 p
      rw [c_X11_howBold, m_askedOf sc hM2.1 (r2 S2 (f2.1 70 2 rfl)) hc, Option.bind_some]
      dsimp only
      rw [if_pos h23, hc0, if_pos (show (0 : Int32) ≤ (if (0 : Nat) = 0 then 1 else shR 0) by decide), e24, if_neg (by first | (rw [n_ob (by omega)]; omega) | (rw [n_obb (by omega)]; omega)), n_cl (by omega)]
      exact k1
  · obtain ⟨s0, s1, _⟩ := shR_s hc hc0
    refine ⟨shR c, S, S, ?_, ?_, hC, zfr_refl _ _, zfr_refl _ _⟩
    · rw [c_X10_howBold_L2, c_isOne sc hC.1, Option.bind_some]
      dsimp only
      rw [r1, Option.bind_some]
      dsimp only
      rw [if_pos t2, if_neg s0]
    · show zcI sc zm_X11_howBold [.ref 51, .int (nI 2), .int a2, .int a3] S = _
      rw [c_X11_howBold, m_askedOf sc hM.1 (r2 S rfl) hc, Option.bind_some]
      dsimp only
      rw [if_pos h23, if_neg s1, m_askedOf sc hM.1 (r2 S rfl) hc, Option.bind_some, if_pos h23, if_neg hc0]
theorem q_forWhom_2 (sc : zSc) {n : Nat} {P : Nat → Nat → Nat} {cs : List Int32} {gap ver : Nat} {S : zS} (hC : zCE n P cs gap ver S) (hM : zME n P cs gap none S) {vs : Nat} (hS : zSh 43 44 2 vs S) (hv : vs ≤ 50) (a2 a3 a4 : Int32) :
    zQ n P cs gap ver (zcI sc zm_X10_forWhom [.ref 0, .int (2 : Int32), .int a2, .int a3, .int a4] S) (fun S => zcI sc zm_X11_forWhom [.ref 51, .int (nI 2), .int a2, .int a3, .int a4] S) S := by
  have hr := hC.2.1
  have hn := hC.1.2.1
  obtain ⟨c, hc, r1, r2, r3⟩ := sh_ref_2 sc hS hv
  -- what the class begins with
  have cl : zcI sc zm_X10_forWhom [.ref 0, .int (2 : Int32), .int a2, .int a3, .int a4] S = if (rg a2 2 ∧ rgp a3 n) ∧ rg a4 1 then (if shR c = 0 then ((zcV sc zm_X0_load [.ref 12, .int a2] S).bind (fun q3 => ((zcI sc zm_X5_setsOfFriends [.ref 23, .ref 43, .int a3, .int a4] q3).bind (fun q4 => some (q4.1, q4.2))))) else some (shR c, S)) else some (-1, S) := by
    have no : ∀ x : Int32, ¬ (rg a2 2 ∧ x ≠ 0) → (if (if rg a2 2 ∧ x ≠ 0 then shR c else -1) = 0 then ((zcV sc zm_X0_load [.ref 12, .int a2] S).bind (fun q3 => ((zcI sc zm_X5_setsOfFriends [.ref 23, .ref 43, .int a3, .int a4] q3).bind (fun q4 => some (q4.1, q4.2))))) else some ((if rg a2 2 ∧ x ≠ 0 then shR c else -1), S)) = some (-1, S) := by
      intro x hx
      rw [if_neg hx, if_neg (by decide)]
    rw [c_X10_forWhom_L2, c_isOne sc hC.1, Option.bind_some]
    dsimp only
    by_cases h3 : rgp a3 n
    · rw [zb_t h3, if_neg (show ¬ ((1 : Int32) = 0) by decide), s_w1, Option.bind_some]
      dsimp only
      by_cases h4 : rg a4 1
      · rw [zb_t h4, if_neg (show ¬ ((1 : Int32) = 0) by decide), r1, Option.bind_some]
        dsimp only
        by_cases h2 : rg a2 2
        · have t2 : rg a2 2 ∧ (1 : Int32) ≠ 0 := ⟨h2, by decide⟩
          rw [if_pos t2, if_pos (c := (rg a2 2 ∧ rgp a3 n) ∧ rg a4 1) ⟨⟨h2, h3⟩, h4⟩]
        · rw [no 1 (fun q => h2 q.1), if_neg (c := (rg a2 2 ∧ rgp a3 n) ∧ rg a4 1) (fun q => h2 q.1.1)]
      · rw [zb_f h4, if_pos rfl, r1, Option.bind_some]
        dsimp only
        rw [no 0 (fun q => q.2 rfl), if_neg (c := (rg a2 2 ∧ rgp a3 n) ∧ rg a4 1) (fun q => h4 q.2)]
    · rw [zb_f h3, if_pos rfl, r1, Option.bind_some]
      dsimp only
      rw [no 0 (fun q => q.2 rfl), if_neg (c := (rg a2 2 ∧ rgp a3 n) ∧ rg a4 1) (fun q => h3 q.1.2)]
  have sne := shR_ne hc
  by_cases h23 : rg a2 2 ∧ rgp a3 n
  case neg =>
    refine ⟨-1, S, S, ?_, ?_, hC, zfr_refl _ _, zfr_refl _ _⟩
    · rw [cl, if_neg (fun q => h23 q.1)]
    · show zcI sc zm_X11_forWhom [.ref 51, .int (nI 2), .int a2, .int a3, .int a4] S = _
      rw [c_X11_forWhom, m_askedOf sc hM.1 (r2 S rfl) hc, Option.bind_some]
      dsimp only
      rw [if_neg h23]; exact if_pos rfl
  by_cases h4 : rg a4 1
  case neg =>
    refine ⟨-1, S, S, ?_, ?_, hC, zfr_refl _ _, zfr_refl _ _⟩
    · rw [cl, if_neg (fun q => h4 q.2)]
    · show zcI sc zm_X11_forWhom [.ref 51, .int (nI 2), .int a2, .int a3, .int a4] S = _
      rw [c_X11_forWhom, m_askedOf sc hM.1 (r2 S rfl) hc, Option.bind_some]
      dsimp only
      rw [if_pos h23, if_neg sne, m_w1, Option.bind_some]
      dsimp only
      rw [zb_f h4]; exact if_neg (fun q => q rfl)
  by_cases hc0 : c = 0
  · obtain ⟨w, rfl, hw⟩ := rg_n h23.1
    obtain ⟨p, rfl, hp⟩ := rgp_n h23.2
    obtain ⟨m, e, g1, g2⟩ := r3 hc0
    obtain ⟨S1, b1, b2, b3⟩ := c_load sc hC (show w < 3 by omega)
    obtain ⟨S2, d1, d2, d3⟩ := c_forWhom_2 sc (m := m) (e := e) hp a4 256 0 S1 P (by omega) b2 (fun _ _ => rfl) (fun _ => rfl) ⟨g1.1, (b3.1 43 2 rfl).trans g1.2.1, fun i hi => by rw [b3.2]; exact g1.2.2 i hi⟩
    have f2 : zfr zkC S S2 := zfr_tr b3 d3
    have hM2 := zME_C hM f2
    obtain ⟨S3, k1, k2⟩ := m_forWhom_go sc hr (show w < 3 by omega) (show 2 < 6 by omega) (m := m) (e := e) hp (nI p) a4 (S2.1 52 (32 + p)) hM2 rfl ⟨g2.1, (f2.1 71 2 rfl).trans g2.2.1, fun i hi => by rw [f2.2]; exact g2.2.2 i hi⟩ 256 0 S2 (by omega) (zfr_refl _ _)
    refine ⟨if a4 ≠ 0 then z2 (cnt (fun v => decide (rgF n P cs gap w m e p 4 v = 0)) 256) (fsF (fun v => decide (rgF n P cs gap w m e p 4 v = 0)) 256) else nI (cnt (fun v => decide (rgF n P cs gap w m e p 4 v = 0)) 256), S2, S3, ?_, ?_, d2, f2, k2⟩
    · have d1' : zcI sc zm_X5_setsOfFriends [.ref 23, .ref 43, .int (nI p), .int a4] S1 = some (if a4 ≠ 0 then z2 (cnt (fun v => decide (rgF n P cs gap w m e p 4 v = 0)) 256) (fsF (fun v => decide (rgF n P cs gap w m e p 4 v = 0)) 256) else nI (cnt (fun v => decide (rgF n P cs gap w m e p 4 v = 0)) 256), S2) := (c_X5_setsOfFriends_43 sc S1 (nI p) a4).trans d1
      rw [cl, if_pos (c := (_ ∧ _) ∧ _) ⟨h23, h4⟩, hc0, if_pos (show shR 0 = 0 from rfl), b1, Option.bind_some, d1', Option.bind_some]
    · show zcI sc zm_X11_forWhom [.ref 51, .int (nI 2), .int (nI w), .int (nI p), .int a4] S2 = _
      have e32 : (32 : Int32) + nI p = nI (32 + p) := zn_add 32 p
      rw [c_X11_forWhom, m_askedOf sc hM2.1 (r2 S2 (f2.1 70 2 rfl)) hc, Option.bind_some]
      dsimp only
      rw [if_pos h23, if_neg sne, m_w1, Option.bind_some]
      dsimp only
      rw [zb_t h4, if_pos (show (1 : Int32) ≠ 0 by decide), m_askedOf sc hM2.1 (r2 S2 (f2.1 70 2 rfl)) hc, Option.bind_some]
      dsimp only
      rw [if_pos h23, hc0, if_pos (show (0 : Int32) ≤ (if (0 : Nat) = 0 then 1 else shR 0) by decide), e32, if_neg (by first | (rw [n_ob (by omega)]; omega) | (rw [n_obb (by omega)]; omega)), n_cl (by omega)]
      exact k1
  · obtain ⟨s0, s1, _⟩ := shR_s hc hc0
    refine ⟨shR c, S, S, ?_, ?_, hC, zfr_refl _ _, zfr_refl _ _⟩
    · rw [cl, if_pos (c := (_ ∧ _) ∧ _) ⟨h23, h4⟩, if_neg s0]
    · show zcI sc zm_X11_forWhom [.ref 51, .int (nI 2), .int a2, .int a3, .int a4] S = _
      rw [c_X11_forWhom, m_askedOf sc hM.1 (r2 S rfl) hc, Option.bind_some]
      dsimp only
      rw [if_pos h23, if_neg sne, m_w1, Option.bind_some]
      dsimp only
      rw [zb_t h4, if_pos (show (1 : Int32) ≠ 0 by decide), m_askedOf sc hM.1 (r2 S rfl) hc, Option.bind_some]
      dsimp only
      rw [if_pos h23, if_neg s1, m_askedOf sc hM.1 (r2 S rfl) hc, Option.bind_some, if_pos h23, if_neg hc0]
theorem q_who_3 (sc : zSc) {n : Nat} {P : Nat → Nat → Nat} {cs : List Int32} {gap ver : Nat} {S : zS} (hC : zCE n P cs gap ver S) (hM : zME n P cs gap none S) {vs : Nat} (hS : zSh 45 46 3 vs S) (hv : vs ≤ 50) (a2 : Int32) :
    zQ n P cs gap ver (zcI sc zm_X10_who [.ref 0, .int (3 : Int32), .int a2] S) (fun S => zcI sc zm_X11_who [.ref 51, .int (nI 3), .int a2] S) S := by
  have hr := hC.2.1
  obtain ⟨c, hc, r1, r2, r3⟩ := sh_ref_3 sc hS hv
  have sne := shR_ne hc
  by_cases h2 : rg a2 2
  case neg =>
    refine ⟨-1, S, S, ?_, ?_, hC, zfr_refl _ _, zfr_refl _ _⟩
    · rw [c_X10_who_L3, r1, Option.bind_some]
      dsimp only
      rw [if_neg (c := rg a2 2 ∧ _) (fun q => h2 q.1), if_neg (by decide)]
    · show zcI sc zm_X11_who [.ref 51, .int (nI 3), .int a2] S = _
      rw [c_X11_who, r2 S rfl, Option.bind_some]
      dsimp only
      rw [if_neg sne, m_isWay', Option.bind_some]
      dsimp only
      rw [zb_f h2]; exact if_neg (fun q => q rfl)
  have t2 : rg a2 2 ∧ (1 : Int32) ≠ 0 := ⟨h2, by decide⟩
  by_cases hc0 : c = 0
  · obtain ⟨w, rfl, hw⟩ := rg_n h2
    obtain ⟨m, e, g1, g2⟩ := r3 hc0
    obtain ⟨S1, b1, b2, b3⟩ := c_load sc hC (show w < 3 by omega)
    obtain ⟨S2, d1, d2, d3⟩ := c_who_3 sc (m := m) (e := e) n 0 S1 none (by omega) b2 ⟨g1.1, (b3.1 45 2 rfl).trans g1.2.1, fun i hi => by rw [b3.2]; exact g1.2.2 i hi⟩
    have f2 : zfr zkC S S2 := zfr_tr b3 d3
    obtain ⟨S3, k1, k2⟩ := m_who_go sc hr (show w < 3 by omega) (show 3 < 6 by omega) (m := m) (e := e) n 0 S2 none none (by omega) (zME_C hM f2) ⟨g2.1, (f2.1 71 3 rfl).trans g2.2.1, fun i hi => by rw [f2.2]; exact g2.2.2 i hi⟩
    refine ⟨nI (hmk (fun p => decide (rgF n P cs gap w m e p 3 0 = 0)) n), S2, S3, ?_, ?_, d2, f2, k2⟩
    · have d1' : zcI sc zm_X5_ifNotBold [.ref 23, .ref 45, .int (nI n)] S1 = some (nI (hmk (fun p => decide (rgF n P cs gap w m e p 3 0 = 0)) n), S2) := (c_X5_ifNotBold_45 sc S1 (nI n)).trans d1
      rw [c_X10_who_L3, r1, Option.bind_some]
      dsimp only
      rw [if_pos t2, hc0, if_pos (show shR 0 = 0 from rfl), b1, Option.bind_some, b2.1.1.1, d1', Option.bind_some]
    · show zcI sc zm_X11_who [.ref 51, .int (nI 3), .int (nI w)] S2 = _
      rw [c_X11_who, r2 S2 (f2.1 70 3 rfl), Option.bind_some]
      dsimp only
      rw [if_neg sne, m_isWay', Option.bind_some]
      dsimp only
      rw [zb_t h2, if_pos (show (1 : Int32) ≠ 0 by decide), r2 S2 (f2.1 70 3 rfl), Option.bind_some]
      dsimp only
      rw [hc0, if_pos (show (0 : Int32) ≤ (if (0 : Nat) = 0 then 1 else shR 0) by decide)]
      exact k1
  · obtain ⟨s0, s1, _⟩ := shR_s hc hc0
    refine ⟨shR c, S, S, ?_, ?_, hC, zfr_refl _ _, zfr_refl _ _⟩
    · rw [c_X10_who_L3, r1, Option.bind_some]
      dsimp only
      rw [if_pos t2, if_neg s0]
    · show zcI sc zm_X11_who [.ref 51, .int (nI 3), .int a2] S = _
      rw [c_X11_who, r2 S rfl, Option.bind_some]
      dsimp only
      rw [if_neg sne, m_isWay', Option.bind_some]
      dsimp only
      rw [zb_t h2, if_pos (show (1 : Int32) ≠ 0 by decide), r2 S rfl, Option.bind_some]
      dsimp only
      rw [if_neg s1, r2 S rfl, Option.bind_some, if_neg hc0]
theorem q_howBold_3 (sc : zSc) {n : Nat} {P : Nat → Nat → Nat} {cs : List Int32} {gap ver : Nat} {S : zS} (hC : zCE n P cs gap ver S) (hM : zME n P cs gap none S) {vs : Nat} (hS : zSh 45 46 3 vs S) (hv : vs ≤ 50) (a2 a3 : Int32) :
    zQ n P cs gap ver (zcI sc zm_X10_howBold [.ref 0, .int (3 : Int32), .int a2, .int a3] S) (fun S => zcI sc zm_X11_howBold [.ref 51, .int (nI 3), .int a2, .int a3] S) S := by
  have hr := hC.2.1
  have hn := hC.1.2.1
  obtain ⟨c, hc, r1, r2, r3⟩ := sh_ref_3 sc hS hv
  by_cases h23 : rg a2 2 ∧ rgp a3 n
  case neg =>
    refine ⟨-1, S, S, ?_, ?_, hC, zfr_refl _ _, zfr_refl _ _⟩
    · rw [c_X10_howBold_L3, c_isOne sc hC.1, Option.bind_some]
      dsimp only
      rw [r1, Option.bind_some]
      dsimp only
      rw [if_neg (c := rg a2 2 ∧ _) (fun q => h23 ⟨q.1, zb_n.mp q.2⟩), if_neg (by decide)]
    · show zcI sc zm_X11_howBold [.ref 51, .int (nI 3), .int a2, .int a3] S = _
      rw [c_X11_howBold, m_askedOf sc hM.1 (r2 S rfl) hc, Option.bind_some]
      dsimp only
      rw [if_neg h23, if_neg (show ¬ ((0 : Int32) ≤ -1) by decide), m_askedOf sc hM.1 (r2 S rfl) hc, Option.bind_some, if_neg h23]
  have t2 : rg a2 2 ∧ zb (rgp a3 n) ≠ 0 := ⟨h23.1, zb_n.mpr h23.2⟩
  by_cases hc0 : c = 0
  · obtain ⟨w, rfl, hw⟩ := rg_n h23.1
    obtain ⟨p, rfl, hp⟩ := rgp_n h23.2
    obtain ⟨m, e, g1, g2⟩ := r3 hc0
    obtain ⟨S1, b1, b2, b3⟩ := c_load sc hC (show w < 3 by omega)
    obtain ⟨S2, d1, d2, d3⟩ := c_howBold_3 sc (m := m) (e := e) hp 8 0 S1 P (by omega) b2 (fun _ _ => rfl) (fun _ => rfl) ⟨g1.1, (b3.1 45 2 rfl).trans g1.2.1, fun i hi => by rw [b3.2]; exact g1.2.2 i hi⟩
    have f2 : zfr zkC S S2 := zfr_tr b3 d3
    have hM2 := zME_C hM f2
    obtain ⟨S3, k1, k2⟩ := m_howBold_go sc hr (show w < 3 by omega) (show 3 < 6 by omega) (m := m) (e := e) hp (nI p) (S2.1 52 (24 + p)) hM2 rfl ⟨g2.1, (f2.1 71 3 rfl).trans g2.2.1, fun i hi => by rw [f2.2]; exact g2.2.2 i hi⟩ 8 0 S2 (by omega) (zfr_refl _ _)
    refine ⟨z2 (fsV (rgF n P cs gap w m e p 3) 8 0) (fsV (rgF n P cs gap w m e p 3) 8 0 - 1), S2, S3, ?_, ?_, d2, f2, k2⟩
    · have d1' : zcI sc zm_X5_leastBold [.ref 23, .ref 45, .int (nI p)] S1 = some (z2 (fsV (rgF n P cs gap w m e p 3) 8 0) (fsV (rgF n P cs gap w m e p 3) 8 0 - 1), S2) := (c_X5_leastBold_45 sc S1 (nI p)).trans d1
      rw [c_X10_howBold_L3, c_isOne sc hC.1, Option.bind_some]
      dsimp only
      rw [r1, Option.bind_some]
      dsimp only
      rw [if_pos t2, hc0, if_pos (show shR 0 = 0 from rfl), b1, Option.bind_some, d1', Option.bind_some]
    · show zcI sc zm_X11_howBold [.ref 51, .int (nI 3), .int (nI w), .int (nI p)] S2 = _
      have e24 : (24 : Int32) + nI p = nI (24 + p) := zn_add 24 p
      rw [c_X11_howBold, m_askedOf sc hM2.1 (r2 S2 (f2.1 70 3 rfl)) hc, Option.bind_some]
      dsimp only
      rw [if_pos h23, hc0, if_pos (show (0 : Int32) ≤ (if (0 : Nat) = 0 then 1 else shR 0) by decide), e24, if_neg (by first | (rw [n_ob (by omega)]; omega) | (rw [n_obb (by omega)]; omega)), n_cl (by omega)]
      exact k1
  · obtain ⟨s0, s1, _⟩ := shR_s hc hc0
    refine ⟨shR c, S, S, ?_, ?_, hC, zfr_refl _ _, zfr_refl _ _⟩
    · rw [c_X10_howBold_L3, c_isOne sc hC.1, Option.bind_some]
      dsimp only
      rw [r1, Option.bind_some]
      dsimp only
      rw [if_pos t2, if_neg s0]
    · show zcI sc zm_X11_howBold [.ref 51, .int (nI 3), .int a2, .int a3] S = _
      rw [c_X11_howBold, m_askedOf sc hM.1 (r2 S rfl) hc, Option.bind_some]
      dsimp only
      rw [if_pos h23, if_neg s1, m_askedOf sc hM.1 (r2 S rfl) hc, Option.bind_some, if_pos h23, if_neg hc0]
theorem q_forWhom_3 (sc : zSc) {n : Nat} {P : Nat → Nat → Nat} {cs : List Int32} {gap ver : Nat} {S : zS} (hC : zCE n P cs gap ver S) (hM : zME n P cs gap none S) {vs : Nat} (hS : zSh 45 46 3 vs S) (hv : vs ≤ 50) (a2 a3 a4 : Int32) :
    zQ n P cs gap ver (zcI sc zm_X10_forWhom [.ref 0, .int (3 : Int32), .int a2, .int a3, .int a4] S) (fun S => zcI sc zm_X11_forWhom [.ref 51, .int (nI 3), .int a2, .int a3, .int a4] S) S := by
  have hr := hC.2.1
  have hn := hC.1.2.1
  obtain ⟨c, hc, r1, r2, r3⟩ := sh_ref_3 sc hS hv
  -- what the class begins with
  have cl : zcI sc zm_X10_forWhom [.ref 0, .int (3 : Int32), .int a2, .int a3, .int a4] S = if (rg a2 2 ∧ rgp a3 n) ∧ rg a4 1 then (if shR c = 0 then ((zcV sc zm_X0_load [.ref 12, .int a2] S).bind (fun q3 => ((zcI sc zm_X5_setsOfFriends [.ref 23, .ref 45, .int a3, .int a4] q3).bind (fun q4 => some (q4.1, q4.2))))) else some (shR c, S)) else some (-1, S) := by
    have no : ∀ x : Int32, ¬ (rg a2 2 ∧ x ≠ 0) → (if (if rg a2 2 ∧ x ≠ 0 then shR c else -1) = 0 then ((zcV sc zm_X0_load [.ref 12, .int a2] S).bind (fun q3 => ((zcI sc zm_X5_setsOfFriends [.ref 23, .ref 45, .int a3, .int a4] q3).bind (fun q4 => some (q4.1, q4.2))))) else some ((if rg a2 2 ∧ x ≠ 0 then shR c else -1), S)) = some (-1, S) := by
      intro x hx
      rw [if_neg hx, if_neg (by decide)]
    rw [c_X10_forWhom_L3, c_isOne sc hC.1, Option.bind_some]
    dsimp only
    by_cases h3 : rgp a3 n
    · rw [zb_t h3, if_neg (show ¬ ((1 : Int32) = 0) by decide), s_w1, Option.bind_some]
      dsimp only
      by_cases h4 : rg a4 1
      · rw [zb_t h4, if_neg (show ¬ ((1 : Int32) = 0) by decide), r1, Option.bind_some]
        dsimp only
        by_cases h2 : rg a2 2
        · have t2 : rg a2 2 ∧ (1 : Int32) ≠ 0 := ⟨h2, by decide⟩
          rw [if_pos t2, if_pos (c := (rg a2 2 ∧ rgp a3 n) ∧ rg a4 1) ⟨⟨h2, h3⟩, h4⟩]
        · rw [no 1 (fun q => h2 q.1), if_neg (c := (rg a2 2 ∧ rgp a3 n) ∧ rg a4 1) (fun q => h2 q.1.1)]
      · rw [zb_f h4, if_pos rfl, r1, Option.bind_some]
        dsimp only
        rw [no 0 (fun q => q.2 rfl), if_neg (c := (rg a2 2 ∧ rgp a3 n) ∧ rg a4 1) (fun q => h4 q.2)]
    · rw [zb_f h3, if_pos rfl, r1, Option.bind_some]
      dsimp only
      rw [no 0 (fun q => q.2 rfl), if_neg (c := (rg a2 2 ∧ rgp a3 n) ∧ rg a4 1) (fun q => h3 q.1.2)]
  have sne := shR_ne hc
  by_cases h23 : rg a2 2 ∧ rgp a3 n
  case neg =>
    refine ⟨-1, S, S, ?_, ?_, hC, zfr_refl _ _, zfr_refl _ _⟩
    · rw [cl, if_neg (fun q => h23 q.1)]
    · show zcI sc zm_X11_forWhom [.ref 51, .int (nI 3), .int a2, .int a3, .int a4] S = _
      rw [c_X11_forWhom, m_askedOf sc hM.1 (r2 S rfl) hc, Option.bind_some]
      dsimp only
      rw [if_neg h23]; exact if_pos rfl
  by_cases h4 : rg a4 1
  case neg =>
    refine ⟨-1, S, S, ?_, ?_, hC, zfr_refl _ _, zfr_refl _ _⟩
    · rw [cl, if_neg (fun q => h4 q.2)]
    · show zcI sc zm_X11_forWhom [.ref 51, .int (nI 3), .int a2, .int a3, .int a4] S = _
      rw [c_X11_forWhom, m_askedOf sc hM.1 (r2 S rfl) hc, Option.bind_some]
      dsimp only
      rw [if_pos h23, if_neg sne, m_w1, Option.bind_some]
      dsimp only
      rw [zb_f h4]; exact if_neg (fun q => q rfl)
  by_cases hc0 : c = 0
  · obtain ⟨w, rfl, hw⟩ := rg_n h23.1
    obtain ⟨p, rfl, hp⟩ := rgp_n h23.2
    obtain ⟨m, e, g1, g2⟩ := r3 hc0
    obtain ⟨S1, b1, b2, b3⟩ := c_load sc hC (show w < 3 by omega)
    obtain ⟨S2, d1, d2, d3⟩ := c_forWhom_3 sc (m := m) (e := e) hp a4 256 0 S1 P (by omega) b2 (fun _ _ => rfl) (fun _ => rfl) ⟨g1.1, (b3.1 45 2 rfl).trans g1.2.1, fun i hi => by rw [b3.2]; exact g1.2.2 i hi⟩
    have f2 : zfr zkC S S2 := zfr_tr b3 d3
    have hM2 := zME_C hM f2
    obtain ⟨S3, k1, k2⟩ := m_forWhom_go sc hr (show w < 3 by omega) (show 3 < 6 by omega) (m := m) (e := e) hp (nI p) a4 (S2.1 52 (32 + p)) hM2 rfl ⟨g2.1, (f2.1 71 3 rfl).trans g2.2.1, fun i hi => by rw [f2.2]; exact g2.2.2 i hi⟩ 256 0 S2 (by omega) (zfr_refl _ _)
    refine ⟨if a4 ≠ 0 then z2 (cnt (fun v => decide (rgF n P cs gap w m e p 4 v = 0)) 256) (fsF (fun v => decide (rgF n P cs gap w m e p 4 v = 0)) 256) else nI (cnt (fun v => decide (rgF n P cs gap w m e p 4 v = 0)) 256), S2, S3, ?_, ?_, d2, f2, k2⟩
    · have d1' : zcI sc zm_X5_setsOfFriends [.ref 23, .ref 45, .int (nI p), .int a4] S1 = some (if a4 ≠ 0 then z2 (cnt (fun v => decide (rgF n P cs gap w m e p 4 v = 0)) 256) (fsF (fun v => decide (rgF n P cs gap w m e p 4 v = 0)) 256) else nI (cnt (fun v => decide (rgF n P cs gap w m e p 4 v = 0)) 256), S2) := (c_X5_setsOfFriends_45 sc S1 (nI p) a4).trans d1
      rw [cl, if_pos (c := (_ ∧ _) ∧ _) ⟨h23, h4⟩, hc0, if_pos (show shR 0 = 0 from rfl), b1, Option.bind_some, d1', Option.bind_some]
    · show zcI sc zm_X11_forWhom [.ref 51, .int (nI 3), .int (nI w), .int (nI p), .int a4] S2 = _
      have e32 : (32 : Int32) + nI p = nI (32 + p) := zn_add 32 p
      rw [c_X11_forWhom, m_askedOf sc hM2.1 (r2 S2 (f2.1 70 3 rfl)) hc, Option.bind_some]
      dsimp only
      rw [if_pos h23, if_neg sne, m_w1, Option.bind_some]
      dsimp only
      rw [zb_t h4, if_pos (show (1 : Int32) ≠ 0 by decide), m_askedOf sc hM2.1 (r2 S2 (f2.1 70 3 rfl)) hc, Option.bind_some]
      dsimp only
      rw [if_pos h23, hc0, if_pos (show (0 : Int32) ≤ (if (0 : Nat) = 0 then 1 else shR 0) by decide), e32, if_neg (by first | (rw [n_ob (by omega)]; omega) | (rw [n_obb (by omega)]; omega)), n_cl (by omega)]
      exact k1
  · obtain ⟨s0, s1, _⟩ := shR_s hc hc0
    refine ⟨shR c, S, S, ?_, ?_, hC, zfr_refl _ _, zfr_refl _ _⟩
    · rw [cl, if_pos (c := (_ ∧ _) ∧ _) ⟨h23, h4⟩, if_neg s0]
    · show zcI sc zm_X11_forWhom [.ref 51, .int (nI 3), .int a2, .int a3, .int a4] S = _
      rw [c_X11_forWhom, m_askedOf sc hM.1 (r2 S rfl) hc, Option.bind_some]
      dsimp only
      rw [if_pos h23, if_neg sne, m_w1, Option.bind_some]
      dsimp only
      rw [zb_t h4, if_pos (show (1 : Int32) ≠ 0 by decide), m_askedOf sc hM.1 (r2 S rfl) hc, Option.bind_some]
      dsimp only
      rw [if_pos h23, if_neg s1, m_askedOf sc hM.1 (r2 S rfl) hc, Option.bind_some, if_pos h23, if_neg hc0]
theorem q_who_4 (sc : zSc) {n : Nat} {P : Nat → Nat → Nat} {cs : List Int32} {gap ver : Nat} {S : zS} (hC : zCE n P cs gap ver S) (hM : zME n P cs gap none S) {vs : Nat} (hS : zSh 47 48 4 vs S) (hv : vs ≤ 50) (a2 : Int32) :
    zQ n P cs gap ver (zcI sc zm_X10_who [.ref 0, .int (4 : Int32), .int a2] S) (fun S => zcI sc zm_X11_who [.ref 51, .int (nI 4), .int a2] S) S := by
  have hr := hC.2.1
  obtain ⟨c, hc, r1, r2, r3⟩ := sh_ref_4 sc hS hv
  have sne := shR_ne hc
  by_cases h2 : rg a2 2
  case neg =>
    refine ⟨-1, S, S, ?_, ?_, hC, zfr_refl _ _, zfr_refl _ _⟩
    · rw [c_X10_who_L4, r1, Option.bind_some]
      dsimp only
      rw [if_neg (c := rg a2 2 ∧ _) (fun q => h2 q.1), if_neg (by decide)]
    · show zcI sc zm_X11_who [.ref 51, .int (nI 4), .int a2] S = _
      rw [c_X11_who, r2 S rfl, Option.bind_some]
      dsimp only
      rw [if_neg sne, m_isWay', Option.bind_some]
      dsimp only
      rw [zb_f h2]; exact if_neg (fun q => q rfl)
  have t2 : rg a2 2 ∧ (1 : Int32) ≠ 0 := ⟨h2, by decide⟩
  by_cases hc0 : c = 0
  · obtain ⟨w, rfl, hw⟩ := rg_n h2
    obtain ⟨m, e, g1, g2⟩ := r3 hc0
    obtain ⟨S1, b1, b2, b3⟩ := c_load sc hC (show w < 3 by omega)
    obtain ⟨S2, d1, d2, d3⟩ := c_who_4 sc (m := m) (e := e) n 0 S1 none (by omega) b2 ⟨g1.1, (b3.1 47 2 rfl).trans g1.2.1, fun i hi => by rw [b3.2]; exact g1.2.2 i hi⟩
    have f2 : zfr zkC S S2 := zfr_tr b3 d3
    obtain ⟨S3, k1, k2⟩ := m_who_go sc hr (show w < 3 by omega) (show 4 < 6 by omega) (m := m) (e := e) n 0 S2 none none (by omega) (zME_C hM f2) ⟨g2.1, (f2.1 71 4 rfl).trans g2.2.1, fun i hi => by rw [f2.2]; exact g2.2.2 i hi⟩
    refine ⟨nI (hmk (fun p => decide (rgF n P cs gap w m e p 3 0 = 0)) n), S2, S3, ?_, ?_, d2, f2, k2⟩
    · have d1' : zcI sc zm_X5_ifNotBold [.ref 23, .ref 47, .int (nI n)] S1 = some (nI (hmk (fun p => decide (rgF n P cs gap w m e p 3 0 = 0)) n), S2) := (c_X5_ifNotBold_47 sc S1 (nI n)).trans d1
      rw [c_X10_who_L4, r1, Option.bind_some]
      dsimp only
      rw [if_pos t2, hc0, if_pos (show shR 0 = 0 from rfl), b1, Option.bind_some, b2.1.1.1, d1', Option.bind_some]
    · show zcI sc zm_X11_who [.ref 51, .int (nI 4), .int (nI w)] S2 = _
      rw [c_X11_who, r2 S2 (f2.1 70 4 rfl), Option.bind_some]
      dsimp only
      rw [if_neg sne, m_isWay', Option.bind_some]
      dsimp only
      rw [zb_t h2, if_pos (show (1 : Int32) ≠ 0 by decide), r2 S2 (f2.1 70 4 rfl), Option.bind_some]
      dsimp only
      rw [hc0, if_pos (show (0 : Int32) ≤ (if (0 : Nat) = 0 then 1 else shR 0) by decide)]
      exact k1
  · obtain ⟨s0, s1, _⟩ := shR_s hc hc0
    refine ⟨shR c, S, S, ?_, ?_, hC, zfr_refl _ _, zfr_refl _ _⟩
    · rw [c_X10_who_L4, r1, Option.bind_some]
      dsimp only
      rw [if_pos t2, if_neg s0]
    · show zcI sc zm_X11_who [.ref 51, .int (nI 4), .int a2] S = _
      rw [c_X11_who, r2 S rfl, Option.bind_some]
      dsimp only
      rw [if_neg sne, m_isWay', Option.bind_some]
      dsimp only
      rw [zb_t h2, if_pos (show (1 : Int32) ≠ 0 by decide), r2 S rfl, Option.bind_some]
      dsimp only
      rw [if_neg s1, r2 S rfl, Option.bind_some, if_neg hc0]
theorem q_howBold_4 (sc : zSc) {n : Nat} {P : Nat → Nat → Nat} {cs : List Int32} {gap ver : Nat} {S : zS} (hC : zCE n P cs gap ver S) (hM : zME n P cs gap none S) {vs : Nat} (hS : zSh 47 48 4 vs S) (hv : vs ≤ 50) (a2 a3 : Int32) :
    zQ n P cs gap ver (zcI sc zm_X10_howBold [.ref 0, .int (4 : Int32), .int a2, .int a3] S) (fun S => zcI sc zm_X11_howBold [.ref 51, .int (nI 4), .int a2, .int a3] S) S := by
  have hr := hC.2.1
  have hn := hC.1.2.1
  obtain ⟨c, hc, r1, r2, r3⟩ := sh_ref_4 sc hS hv
  by_cases h23 : rg a2 2 ∧ rgp a3 n
  case neg =>
    refine ⟨-1, S, S, ?_, ?_, hC, zfr_refl _ _, zfr_refl _ _⟩
    · rw [c_X10_howBold_L4, c_isOne sc hC.1, Option.bind_some]
      dsimp only
      rw [r1, Option.bind_some]
      dsimp only
      rw [if_neg (c := rg a2 2 ∧ _) (fun q => h23 ⟨q.1, zb_n.mp q.2⟩), if_neg (by decide)]
    · show zcI sc zm_X11_howBold [.ref 51, .int (nI 4), .int a2, .int a3] S = _
      rw [c_X11_howBold, m_askedOf sc hM.1 (r2 S rfl) hc, Option.bind_some]
      dsimp only
      rw [if_neg h23, if_neg (show ¬ ((0 : Int32) ≤ -1) by decide), m_askedOf sc hM.1 (r2 S rfl) hc, Option.bind_some, if_neg h23]
  have t2 : rg a2 2 ∧ zb (rgp a3 n) ≠ 0 := ⟨h23.1, zb_n.mpr h23.2⟩
  by_cases hc0 : c = 0
  · obtain ⟨w, rfl, hw⟩ := rg_n h23.1
    obtain ⟨p, rfl, hp⟩ := rgp_n h23.2
    obtain ⟨m, e, g1, g2⟩ := r3 hc0
    obtain ⟨S1, b1, b2, b3⟩ := c_load sc hC (show w < 3 by omega)
    obtain ⟨S2, d1, d2, d3⟩ := c_howBold_4 sc (m := m) (e := e) hp 8 0 S1 P (by omega) b2 (fun _ _ => rfl) (fun _ => rfl) ⟨g1.1, (b3.1 47 2 rfl).trans g1.2.1, fun i hi => by rw [b3.2]; exact g1.2.2 i hi⟩
    have f2 : zfr zkC S S2 := zfr_tr b3 d3
    have hM2 := zME_C hM f2
    obtain ⟨S3, k1, k2⟩ := m_howBold_go sc hr (show w < 3 by omega) (show 4 < 6 by omega) (m := m) (e := e) hp (nI p) (S2.1 52 (24 + p)) hM2 rfl ⟨g2.1, (f2.1 71 4 rfl).trans g2.2.1, fun i hi => by rw [f2.2]; exact g2.2.2 i hi⟩ 8 0 S2 (by omega) (zfr_refl _ _)
    refine ⟨z2 (fsV (rgF n P cs gap w m e p 3) 8 0) (fsV (rgF n P cs gap w m e p 3) 8 0 - 1), S2, S3, ?_, ?_, d2, f2, k2⟩
    · have d1' : zcI sc zm_X5_leastBold [.ref 23, .ref 47, .int (nI p)] S1 = some (z2 (fsV (rgF n P cs gap w m e p 3) 8 0) (fsV (rgF n P cs gap w m e p 3) 8 0 - 1), S2) := (c_X5_leastBold_47 sc S1 (nI p)).trans d1
      rw [c_X10_howBold_L4, c_isOne sc hC.1, Option.bind_some]
      dsimp only
      rw [r1, Option.bind_some]
      dsimp only
      rw [if_pos t2, hc0, if_pos (show shR 0 = 0 from rfl), b1, Option.bind_some, d1', Option.bind_some]
    · show zcI sc zm_X11_howBold [.ref 51, .int (nI 4), .int (nI w), .int (nI p)] S2 = _
      have e24 : (24 : Int32) + nI p = nI (24 + p) := zn_add 24 p
      rw [c_X11_howBold, m_askedOf sc hM2.1 (r2 S2 (f2.1 70 4 rfl)) hc, Option.bind_some]
      dsimp only
      rw [if_pos h23, hc0, if_pos (show (0 : Int32) ≤ (if (0 : Nat) = 0 then 1 else shR 0) by decide), e24, if_neg (by first | (rw [n_ob (by omega)]; omega) | (rw [n_obb (by omega)]; omega)), n_cl (by omega)]
      exact k1
  · obtain ⟨s0, s1, _⟩ := shR_s hc hc0
    refine ⟨shR c, S, S, ?_, ?_, hC, zfr_refl _ _, zfr_refl _ _⟩
    · rw [c_X10_howBold_L4, c_isOne sc hC.1, Option.bind_some]
      dsimp only
      rw [r1, Option.bind_some]
      dsimp only
      rw [if_pos t2, if_neg s0]
    · show zcI sc zm_X11_howBold [.ref 51, .int (nI 4), .int a2, .int a3] S = _
      rw [c_X11_howBold, m_askedOf sc hM.1 (r2 S rfl) hc, Option.bind_some]
      dsimp only
      rw [if_pos h23, if_neg s1, m_askedOf sc hM.1 (r2 S rfl) hc, Option.bind_some, if_pos h23, if_neg hc0]
theorem q_forWhom_4 (sc : zSc) {n : Nat} {P : Nat → Nat → Nat} {cs : List Int32} {gap ver : Nat} {S : zS} (hC : zCE n P cs gap ver S) (hM : zME n P cs gap none S) {vs : Nat} (hS : zSh 47 48 4 vs S) (hv : vs ≤ 50) (a2 a3 a4 : Int32) :
    zQ n P cs gap ver (zcI sc zm_X10_forWhom [.ref 0, .int (4 : Int32), .int a2, .int a3, .int a4] S) (fun S => zcI sc zm_X11_forWhom [.ref 51, .int (nI 4), .int a2, .int a3, .int a4] S) S := by
  have hr := hC.2.1
  have hn := hC.1.2.1
  obtain ⟨c, hc, r1, r2, r3⟩ := sh_ref_4 sc hS hv
  -- what the class begins with
  have cl : zcI sc zm_X10_forWhom [.ref 0, .int (4 : Int32), .int a2, .int a3, .int a4] S = if (rg a2 2 ∧ rgp a3 n) ∧ rg a4 1 then (if shR c = 0 then ((zcV sc zm_X0_load [.ref 12, .int a2] S).bind (fun q3 => ((zcI sc zm_X5_setsOfFriends [.ref 23, .ref 47, .int a3, .int a4] q3).bind (fun q4 => some (q4.1, q4.2))))) else some (shR c, S)) else some (-1, S) := by
    have no : ∀ x : Int32, ¬ (rg a2 2 ∧ x ≠ 0) → (if (if rg a2 2 ∧ x ≠ 0 then shR c else -1) = 0 then ((zcV sc zm_X0_load [.ref 12, .int a2] S).bind (fun q3 => ((zcI sc zm_X5_setsOfFriends [.ref 23, .ref 47, .int a3, .int a4] q3).bind (fun q4 => some (q4.1, q4.2))))) else some ((if rg a2 2 ∧ x ≠ 0 then shR c else -1), S)) = some (-1, S) := by
      intro x hx
      rw [if_neg hx, if_neg (by decide)]
    rw [c_X10_forWhom_L4, c_isOne sc hC.1, Option.bind_some]
    dsimp only
    by_cases h3 : rgp a3 n
    · rw [zb_t h3, if_neg (show ¬ ((1 : Int32) = 0) by decide), s_w1, Option.bind_some]
      dsimp only
      by_cases h4 : rg a4 1
      · rw [zb_t h4, if_neg (show ¬ ((1 : Int32) = 0) by decide), r1, Option.bind_some]
        dsimp only
        by_cases h2 : rg a2 2
        · have t2 : rg a2 2 ∧ (1 : Int32) ≠ 0 := ⟨h2, by decide⟩
          rw [if_pos t2, if_pos (c := (rg a2 2 ∧ rgp a3 n) ∧ rg a4 1) ⟨⟨h2, h3⟩, h4⟩]
        · rw [no 1 (fun q => h2 q.1), if_neg (c := (rg a2 2 ∧ rgp a3 n) ∧ rg a4 1) (fun q => h2 q.1.1)]
      · rw [zb_f h4, if_pos rfl, r1, Option.bind_some]
        dsimp only
        rw [no 0 (fun q => q.2 rfl), if_neg (c := (rg a2 2 ∧ rgp a3 n) ∧ rg a4 1) (fun q => h4 q.2)]
    · rw [zb_f h3, if_pos rfl, r1, Option.bind_some]
      dsimp only
      rw [no 0 (fun q => q.2 rfl), if_neg (c := (rg a2 2 ∧ rgp a3 n) ∧ rg a4 1) (fun q => h3 q.1.2)]
  have sne := shR_ne hc
  by_cases h23 : rg a2 2 ∧ rgp a3 n
  case neg =>
    refine ⟨-1, S, S, ?_, ?_, hC, zfr_refl _ _, zfr_refl _ _⟩
    · rw [cl, if_neg (fun q => h23 q.1)]
    · show zcI sc zm_X11_forWhom [.ref 51, .int (nI 4), .int a2, .int a3, .int a4] S = _
      rw [c_X11_forWhom, m_askedOf sc hM.1 (r2 S rfl) hc, Option.bind_some]
      dsimp only
      rw [if_neg h23]; exact if_pos rfl
  by_cases h4 : rg a4 1
  case neg =>
    refine ⟨-1, S, S, ?_, ?_, hC, zfr_refl _ _, zfr_refl _ _⟩
    · rw [cl, if_neg (fun q => h4 q.2)]
    · show zcI sc zm_X11_forWhom [.ref 51, .int (nI 4), .int a2, .int a3, .int a4] S = _
      rw [c_X11_forWhom, m_askedOf sc hM.1 (r2 S rfl) hc, Option.bind_some]
      dsimp only
      rw [if_pos h23, if_neg sne, m_w1, Option.bind_some]
      dsimp only
      rw [zb_f h4]; exact if_neg (fun q => q rfl)
  by_cases hc0 : c = 0
  · obtain ⟨w, rfl, hw⟩ := rg_n h23.1
    obtain ⟨p, rfl, hp⟩ := rgp_n h23.2
    obtain ⟨m, e, g1, g2⟩ := r3 hc0
    obtain ⟨S1, b1, b2, b3⟩ := c_load sc hC (show w < 3 by omega)
    obtain ⟨S2, d1, d2, d3⟩ := c_forWhom_4 sc (m := m) (e := e) hp a4 256 0 S1 P (by omega) b2 (fun _ _ => rfl) (fun _ => rfl) ⟨g1.1, (b3.1 47 2 rfl).trans g1.2.1, fun i hi => by rw [b3.2]; exact g1.2.2 i hi⟩
    have f2 : zfr zkC S S2 := zfr_tr b3 d3
    have hM2 := zME_C hM f2
    obtain ⟨S3, k1, k2⟩ := m_forWhom_go sc hr (show w < 3 by omega) (show 4 < 6 by omega) (m := m) (e := e) hp (nI p) a4 (S2.1 52 (32 + p)) hM2 rfl ⟨g2.1, (f2.1 71 4 rfl).trans g2.2.1, fun i hi => by rw [f2.2]; exact g2.2.2 i hi⟩ 256 0 S2 (by omega) (zfr_refl _ _)
    refine ⟨if a4 ≠ 0 then z2 (cnt (fun v => decide (rgF n P cs gap w m e p 4 v = 0)) 256) (fsF (fun v => decide (rgF n P cs gap w m e p 4 v = 0)) 256) else nI (cnt (fun v => decide (rgF n P cs gap w m e p 4 v = 0)) 256), S2, S3, ?_, ?_, d2, f2, k2⟩
    · have d1' : zcI sc zm_X5_setsOfFriends [.ref 23, .ref 47, .int (nI p), .int a4] S1 = some (if a4 ≠ 0 then z2 (cnt (fun v => decide (rgF n P cs gap w m e p 4 v = 0)) 256) (fsF (fun v => decide (rgF n P cs gap w m e p 4 v = 0)) 256) else nI (cnt (fun v => decide (rgF n P cs gap w m e p 4 v = 0)) 256), S2) := (c_X5_setsOfFriends_47 sc S1 (nI p) a4).trans d1
      rw [cl, if_pos (c := (_ ∧ _) ∧ _) ⟨h23, h4⟩, hc0, if_pos (show shR 0 = 0 from rfl), b1, Option.bind_some, d1', Option.bind_some]
    · show zcI sc zm_X11_forWhom [.ref 51, .int (nI 4), .int (nI w), .int (nI p), .int a4] S2 = _
      have e32 : (32 : Int32) + nI p = nI (32 + p) := zn_add 32 p
      rw [c_X11_forWhom, m_askedOf sc hM2.1 (r2 S2 (f2.1 70 4 rfl)) hc, Option.bind_some]
      dsimp only
      rw [if_pos h23, if_neg sne, m_w1, Option.bind_some]
      dsimp only
      rw [zb_t h4, if_pos (show (1 : Int32) ≠ 0 by decide), m_askedOf sc hM2.1 (r2 S2 (f2.1 70 4 rfl)) hc, Option.bind_some]
      dsimp only
      rw [if_pos h23, hc0, if_pos (show (0 : Int32) ≤ (if (0 : Nat) = 0 then 1 else shR 0) by decide), e32, if_neg (by first | (rw [n_ob (by omega)]; omega) | (rw [n_obb (by omega)]; omega)), n_cl (by omega)]
      exact k1
  · obtain ⟨s0, s1, _⟩ := shR_s hc hc0
    refine ⟨shR c, S, S, ?_, ?_, hC, zfr_refl _ _, zfr_refl _ _⟩
    · rw [cl, if_pos (c := (_ ∧ _) ∧ _) ⟨h23, h4⟩, if_neg s0]
    · show zcI sc zm_X11_forWhom [.ref 51, .int (nI 4), .int a2, .int a3, .int a4] S = _
      rw [c_X11_forWhom, m_askedOf sc hM.1 (r2 S rfl) hc, Option.bind_some]
      dsimp only
      rw [if_pos h23, if_neg sne, m_w1, Option.bind_some]
      dsimp only
      rw [zb_t h4, if_pos (show (1 : Int32) ≠ 0 by decide), m_askedOf sc hM.1 (r2 S rfl) hc, Option.bind_some]
      dsimp only
      rw [if_pos h23, if_neg s1, m_askedOf sc hM.1 (r2 S rfl) hc, Option.bind_some, if_pos h23, if_neg hc0]
theorem q_who_5 (sc : zSc) {n : Nat} {P : Nat → Nat → Nat} {cs : List Int32} {gap ver : Nat} {S : zS} (hC : zCE n P cs gap ver S) (hM : zME n P cs gap none S) {vs : Nat} (hS : zSh 49 50 5 vs S) (hv : vs ≤ 50) (a2 : Int32) :
    zQ n P cs gap ver (zcI sc zm_X10_who [.ref 0, .int (5 : Int32), .int a2] S) (fun S => zcI sc zm_X11_who [.ref 51, .int (nI 5), .int a2] S) S := by
  have hr := hC.2.1
  obtain ⟨c, hc, r1, r2, r3⟩ := sh_ref_5 sc hS hv
  have sne := shR_ne hc
  by_cases h2 : rg a2 2
  case neg =>
    refine ⟨-1, S, S, ?_, ?_, hC, zfr_refl _ _, zfr_refl _ _⟩
    · rw [c_X10_who_L5, r1, Option.bind_some]
      dsimp only
      rw [if_neg (c := rg a2 2 ∧ _) (fun q => h2 q.1), if_neg (by decide)]
    · show zcI sc zm_X11_who [.ref 51, .int (nI 5), .int a2] S = _
      rw [c_X11_who, r2 S rfl, Option.bind_some]
      dsimp only
      rw [if_neg sne, m_isWay', Option.bind_some]
      dsimp only
      rw [zb_f h2]; exact if_neg (fun q => q rfl)
  have t2 : rg a2 2 ∧ (1 : Int32) ≠ 0 := ⟨h2, by decide⟩
  by_cases hc0 : c = 0
  · obtain ⟨w, rfl, hw⟩ := rg_n h2
    obtain ⟨m, e, g1, g2⟩ := r3 hc0
    obtain ⟨S1, b1, b2, b3⟩ := c_load sc hC (show w < 3 by omega)
    obtain ⟨S2, d1, d2, d3⟩ := c_who_5 sc (m := m) (e := e) n 0 S1 none (by omega) b2 ⟨g1.1, (b3.1 49 2 rfl).trans g1.2.1, fun i hi => by rw [b3.2]; exact g1.2.2 i hi⟩
    have f2 : zfr zkC S S2 := zfr_tr b3 d3
    obtain ⟨S3, k1, k2⟩ := m_who_go sc hr (show w < 3 by omega) (show 5 < 6 by omega) (m := m) (e := e) n 0 S2 none none (by omega) (zME_C hM f2) ⟨g2.1, (f2.1 71 5 rfl).trans g2.2.1, fun i hi => by rw [f2.2]; exact g2.2.2 i hi⟩
    refine ⟨nI (hmk (fun p => decide (rgF n P cs gap w m e p 3 0 = 0)) n), S2, S3, ?_, ?_, d2, f2, k2⟩
    · have d1' : zcI sc zm_X5_ifNotBold [.ref 23, .ref 49, .int (nI n)] S1 = some (nI (hmk (fun p => decide (rgF n P cs gap w m e p 3 0 = 0)) n), S2) := (c_X5_ifNotBold_49 sc S1 (nI n)).trans d1
      rw [c_X10_who_L5, r1, Option.bind_some]
      dsimp only
      rw [if_pos t2, hc0, if_pos (show shR 0 = 0 from rfl), b1, Option.bind_some, b2.1.1.1, d1', Option.bind_some]
    · show zcI sc zm_X11_who [.ref 51, .int (nI 5), .int (nI w)] S2 = _
      rw [c_X11_who, r2 S2 (f2.1 70 5 rfl), Option.bind_some]
      dsimp only
      rw [if_neg sne, m_isWay', Option.bind_some]
      dsimp only
      rw [zb_t h2, if_pos (show (1 : Int32) ≠ 0 by decide), r2 S2 (f2.1 70 5 rfl), Option.bind_some]
      dsimp only
      rw [hc0, if_pos (show (0 : Int32) ≤ (if (0 : Nat) = 0 then 1 else shR 0) by decide)]
      exact k1
  · obtain ⟨s0, s1, _⟩ := shR_s hc hc0
    refine ⟨shR c, S, S, ?_, ?_, hC, zfr_refl _ _, zfr_refl _ _⟩
    · rw [c_X10_who_L5, r1, Option.bind_some]
      dsimp only
      rw [if_pos t2, if_neg s0]
    · show zcI sc zm_X11_who [.ref 51, .int (nI 5), .int a2] S = _
      rw [c_X11_who, r2 S rfl, Option.bind_some]
      dsimp only
      rw [if_neg sne, m_isWay', Option.bind_some]
      dsimp only
      rw [zb_t h2, if_pos (show (1 : Int32) ≠ 0 by decide), r2 S rfl, Option.bind_some]
      dsimp only
      rw [if_neg s1, r2 S rfl, Option.bind_some, if_neg hc0]
theorem q_howBold_5 (sc : zSc) {n : Nat} {P : Nat → Nat → Nat} {cs : List Int32} {gap ver : Nat} {S : zS} (hC : zCE n P cs gap ver S) (hM : zME n P cs gap none S) {vs : Nat} (hS : zSh 49 50 5 vs S) (hv : vs ≤ 50) (a2 a3 : Int32) :
    zQ n P cs gap ver (zcI sc zm_X10_howBold [.ref 0, .int (5 : Int32), .int a2, .int a3] S) (fun S => zcI sc zm_X11_howBold [.ref 51, .int (nI 5), .int a2, .int a3] S) S := by
  have hr := hC.2.1
  have hn := hC.1.2.1
  obtain ⟨c, hc, r1, r2, r3⟩ := sh_ref_5 sc hS hv
  by_cases h23 : rg a2 2 ∧ rgp a3 n
  case neg =>
    refine ⟨-1, S, S, ?_, ?_, hC, zfr_refl _ _, zfr_refl _ _⟩
    · rw [c_X10_howBold_L5, c_isOne sc hC.1, Option.bind_some]
      dsimp only
      rw [r1, Option.bind_some]
      dsimp only
      rw [if_neg (c := rg a2 2 ∧ _) (fun q => h23 ⟨q.1, zb_n.mp q.2⟩), if_neg (by decide)]
    · show zcI sc zm_X11_howBold [.ref 51, .int (nI 5), .int a2, .int a3] S = _
      rw [c_X11_howBold, m_askedOf sc hM.1 (r2 S rfl) hc, Option.bind_some]
      dsimp only
      rw [if_neg h23, if_neg (show ¬ ((0 : Int32) ≤ -1) by decide), m_askedOf sc hM.1 (r2 S rfl) hc, Option.bind_some, if_neg h23]
  have t2 : rg a2 2 ∧ zb (rgp a3 n) ≠ 0 := ⟨h23.1, zb_n.mpr h23.2⟩
  by_cases hc0 : c = 0
  · obtain ⟨w, rfl, hw⟩ := rg_n h23.1
    obtain ⟨p, rfl, hp⟩ := rgp_n h23.2
    obtain ⟨m, e, g1, g2⟩ := r3 hc0
    obtain ⟨S1, b1, b2, b3⟩ := c_load sc hC (show w < 3 by omega)
    obtain ⟨S2, d1, d2, d3⟩ := c_howBold_5 sc (m := m) (e := e) hp 8 0 S1 P (by omega) b2 (fun _ _ => rfl) (fun _ => rfl) ⟨g1.1, (b3.1 49 2 rfl).trans g1.2.1, fun i hi => by rw [b3.2]; exact g1.2.2 i hi⟩
    have f2 : zfr zkC S S2 := zfr_tr b3 d3
    have hM2 := zME_C hM f2
    obtain ⟨S3, k1, k2⟩ := m_howBold_go sc hr (show w < 3 by omega) (show 5 < 6 by omega) (m := m) (e := e) hp (nI p) (S2.1 52 (24 + p)) hM2 rfl ⟨g2.1, (f2.1 71 5 rfl).trans g2.2.1, fun i hi => by rw [f2.2]; exact g2.2.2 i hi⟩ 8 0 S2 (by omega) (zfr_refl _ _)
    refine ⟨z2 (fsV (rgF n P cs gap w m e p 3) 8 0) (fsV (rgF n P cs gap w m e p 3) 8 0 - 1), S2, S3, ?_, ?_, d2, f2, k2⟩
    · have d1' : zcI sc zm_X5_leastBold [.ref 23, .ref 49, .int (nI p)] S1 = some (z2 (fsV (rgF n P cs gap w m e p 3) 8 0) (fsV (rgF n P cs gap w m e p 3) 8 0 - 1), S2) := (c_X5_leastBold_49 sc S1 (nI p)).trans d1
      rw [c_X10_howBold_L5, c_isOne sc hC.1, Option.bind_some]
      dsimp only
      rw [r1, Option.bind_some]
      dsimp only
      rw [if_pos t2, hc0, if_pos (show shR 0 = 0 from rfl), b1, Option.bind_some, d1', Option.bind_some]
    · show zcI sc zm_X11_howBold [.ref 51, .int (nI 5), .int (nI w), .int (nI p)] S2 = _
      have e24 : (24 : Int32) + nI p = nI (24 + p) := zn_add 24 p
      rw [c_X11_howBold, m_askedOf sc hM2.1 (r2 S2 (f2.1 70 5 rfl)) hc, Option.bind_some]
      dsimp only
      rw [if_pos h23, hc0, if_pos (show (0 : Int32) ≤ (if (0 : Nat) = 0 then 1 else shR 0) by decide), e24, if_neg (by first | (rw [n_ob (by omega)]; omega) | (rw [n_obb (by omega)]; omega)), n_cl (by omega)]
      exact k1
  · obtain ⟨s0, s1, _⟩ := shR_s hc hc0
    refine ⟨shR c, S, S, ?_, ?_, hC, zfr_refl _ _, zfr_refl _ _⟩
    · rw [c_X10_howBold_L5, c_isOne sc hC.1, Option.bind_some]
      dsimp only
      rw [r1, Option.bind_some]
      dsimp only
      rw [if_pos t2, if_neg s0]
    · show zcI sc zm_X11_howBold [.ref 51, .int (nI 5), .int a2, .int a3] S = _
      rw [c_X11_howBold, m_askedOf sc hM.1 (r2 S rfl) hc, Option.bind_some]
      dsimp only
      rw [if_pos h23, if_neg s1, m_askedOf sc hM.1 (r2 S rfl) hc, Option.bind_some, if_pos h23, if_neg hc0]
theorem q_forWhom_5 (sc : zSc) {n : Nat} {P : Nat → Nat → Nat} {cs : List Int32} {gap ver : Nat} {S : zS} (hC : zCE n P cs gap ver S) (hM : zME n P cs gap none S) {vs : Nat} (hS : zSh 49 50 5 vs S) (hv : vs ≤ 50) (a2 a3 a4 : Int32) :
    zQ n P cs gap ver (zcI sc zm_X10_forWhom [.ref 0, .int (5 : Int32), .int a2, .int a3, .int a4] S) (fun S => zcI sc zm_X11_forWhom [.ref 51, .int (nI 5), .int a2, .int a3, .int a4] S) S := by
  have hr := hC.2.1
  have hn := hC.1.2.1
  obtain ⟨c, hc, r1, r2, r3⟩ := sh_ref_5 sc hS hv
  -- what the class begins with
  have cl : zcI sc zm_X10_forWhom [.ref 0, .int (5 : Int32), .int a2, .int a3, .int a4] S = if (rg a2 2 ∧ rgp a3 n) ∧ rg a4 1 then (if shR c = 0 then ((zcV sc zm_X0_load [.ref 12, .int a2] S).bind (fun q3 => ((zcI sc zm_X5_setsOfFriends [.ref 23, .ref 49, .int a3, .int a4] q3).bind (fun q4 => some (q4.1, q4.2))))) else some (shR c, S)) else some (-1, S) := by
    have no : ∀ x : Int32, ¬ (rg a2 2 ∧ x ≠ 0) → (if (if rg a2 2 ∧ x ≠ 0 then shR c else -1) = 0 then ((zcV sc zm_X0_load [.ref 12, .int a2] S).bind (fun q3 => ((zcI sc zm_X5_setsOfFriends [.ref 23, .ref 49, .int a3, .int a4] q3).bind (fun q4 => some (q4.1, q4.2))))) else some ((if rg a2 2 ∧ x ≠ 0 then shR c else -1), S)) = some (-1, S) := by
      intro x hx
      rw [if_neg hx, if_neg (by decide)]
    rw [c_X10_forWhom_L5, c_isOne sc hC.1, Option.bind_some]
    dsimp only
    by_cases h3 : rgp a3 n
    · rw [zb_t h3, if_neg (show ¬ ((1 : Int32) = 0) by decide), s_w1, Option.bind_some]
      dsimp only
      by_cases h4 : rg a4 1
      · rw [zb_t h4, if_neg (show ¬ ((1 : Int32) = 0) by decide), r1, Option.bind_some]
        dsimp only
        by_cases h2 : rg a2 2
        · have t2 : rg a2 2 ∧ (1 : Int32) ≠ 0 := ⟨h2, by decide⟩
          rw [if_pos t2, if_pos (c := (rg a2 2 ∧ rgp a3 n) ∧ rg a4 1) ⟨⟨h2, h3⟩, h4⟩]
        · rw [no 1 (fun q => h2 q.1), if_neg (c := (rg a2 2 ∧ rgp a3 n) ∧ rg a4 1) (fun q => h2 q.1.1)]
      · rw [zb_f h4, if_pos rfl, r1, Option.bind_some]
        dsimp only
        rw [no 0 (fun q => q.2 rfl), if_neg (c := (rg a2 2 ∧ rgp a3 n) ∧ rg a4 1) (fun q => h4 q.2)]
    · rw [zb_f h3, if_pos rfl, r1, Option.bind_some]
      dsimp only
      rw [no 0 (fun q => q.2 rfl), if_neg (c := (rg a2 2 ∧ rgp a3 n) ∧ rg a4 1) (fun q => h3 q.1.2)]
  have sne := shR_ne hc
  by_cases h23 : rg a2 2 ∧ rgp a3 n
  case neg =>
    refine ⟨-1, S, S, ?_, ?_, hC, zfr_refl _ _, zfr_refl _ _⟩
    · rw [cl, if_neg (fun q => h23 q.1)]
    · show zcI sc zm_X11_forWhom [.ref 51, .int (nI 5), .int a2, .int a3, .int a4] S = _
      rw [c_X11_forWhom, m_askedOf sc hM.1 (r2 S rfl) hc, Option.bind_some]
      dsimp only
      rw [if_neg h23]; exact if_pos rfl
  by_cases h4 : rg a4 1
  case neg =>
    refine ⟨-1, S, S, ?_, ?_, hC, zfr_refl _ _, zfr_refl _ _⟩
    · rw [cl, if_neg (fun q => h4 q.2)]
    · show zcI sc zm_X11_forWhom [.ref 51, .int (nI 5), .int a2, .int a3, .int a4] S = _
      rw [c_X11_forWhom, m_askedOf sc hM.1 (r2 S rfl) hc, Option.bind_some]
      dsimp only
      rw [if_pos h23, if_neg sne, m_w1, Option.bind_some]
      dsimp only
      rw [zb_f h4]; exact if_neg (fun q => q rfl)
  by_cases hc0 : c = 0
  · obtain ⟨w, rfl, hw⟩ := rg_n h23.1
    obtain ⟨p, rfl, hp⟩ := rgp_n h23.2
    obtain ⟨m, e, g1, g2⟩ := r3 hc0
    obtain ⟨S1, b1, b2, b3⟩ := c_load sc hC (show w < 3 by omega)
    obtain ⟨S2, d1, d2, d3⟩ := c_forWhom_5 sc (m := m) (e := e) hp a4 256 0 S1 P (by omega) b2 (fun _ _ => rfl) (fun _ => rfl) ⟨g1.1, (b3.1 49 2 rfl).trans g1.2.1, fun i hi => by rw [b3.2]; exact g1.2.2 i hi⟩
    have f2 : zfr zkC S S2 := zfr_tr b3 d3
    have hM2 := zME_C hM f2
    obtain ⟨S3, k1, k2⟩ := m_forWhom_go sc hr (show w < 3 by omega) (show 5 < 6 by omega) (m := m) (e := e) hp (nI p) a4 (S2.1 52 (32 + p)) hM2 rfl ⟨g2.1, (f2.1 71 5 rfl).trans g2.2.1, fun i hi => by rw [f2.2]; exact g2.2.2 i hi⟩ 256 0 S2 (by omega) (zfr_refl _ _)
    refine ⟨if a4 ≠ 0 then z2 (cnt (fun v => decide (rgF n P cs gap w m e p 4 v = 0)) 256) (fsF (fun v => decide (rgF n P cs gap w m e p 4 v = 0)) 256) else nI (cnt (fun v => decide (rgF n P cs gap w m e p 4 v = 0)) 256), S2, S3, ?_, ?_, d2, f2, k2⟩
    · have d1' : zcI sc zm_X5_setsOfFriends [.ref 23, .ref 49, .int (nI p), .int a4] S1 = some (if a4 ≠ 0 then z2 (cnt (fun v => decide (rgF n P cs gap w m e p 4 v = 0)) 256) (fsF (fun v => decide (rgF n P cs gap w m e p 4 v = 0)) 256) else nI (cnt (fun v => decide (rgF n P cs gap w m e p 4 v = 0)) 256), S2) := (c_X5_setsOfFriends_49 sc S1 (nI p) a4).trans d1
      rw [cl, if_pos (c := (_ ∧ _) ∧ _) ⟨h23, h4⟩, hc0, if_pos (show shR 0 = 0 from rfl), b1, Option.bind_some, d1', Option.bind_some]
    · show zcI sc zm_X11_forWhom [.ref 51, .int (nI 5), .int (nI w), .int (nI p), .int a4] S2 = _
      have e32 : (32 : Int32) + nI p = nI (32 + p) := zn_add 32 p
      rw [c_X11_forWhom, m_askedOf sc hM2.1 (r2 S2 (f2.1 70 5 rfl)) hc, Option.bind_some]
      dsimp only
      rw [if_pos h23, if_neg sne, m_w1, Option.bind_some]
      dsimp only
      rw [zb_t h4, if_pos (show (1 : Int32) ≠ 0 by decide), m_askedOf sc hM2.1 (r2 S2 (f2.1 70 5 rfl)) hc, Option.bind_some]
      dsimp only
      rw [if_pos h23, hc0, if_pos (show (0 : Int32) ≤ (if (0 : Nat) = 0 then 1 else shR 0) by decide), e32, if_neg (by first | (rw [n_ob (by omega)]; omega) | (rw [n_obb (by omega)]; omega)), n_cl (by omega)]
      exact k1
  · obtain ⟨s0, s1, _⟩ := shR_s hc hc0
    refine ⟨shR c, S, S, ?_, ?_, hC, zfr_refl _ _, zfr_refl _ _⟩
    · rw [cl, if_pos (c := (_ ∧ _) ∧ _) ⟨h23, h4⟩, if_neg s0]
    · show zcI sc zm_X11_forWhom [.ref 51, .int (nI 5), .int a2, .int a3, .int a4] S = _
      rw [c_X11_forWhom, m_askedOf sc hM.1 (r2 S rfl) hc, Option.bind_some]
      dsimp only
      rw [if_pos h23, if_neg sne, m_w1, Option.bind_some]
      dsimp only
      rw [zb_t h4, if_pos (show (1 : Int32) ≠ 0 by decide), m_askedOf sc hM.1 (r2 S rfl) hc, Option.bind_some]
      dsimp only
      rw [if_pos h23, if_neg s1, m_askedOf sc hM.1 (r2 S rfl) hc, Option.bind_some, if_pos h23, if_neg hc0]
theorem q_who (sc : zSc) {n : Nat} {P : Nat → Nat → Nat} {cs : List Int32} {gap ver : Nat} {S : zS} (hC : zCE n P cs gap ver S) (hM : zME n P cs gap none S) {vs : Nat} (hS : zSHs vs S) (hv : vs ≤ 50) (a1 a2 : Int32) :
    zQ n P cs gap ver (zcI sc zm_X10_who [.ref 0, .int a1, .int a2] S) (fun S => zcI sc zm_X11_who [.ref 51, .int a1, .int a2] S) S := by
  by_cases h1 : rg a1 5
  case neg =>
    refine ⟨-1, S, S, ?_, ?_, hC, zfr_refl _ _, zfr_refl _ _⟩
    · rw [c_X10_who, c_X10_registerRefusal, s_isShelf, Option.bind_some]
      dsimp only
      rw [zb_f h1]; rfl
    · show zcI sc zm_X11_who [.ref 51, .int a1, .int a2] S = _
      rw [c_X11_who, c_X11_shortsIs, m_isShelf', Option.bind_some]
      dsimp only
      rw [zb_f h1]; rfl
  obtain ⟨d, rfl, hd⟩ := rg_n h1
  rcases (by omega : d = 0 ∨ d = 1 ∨ d = 2 ∨ d = 3 ∨ d = 4 ∨ d = 5) with rfl | rfl | rfl | rfl | rfl | rfl
  · exact q_who_0 sc hC hM hS.1 hv a2
  · exact q_who_1 sc hC hM hS.2.1 hv a2
  · exact q_who_2 sc hC hM hS.2.2.1 hv a2
  · exact q_who_3 sc hC hM hS.2.2.2.1 hv a2
  · exact q_who_4 sc hC hM hS.2.2.2.2.1 hv a2
  · exact q_who_5 sc hC hM hS.2.2.2.2.2 hv a2
theorem m_askedBad (sc : zSc) (S : zS) {a1 : Int32} (h1 : ¬ rg a1 5) (a2 a3 : Int32) : zcI sc zm_X11_askedOf [.ref 51, .int a1, .int a2, .int a3] S = some (-1, S) := by
  rw [c_X11_askedOf, c_X11_shortsIs, m_isShelf', Option.bind_some]
  dsimp only
  rw [zb_f h1]; rfl
theorem s_regBad (sc : zSc) (S : zS) {a1 : Int32} (h1 : ¬ rg a1 5) (a2 a3 : Int32) : zcI sc zm_X10_registerRefusal [.ref 0, .int a1, .int a2, .int a3] S = some (-1, S) := by
  rw [c_X10_registerRefusal, s_isShelf, Option.bind_some]
  dsimp only
  rw [zb_f h1]; rfl
theorem q_howBold (sc : zSc) {n : Nat} {P : Nat → Nat → Nat} {cs : List Int32} {gap ver : Nat} {S : zS} (hC : zCE n P cs gap ver S) (hM : zME n P cs gap none S) {vs : Nat} (hS : zSHs vs S) (hv : vs ≤ 50) (a1 a2 a3 : Int32) :
    zQ n P cs gap ver (zcI sc zm_X10_howBold [.ref 0, .int a1, .int a2, .int a3] S) (fun S => zcI sc zm_X11_howBold [.ref 51, .int a1, .int a2, .int a3] S) S := by
  by_cases h1 : rg a1 5
  case neg =>
    refine ⟨-1, S, S, ?_, ?_, hC, zfr_refl _ _, zfr_refl _ _⟩
    · rw [c_X10_howBold, c_isOne sc hC.1, Option.bind_some]
      dsimp only
      rw [s_regBad sc S h1, Option.bind_some]
      dsimp only
      rw [if_neg (by decide)]
    · show zcI sc zm_X11_howBold [.ref 51, .int a1, .int a2, .int a3] S = _
      rw [c_X11_howBold, m_askedBad sc S h1, Option.bind_some]
      dsimp only
      rw [if_neg (show ¬ ((0 : Int32) ≤ -1) by decide), m_askedBad sc S h1, Option.bind_some]
  obtain ⟨d, rfl, hd⟩ := rg_n h1
  rcases (by omega : d = 0 ∨ d = 1 ∨ d = 2 ∨ d = 3 ∨ d = 4 ∨ d = 5) with rfl | rfl | rfl | rfl | rfl | rfl
  · exact q_howBold_0 sc hC hM hS.1 hv a2 a3
  · exact q_howBold_1 sc hC hM hS.2.1 hv a2 a3
  · exact q_howBold_2 sc hC hM hS.2.2.1 hv a2 a3
  · exact q_howBold_3 sc hC hM hS.2.2.2.1 hv a2 a3
  · exact q_howBold_4 sc hC hM hS.2.2.2.2.1 hv a2 a3
  · exact q_howBold_5 sc hC hM hS.2.2.2.2.2 hv a2 a3
theorem q_forWhom (sc : zSc) {n : Nat} {P : Nat → Nat → Nat} {cs : List Int32} {gap ver : Nat} {S : zS} (hC : zCE n P cs gap ver S) (hM : zME n P cs gap none S) {vs : Nat} (hS : zSHs vs S) (hv : vs ≤ 50) (a1 a2 a3 a4 : Int32) :
    zQ n P cs gap ver (zcI sc zm_X10_forWhom [.ref 0, .int a1, .int a2, .int a3, .int a4] S) (fun S => zcI sc zm_X11_forWhom [.ref 51, .int a1, .int a2, .int a3, .int a4] S) S := by
  by_cases h1 : rg a1 5
  case neg =>
    refine ⟨-1, S, S, ?_, ?_, hC, zfr_refl _ _, zfr_refl _ _⟩
    · have n1 : ¬ ((-1 : Int32) = 0) := by decide
      rw [c_X10_forWhom, c_isOne sc hC.1, Option.bind_some]
      dsimp only
      by_cases h3 : rgp a3 n
      · rw [zb_t h3, if_neg (show ¬ ((1 : Int32) = 0) by decide), s_w1, Option.bind_some]
        dsimp only
        by_cases h4 : rg a4 1
        · rw [zb_t h4, if_neg (show ¬ ((1 : Int32) = 0) by decide), s_regBad sc S h1, Option.bind_some]
          dsimp only
          rw [if_neg n1]
        · rw [zb_f h4, if_pos rfl, s_regBad sc S h1, Option.bind_some]
          dsimp only
          rw [if_neg n1]
      · rw [zb_f h3, if_pos rfl, s_regBad sc S h1, Option.bind_some]
        dsimp only
        rw [if_neg n1]
    · show zcI sc zm_X11_forWhom [.ref 51, .int a1, .int a2, .int a3, .int a4] S = _
      rw [c_X11_forWhom, m_askedBad sc S h1, Option.bind_some]
      rfl
  obtain ⟨d, rfl, hd⟩ := rg_n h1
  rcases (by omega : d = 0 ∨ d = 1 ∨ d = 2 ∨ d = 3 ∨ d = 4 ∨ d = 5) with rfl | rfl | rfl | rfl | rfl | rfl
  · exact q_forWhom_0 sc hC hM hS.1 hv a2 a3 a4
  · exact q_forWhom_1 sc hC hM hS.2.1 hv a2 a3 a4
  · exact q_forWhom_2 sc hC hM hS.2.2.1 hv a2 a3 a4
  · exact q_forWhom_3 sc hC hM hS.2.2.2.1 hv a2 a3 a4
  · exact q_forWhom_4 sc hC hM hS.2.2.2.2.1 hv a2 a3 a4
  · exact q_forWhom_5 sc hC hM hS.2.2.2.2.2 hv a2 a3 a4
