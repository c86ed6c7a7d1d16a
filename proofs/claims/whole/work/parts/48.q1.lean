theorem q_called (sc : zSc) {n : Nat} {P : Nat → Nat → Nat} {cs : List Int32} {gap ver : Nat} {S : zS} (hC : zCE n P cs gap ver S) (hM : zME n P cs gap none S) (a1 a2 a3 : Int32) :
    zQ n P cs gap ver (zcI sc zm_X10_called [.ref 0, .int a1, .int a2, .int a3] S) (fun S => zcI sc zm_X11_called [.ref 51, .int a1, .int a2, .int a3] S) S := by
  have hn := hC.1.2.1
  have hr := hC.2.1
  by_cases h1 : tok a1
  case neg =>
    refine ⟨-1, S, S, ?_, ?_, hC, zfr_refl _ _, zfr_refl _ _⟩
    · rw [c_X10_called]; rw [s_isLW, Option.bind_some]; (try dsimp only); rw [zb_f h1]; exact if_pos rfl
    · show zcI sc zm_X11_called [.ref 51, .int a1, .int a2, .int a3] S = _
      rw [c_X11_called]; rw [m_isTw, Option.bind_some]; (try dsimp only); rw [zb_f h1]; exact if_pos rfl
  by_cases h2 : rg a2 255
  case neg =>
    refine ⟨-1, S, S, ?_, ?_, hC, zfr_refl _ _, zfr_refl _ _⟩
    · rw [c_X10_called]; rw [s_isLW, Option.bind_some]; (try dsimp only); rw [zb_t h1]; rw [if_neg (show ¬ ((1 : Int32) = 0) by decide)]; rw [s_isBits, Option.bind_some]; (try dsimp only); rw [zb_f h2]; exact if_pos rfl
    · show zcI sc zm_X11_called [.ref 51, .int a1, .int a2, .int a3] S = _
      rw [c_X11_called]; rw [m_isTw, Option.bind_some]; (try dsimp only); rw [zb_t h1]; rw [if_neg (show ¬ ((1 : Int32) = 0) by decide)]; rw [m_isSet', Option.bind_some]; (try dsimp only); rw [zb_f h2]; exact if_pos rfl
  by_cases h3 : rg a3 4
  case neg =>
    refine ⟨-1, S, S, ?_, ?_, hC, zfr_refl _ _, zfr_refl _ _⟩
    · rw [c_X10_called]; rw [s_isLW, Option.bind_some]; (try dsimp only); rw [zb_t h1]; rw [if_neg (show ¬ ((1 : Int32) = 0) by decide)]; rw [s_isBits, Option.bind_some]; (try dsimp only); rw [zb_t h2]; rw [if_neg (show ¬ ((1 : Int32) = 0) by decide)]; rw [s_w4, Option.bind_some]; (try dsimp only); rw [zb_f h3]; exact if_neg (fun q => q rfl)
    · show zcI sc zm_X11_called [.ref 51, .int a1, .int a2, .int a3] S = _
      rw [c_X11_called]; rw [m_isTw, Option.bind_some]; (try dsimp only); rw [zb_t h1]; rw [if_neg (show ¬ ((1 : Int32) = 0) by decide)]; rw [m_isSet', Option.bind_some]; (try dsimp only); rw [zb_t h2]; rw [if_neg (show ¬ ((1 : Int32) = 0) by decide)]; rw [m_w4, Option.bind_some]; (try dsimp only); rw [zb_f h3]; exact if_neg (fun q => q rfl)
  obtain ⟨t, rfl, ht1, ht2, e1, e2⟩ := tok_n h1
  obtain ⟨lk, rfl, hlk⟩ := rg_n h2
  have hg := kcm_good (P := P) (cs := cs) (gap := gap) (o := none) (l := t / 10) (way := t % 10) (lk := lk) hn
  obtain ⟨S1, b1, b2, b3, b4, b5⟩ := c_byWay sc hC ht1 ht2 (lk := lk) (by omega)
  obtain ⟨S2, d1, d2, d3, d4⟩ := m_run sc (zME_C hM b5) hr ht1 ht2 (lk := lk) (by omega)
  refine ⟨if a3 = 0 then nI (kcm n P cs gap none (t / 10) (t % 10) lk n 3 0) else if a3 = 1 then nI (kcm n P cs gap none (t / 10) (t % 10) lk n 3 4) else if a3 = 2 then nI (kcm n P cs gap none (t / 10) (t % 10) lk n 3 1) else if a3 = 3 then nI (kms n P (t / 10) (kcm n P cs gap none (t / 10) (t % 10) lk n 3 0)) else nI (kcm n P cs gap none (t / 10) (t % 10) lk n 3 2), S1, S2, ?_, ?_, b3.1, b5, zfr_up _ _ d3 rfl⟩
  · rw [c_X10_called]; rw [s_isLW, Option.bind_some]; (try dsimp only); rw [zb_t h1]; rw [if_neg (show ¬ ((1 : Int32) = 0) by decide)]; rw [s_isBits, Option.bind_some]; (try dsimp only); rw [zb_t h2]; rw [if_neg (show ¬ ((1 : Int32) = 0) by decide)]; rw [s_w4, Option.bind_some]; (try dsimp only); rw [zb_t h3]; rw [if_pos (show (1 : Int32) ≠ 0 by decide)]
    rw [e2, e1, b1, Option.bind_some, s_missed sc b4 b2.1 (hmk_lt _ n hn) hg.1, Option.bind_some, b2.1, b2.2.1, b2.2.2.1, b2.2.2.2.2.1, sif, sif, sif, sif]; rfl
  · (try dsimp only); rw [c_X11_called]; rw [m_isTw, Option.bind_some]; (try dsimp only); rw [zb_t h1]; rw [if_neg (show ¬ ((1 : Int32) = 0) by decide)]; rw [m_isSet', Option.bind_some]; (try dsimp only); rw [zb_t h2]; rw [if_neg (show ¬ ((1 : Int32) = 0) by decide)]; rw [m_w4, Option.bind_some]; (try dsimp only); rw [zb_t h3]; rw [if_pos (show (1 : Int32) ≠ 0 by decide)]
    rw [e2, e1, d1, Option.bind_some, m_missedIn sc d4.1 hr ht1 hg.1 d2.2.1, Option.bind_some, d2.2.1, d2.2.2.1, d2.2.2.2.1, d2.2.2.2.2.2, sif, sif, sif, sif]
theorem q_answers (sc : zSc) {n : Nat} {P : Nat → Nat → Nat} {cs : List Int32} {gap ver : Nat} {S : zS} (hC : zCE n P cs gap ver S) (hM : zME n P cs gap none S) (a1 a2 a3 : Int32) :
    zQ n P cs gap ver (zcI sc zm_X10_answers [.ref 0, .int a1, .int a2, .int a3] S) (fun S => zcI sc zm_X11_answers [.ref 51, .int a1, .int a2, .int a3] S) S := by
  have hn := hC.1.2.1
  have hr := hC.2.1
  by_cases h1 : tok a1
  case neg =>
    refine ⟨-1, S, S, ?_, ?_, hC, zfr_refl _ _, zfr_refl _ _⟩
    · rw [c_X10_answers]; rw [s_isLW, Option.bind_some]; (try dsimp only); rw [zb_f h1]; exact if_pos rfl
    · show zcI sc zm_X11_answers [.ref 51, .int a1, .int a2, .int a3] S = _
      rw [c_X11_answers]; rw [m_isTw, Option.bind_some]; (try dsimp only); rw [zb_f h1]; exact if_pos rfl
  by_cases h2 : rg a2 255
  case neg =>
    refine ⟨-1, S, S, ?_, ?_, hC, zfr_refl _ _, zfr_refl _ _⟩
    · rw [c_X10_answers]; rw [s_isLW, Option.bind_some]; (try dsimp only); rw [zb_t h1]; rw [if_neg (show ¬ ((1 : Int32) = 0) by decide)]; rw [s_isBits, Option.bind_some]; (try dsimp only); rw [zb_f h2]; exact if_pos rfl
    · show zcI sc zm_X11_answers [.ref 51, .int a1, .int a2, .int a3] S = _
      rw [c_X11_answers]; rw [m_isTw, Option.bind_some]; (try dsimp only); rw [zb_t h1]; rw [if_neg (show ¬ ((1 : Int32) = 0) by decide)]; rw [m_isSet', Option.bind_some]; (try dsimp only); rw [zb_f h2]; exact if_pos rfl
  by_cases h3 : rgp a3 n
  case neg =>
    refine ⟨-1, S, S, ?_, ?_, hC, zfr_refl _ _, zfr_refl _ _⟩
    · rw [c_X10_answers]; rw [s_isLW, Option.bind_some]; (try dsimp only); rw [zb_t h1]; rw [if_neg (show ¬ ((1 : Int32) = 0) by decide)]; rw [s_isBits, Option.bind_some]; (try dsimp only); rw [zb_t h2]; rw [if_neg (show ¬ ((1 : Int32) = 0) by decide)]; rw [c_isOne sc hC.1, Option.bind_some]; (try dsimp only); rw [zb_f h3]; exact if_neg (fun q => q rfl)
    · show zcI sc zm_X11_answers [.ref 51, .int a1, .int a2, .int a3] S = _
      rw [c_X11_answers]; rw [m_isTw, Option.bind_some]; (try dsimp only); rw [zb_t h1]; rw [if_neg (show ¬ ((1 : Int32) = 0) by decide)]; rw [m_isSet', Option.bind_some]; (try dsimp only); rw [zb_t h2]; rw [if_neg (show ¬ ((1 : Int32) = 0) by decide)]; rw [m_isOne sc hM.1, Option.bind_some]; (try dsimp only); rw [zb_f h3]; exact if_neg (fun q => q rfl)
  obtain ⟨t, rfl, ht1, ht2, e1, e2⟩ := tok_n h1
  obtain ⟨lk, rfl, hlk⟩ := rg_n h2
  obtain ⟨p, rfl, hp⟩ := rgp_n h3
  obtain ⟨S1, b1, b2, b3, b4, b5⟩ := c_byWay sc hC ht1 ht2 (lk := lk) (by omega)
  obtain ⟨S2, d1, d2, d3, d4⟩ := m_run sc (zME_C hM b5) hr ht1 ht2 (lk := lk) (by omega)
  have hg := ((kcm_good (P := P) (cs := cs) (gap := gap) (o := none) (l := t / 10) (way := t % 10) (lk := lk) hn).2.2.2.2.2 p).1
  have hM1 := zME_C hM b5
  refine ⟨if kcm n P cs gap none (t / 10) (t % 10) lk n 0 p = 0 then -2 else zwho (kcm n P cs gap none (t / 10) (t % 10) lk n 0 p), S1, S2, ?_, ?_, b3.1, b5, zfr_up _ _ d3 rfl⟩
  · rw [c_X10_answers]; rw [s_isLW, Option.bind_some]; (try dsimp only); rw [zb_t h1]; rw [if_neg (show ¬ ((1 : Int32) = 0) by decide)]; rw [s_isBits, Option.bind_some]; (try dsimp only); rw [zb_t h2]; rw [if_neg (show ¬ ((1 : Int32) = 0) by decide)]; rw [c_isOne sc hC.1, Option.bind_some]; (try dsimp only); rw [zb_t h3]; rw [if_pos (show (1 : Int32) ≠ 0 by decide)]
    rw [e2, e1, b1, Option.bind_some, if_neg (by first | (rw [n_ob (by omega)]; omega) | (rw [n_obb (by omega)]; omega)), n_cl (by omega), (b2.2.2.2.2.2 p hp).1, ifc (zwho_nm1 (w := kcm n P cs gap none (t / 10) (t % 10) lk n 0 p) (by omega))]
    by_cases c : kcm n P cs gap none (t / 10) (t % 10) lk n 0 p = 0
    · rw [if_neg (fun q => q c), if_pos c]
    · rw [if_pos c, if_neg c]
  · (try dsimp only); rw [c_X11_answers]; rw [m_isTw, Option.bind_some]; (try dsimp only); rw [zb_t h1]; rw [if_neg (show ¬ ((1 : Int32) = 0) by decide)]; rw [m_isSet', Option.bind_some]; (try dsimp only); rw [zb_t h2]; rw [if_neg (show ¬ ((1 : Int32) = 0) by decide)]; rw [m_isOne sc hM1.1, Option.bind_some]; (try dsimp only); rw [zb_t h3]; rw [if_pos (show (1 : Int32) ≠ 0 by decide)]
    rw [e2, e1, d1, Option.bind_some, if_neg (by first | (rw [n_ob (by omega)]; omega) | (rw [n_obb (by omega)]; omega)), n_cl (by omega), (d2.1 p (by omega)).1]
    cases c : kcm n P cs gap none (t / 10) (t % 10) lk n 0 p with
    | zero => rw [zwho0, if_neg (by decide), if_pos rfl]
    | succ q => rw [zwhoS, if_pos (by rw [n_0le (by omega)]; trivial), if_neg (by first | (rw [n_ob (by omega)]; omega) | (rw [n_obb (by omega)]; omega)), if_neg (by omega)]
/-! ===== the best way ===== -/
def bwF (N T : Nat → Nat) : Nat → Nat × Nat × Nat
  | 0 => (0, 2147483647, 2147483647)
  | w + 1 => if N w < (bwF N T w).2.1 ∨ (N w = (bwF N T w).2.1 ∧ T w < (bwF N T w).2.2) then (w, N w, T w) else bwF N T w
theorem bwF_b {N T : Nat → Nat} (h : ∀ w, N w ≤ 16 ∧ T w ≤ 8000) : ∀ w, (bwF N T w).1 ≤ w ∧ (bwF N T w).2.1 ≤ 2147483647 ∧ (bwF N T w).2.2 ≤ 2147483647
  | 0 => ⟨Nat.le_refl _, Nat.le_refl _, Nat.le_refl _⟩
  | w + 1 => by
    have ih := bwF_b h w
    have := h w
    unfold bwF
    split
    · exact ⟨by show w ≤ w + 1; omega, by show N w ≤ _; omega, by show T w ≤ _; omega⟩
    · exact ⟨by omega, ih.2.1, ih.2.2⟩
abbrev bwN (n : Nat) (P : Nat → Nat → Nat) (cs : List Int32) (gap l w : Nat) : Nat := pcn (kcm n P cs gap none l w 0 n 3 1) + pcn (kms n P l (kcm n P cs gap none l w 0 n 3 0))
abbrev bwT (n : Nat) (P : Nat → Nat → Nat) (cs : List Int32) (gap l w : Nat) : Nat := kcm n P cs gap none l w 0 n 3 4
theorem bw_h {n : Nat} (hn : n ≤ 8) (P : Nat → Nat → Nat) (cs : List Int32) (gap l : Nat) : ∀ w, bwN n P cs gap l w ≤ 16 ∧ bwT n P cs gap l w ≤ 8000 := by
  intro w
  have hg := (kcm_good (P := P) (cs := cs) (gap := gap) (o := none) (l := l) (way := w) (lk := 0) hn).2.2.2.2.1
  have h1 := pcn_le (kcm n P cs gap none l w 0 n 3 1)
  have h2 := pcn_le (kms n P l (kcm n P cs gap none l w 0 n 3 0))
  exact ⟨Nat.add_le_add h1 h2, Nat.le_trans hg (by omega)⟩
theorem kms_lt {n : Nat} {P : Nat → Nat → Nat} {l m : Nat} (hn : n ≤ 8) : kms n P l m < 256 := Nat.lt_of_le_of_lt Nat.and_le_left (hmk_lt _ n hn)
theorem c_bestWay_go (sc : zSc) {n : Nat} {P : Nat → Nat → Nat} {cs : List Int32} {gap ver l : Nat} (hl : l < 10) (x2 : Int32) : ∀ (k w : Nat) (S : zS) (o7 : Option Value), w + k = 3 → zCE n P cs gap ver S →
    ∃ S', zO zgI sc (zg1, (zm_X8_wayWithFewest, 7), 13, S, [some (.ref 20), some (.int (nI l)), some (.int x2), some (.int (nI (bwF (bwN n P cs gap l) (bwT n P cs gap l) w).1)), some (.int (nI (bwF (bwN n P cs gap l) (bwT n P cs gap l) w).2.1)), some (.int (nI (bwF (bwN n P cs gap l) (bwT n P cs gap l) w).2.2)), some (.int (nI w)), o7], [])
      = some (if x2 ≠ 0 then (if x2 ≠ 1 then nI (bwF (bwN n P cs gap l) (bwT n P cs gap l) 3).2.2 else nI (bwF (bwN n P cs gap l) (bwT n P cs gap l) 3).2.1) else nI (bwF (bwN n P cs gap l) (bwT n P cs gap l) 3).1, S') ∧ zCE n P cs gap ver S' ∧ zfr zkC S S'
  | 0, w, S, o7, hw, hC => by
    have : w = 3 := by omega
    subst this
    refine ⟨S, ?_, hC, zfr_refl _ _⟩
    rw [e_X8_wayWithFewest_13, if_pos (by decide), sif, sif]
  | k + 1, w, S, o7, hw, hC => by
    have hn := hC.1.2.1
    have hb := bwF_b (bw_h hn P cs gap l) w
    have hs := bw_h hn P cs gap l w
    have hg := kcm_good (P := P) (cs := cs) (gap := gap) (o := none) (l := l) (way := w) (lk := 0) hn
    obtain ⟨S1, a1, a2, a3⟩ := c_load sc hC (show w < 3 by omega)
    obtain ⟨S2, b1, b2, b3, b4, b5⟩ := c_inLesson sc a2 hl
    obtain ⟨S3, d1, d2, d3, d4, d5, d6, _⟩ := c_makeL sc b2 b3 b4 (lk := 0) (by omega)
    have f3 : zfr zkC S S3 := zfr_tr a3 (zfr_tr b5 d6)
    have d1' : zcV sc zm_X0_make [.ref 12, .int (0 : Int32)] S2 = some S3 := d1
    rw [e_X8_wayWithFewest_13, if_neg (by rw [show (3 : Int32) = nI 3 from rfl, n_le (by omega) (by omega)]; omega), a1, Option.bind_some, b1, Option.bind_some, d1', Option.bind_some, d2.2.1, s_bitCount sc S3 hg.2.1, Option.bind_some]
    dsimp only
    rw [s_missed sc d4 d2.1 (hmk_lt _ n hn) hg.1, Option.bind_some]
    dsimp only
    rw [s_bitCount sc S3 (m := hmk (yhf P l) n &&& (255 - kcm n P cs gap none l w 0 n 3 0)) (kms_lt (P := P) (l := l) (m := kcm n P cs gap none l w 0 n 3 0) hn), Option.bind_some]
    dsimp only
    have en : nI (pcn (kcm n P cs gap none l w 0 n 3 1)) + nI (pcn (hmk (yhf P l) n &&& (255 - kcm n P cs gap none l w 0 n 3 0))) = nI (bwN n P cs gap l w) := zn_add _ _
    rw [en, d2.2.2.2.2.1, n_s1, ifc (n_lt (a := bwN n P cs gap l w) (b := (bwF (bwN n P cs gap l) (bwT n P cs gap l) w).2.1) (by omega) (by omega)), ifc (n_ne (a := bwN n P cs gap l w) (b := (bwF (bwN n P cs gap l) (bwT n P cs gap l) w).2.1) (by omega) (by omega)), ifc (n_le (a := (bwF (bwN n P cs gap l) (bwT n P cs gap l) w).2.2) (b := bwT n P cs gap l w) (by omega) (by omega))]
    have es : bwF (bwN n P cs gap l) (bwT n P cs gap l) (w + 1) = if bwN n P cs gap l w < (bwF (bwN n P cs gap l) (bwT n P cs gap l) w).2.1 ∨ (bwN n P cs gap l w = (bwF (bwN n P cs gap l) (bwT n P cs gap l) w).2.1 ∧ bwT n P cs gap l w < (bwF (bwN n P cs gap l) (bwT n P cs gap l) w).2.2) then (w, bwN n P cs gap l w, bwT n P cs gap l w) else bwF (bwN n P cs gap l) (bwT n P cs gap l) w := rfl
    have IH := c_bestWay_go sc hl x2 k (w + 1) S3 (some (.int (nI (bwN n P cs gap l w)))) (by omega) d3.1
    have fin : ∀ X, (∃ S', X = some (if x2 ≠ 0 then (if x2 ≠ 1 then nI (bwF (bwN n P cs gap l) (bwT n P cs gap l) 3).2.2 else nI (bwF (bwN n P cs gap l) (bwT n P cs gap l) 3).2.1) else nI (bwF (bwN n P cs gap l) (bwT n P cs gap l) 3).1, S') ∧ zCE n P cs gap ver S' ∧ zfr zkC S3 S') → (∃ S', X = some (if x2 ≠ 0 then (if x2 ≠ 1 then nI (bwF (bwN n P cs gap l) (bwT n P cs gap l) 3).2.2 else nI (bwF (bwN n P cs gap l) (bwT n P cs gap l) 3).2.1) else nI (bwF (bwN n P cs gap l) (bwT n P cs gap l) 3).1, S') ∧ zCE n P cs gap ver S' ∧ zfr zkC S S') :=
      fun X ⟨S', g1, g2, g3⟩ => ⟨S', g1, g2, zfr_tr f3 g3⟩
    by_cases c1 : bwN n P cs gap l w < (bwF (bwN n P cs gap l) (bwT n P cs gap l) w).2.1
    · rw [if_pos c1]
      rw [if_pos (Or.inl c1)] at es
      rw [es] at IH
      exact fin _ IH
    · rw [if_neg c1]
      by_cases c2 : bwN n P cs gap l w = (bwF (bwN n P cs gap l) (bwT n P cs gap l) w).2.1
      · rw [if_neg (fun q => q c2)]
        by_cases c3 : (bwF (bwN n P cs gap l) (bwT n P cs gap l) w).2.2 ≤ bwT n P cs gap l w
        · rw [if_pos c3]
          rw [if_neg (by omega)] at es
          rw [es] at IH
          exact fin _ IH
        · rw [if_neg c3]
          rw [if_pos (Or.inr ⟨c2, by omega⟩)] at es
          rw [es] at IH
          exact fin _ IH
      · rw [if_pos c2]
        rw [if_neg (by omega)] at es
        rw [es] at IH
        exact fin _ IH
theorem m_bestWay_go (sc : zSc) {n : Nat} {P : Nat → Nat → Nat} {cs : List Int32} {gap l : Nat} (hr : zPR n P) (hl : l < 10) (x2 : Int32) : ∀ (k w : Nat) (S : zS) (x3 x4 x5 : Int32) (o7 : Option Value), w + k = 3 → zME n P cs gap none S →
    ((w = 0 ∧ x4 = -1) ∨ (0 < w ∧ x3 = nI (bwF (bwN n P cs gap l) (bwT n P cs gap l) w).1 ∧ x4 = nI (bwF (bwN n P cs gap l) (bwT n P cs gap l) w).2.1 ∧ x5 = nI (bwF (bwN n P cs gap l) (bwT n P cs gap l) w).2.2)) →
    ∃ S', zO zgI sc (zg1, (zm_X11_bestWay, 66), 33, S, [some (.ref 51), some (.int (nI l)), some (.int x2), some (.int x3), some (.int x4), some (.int x5), some (.int (nI w)), o7], [])
      = some (if x2 ≠ 0 then (if x2 ≠ 1 then nI (bwF (bwN n P cs gap l) (bwT n P cs gap l) 3).2.2 else nI (bwF (bwN n P cs gap l) (bwT n P cs gap l) 3).2.1) else nI (bwF (bwN n P cs gap l) (bwT n P cs gap l) 3).1, S') ∧ zfr zkMq S S'
  | 0, w, S, x3, x4, x5, o7, hw, hM, hx => by
    have : w = 3 := by omega
    subst this
    obtain ⟨e1, e2, e3⟩ := (hx.resolve_left (fun q => by omega)).2
    refine ⟨S, ?_, zfr_refl _ _⟩
    rw [e_X11_bestWay_33, if_pos (by decide), e1, e2, e3, sif, sif]
  | k + 1, w, S, x3, x4, x5, o7, hw, hM, hx => by
    have hn := hM.1.2.1
    have hb := bwF_b (bw_h hn P cs gap l) w
    have hs := bw_h hn P cs gap l w
    have hg := kcm_good (P := P) (cs := cs) (gap := gap) (o := none) (l := l) (way := w) (lk := 0) hn
    obtain ⟨S1, a1, a2, a3, a4⟩ := m_run sc hM hr hl (show w < 3 by omega) (lk := 0) (by omega)
    have a1' : zcV sc zm_X11_calls [.ref 51, .int (nI l), .int (nI w), .int (0 : Int32)] S = some S1 := a1
    rw [e_X11_bestWay_33, if_neg (by rw [show (3 : Int32) = nI 3 from rfl, n_le (by omega) (by omega)]; omega), a1', Option.bind_some, a2.2.2.1, m_bitsOf sc S1 hg.2.1, Option.bind_some]
    dsimp only
    rw [m_missedIn sc a4.1 hr hl hg.1 a2.2.1, Option.bind_some]
    dsimp only
    rw [m_bitsOf sc S1 (kms_lt hn), Option.bind_some]
    dsimp only
    have en : nI (pcn (kcm n P cs gap none l w 0 n 3 1)) + nI (pcn (kms n P l (kcm n P cs gap none l w 0 n 3 0))) = nI (bwN n P cs gap l w) := zn_add _ _
    rw [en, a2.2.2.2.2.2, n_s1]
    have es : bwF (bwN n P cs gap l) (bwT n P cs gap l) (w + 1) = if bwN n P cs gap l w < (bwF (bwN n P cs gap l) (bwT n P cs gap l) w).2.1 ∨ (bwN n P cs gap l w = (bwF (bwN n P cs gap l) (bwT n P cs gap l) w).2.1 ∧ bwT n P cs gap l w < (bwF (bwN n P cs gap l) (bwT n P cs gap l) w).2.2) then (w, bwN n P cs gap l w, bwT n P cs gap l w) else bwF (bwN n P cs gap l) (bwT n P cs gap l) w := rfl
    have IH := fun x3 x4 x5 h => m_bestWay_go sc hr hl x2 k (w + 1) S1 x3 x4 x5 (some (.int (nI (bwN n P cs gap l w)))) (by omega) a4 (Or.inr ⟨by omega, h⟩)
    have fin : ∀ X, (∃ S', X = some (if x2 ≠ 0 then (if x2 ≠ 1 then nI (bwF (bwN n P cs gap l) (bwT n P cs gap l) 3).2.2 else nI (bwF (bwN n P cs gap l) (bwT n P cs gap l) 3).2.1) else nI (bwF (bwN n P cs gap l) (bwT n P cs gap l) 3).1, S') ∧ zfr zkMq S1 S') → (∃ S', X = some (if x2 ≠ 0 then (if x2 ≠ 1 then nI (bwF (bwN n P cs gap l) (bwT n P cs gap l) 3).2.2 else nI (bwF (bwN n P cs gap l) (bwT n P cs gap l) 3).2.1) else nI (bwF (bwN n P cs gap l) (bwT n P cs gap l) 3).1, S') ∧ zfr zkMq S S') :=
      fun X ⟨S', g1, g2⟩ => ⟨S', g1, zfr_tr (zfr_up _ _ a3 rfl) g2⟩
    rcases hx with ⟨w0, e4⟩ | ⟨w1, e3, e4, e5⟩
    · subst w0
      rw [e4, if_pos (by decide)]
      have : bwF (bwN n P cs gap l) (bwT n P cs gap l) (0 + 1) = (0, bwN n P cs gap l 0, bwT n P cs gap l 0) := by rw [es, if_pos (Or.inl (by show _ < 2147483647; omega))]
      exact fin _ (IH _ _ _ (by rw [this]; exact ⟨rfl, rfl, rfl⟩))
    · rw [e3, e4, e5, if_neg (by rw [n_lt0 (by omega)]; exact id), ifc (n_lt (a := bwN n P cs gap l w) (b := (bwF (bwN n P cs gap l) (bwT n P cs gap l) w).2.1) (by omega) (by omega)), ifc (n_ne (a := bwN n P cs gap l w) (b := (bwF (bwN n P cs gap l) (bwT n P cs gap l) w).2.1) (by omega) (by omega)), ifc (n_le (a := (bwF (bwN n P cs gap l) (bwT n P cs gap l) w).2.2) (b := bwT n P cs gap l w) (by omega) (by omega))]
      by_cases c1 : bwN n P cs gap l w < (bwF (bwN n P cs gap l) (bwT n P cs gap l) w).2.1
      · rw [if_pos c1]
        rw [if_pos (Or.inl c1)] at es
        exact fin _ (IH _ _ _ (by rw [es]; exact ⟨rfl, rfl, rfl⟩))
      · rw [if_neg c1]
        by_cases c2 : bwN n P cs gap l w = (bwF (bwN n P cs gap l) (bwT n P cs gap l) w).2.1
        · rw [if_neg (fun q => q c2)]
          by_cases c3 : (bwF (bwN n P cs gap l) (bwT n P cs gap l) w).2.2 ≤ bwT n P cs gap l w
          · rw [if_pos c3]
            rw [if_neg (by omega)] at es
            exact fin _ (IH _ _ _ (by rw [es]; exact ⟨rfl, rfl, rfl⟩))
          · rw [if_neg c3]
            rw [if_pos (Or.inr ⟨c2, by omega⟩)] at es
            exact fin _ (IH _ _ _ (by rw [es]; exact ⟨rfl, rfl, rfl⟩))
        · rw [if_pos c2]
          rw [if_neg (by omega)] at es
          exact fin _ (IH _ _ _ (by rw [es]; exact ⟨rfl, rfl, rfl⟩))
theorem q_bestWay (sc : zSc) {n : Nat} {P : Nat → Nat → Nat} {cs : List Int32} {gap ver : Nat} {S : zS} (hC : zCE n P cs gap ver S) (hM : zME n P cs gap none S) (a1 a2 : Int32) :
    zQ n P cs gap ver (zcI sc zm_X10_bestWay [.ref 0, .int a1, .int a2] S) (fun S => zcI sc zm_X11_bestWay [.ref 51, .int a1, .int a2] S) S := by
  have hn := hC.1.2.1
  have hr := hC.2.1
  by_cases h1 : rg a1 9
  case neg =>
    refine ⟨-1, S, S, ?_, ?_, hC, zfr_refl _ _, zfr_refl _ _⟩
    · rw [c_X10_bestWay]; rw [s_isLesson, Option.bind_some]; (try dsimp only); rw [zb_f h1]; exact if_pos rfl
    · show zcI sc zm_X11_bestWay [.ref 51, .int a1, .int a2] S = _
      rw [c_X11_bestWay]; rw [m_isLesson', Option.bind_some]; (try dsimp only); rw [zb_f h1]; exact if_pos rfl
  by_cases h2 : rg a2 2
  case neg =>
    refine ⟨-1, S, S, ?_, ?_, hC, zfr_refl _ _, zfr_refl _ _⟩
    · rw [c_X10_bestWay]; rw [s_isLesson, Option.bind_some]; (try dsimp only); rw [zb_t h1]; rw [if_neg (show ¬ ((1 : Int32) = 0) by decide)]; rw [s_w2, Option.bind_some]; (try dsimp only); rw [zb_f h2]; exact if_neg (fun q => q rfl)
    · show zcI sc zm_X11_bestWay [.ref 51, .int a1, .int a2] S = _
      rw [c_X11_bestWay]; rw [m_isLesson', Option.bind_some]; (try dsimp only); rw [zb_t h1]; rw [if_neg (show ¬ ((1 : Int32) = 0) by decide)]; rw [m_w2, Option.bind_some]; (try dsimp only); rw [zb_f h2]; exact if_neg (fun q => q rfl)
  obtain ⟨l, rfl, hl⟩ := rg_n h1
  obtain ⟨S1, b1, b2, b3⟩ := c_bestWay_go sc (show l < 10 by omega) a2 3 0 S none (by omega) hC
  obtain ⟨S2, d1, d2⟩ := m_bestWay_go sc hr (show l < 10 by omega) a2 3 0 S1 0 (-1) 0 none (by omega) (zME_C hM b3) (Or.inl ⟨rfl, rfl⟩)
  refine ⟨if a2 ≠ 0 then (if a2 ≠ 1 then nI (bwF (bwN n P cs gap l) (bwT n P cs gap l) 3).2.2 else nI (bwF (bwN n P cs gap l) (bwT n P cs gap l) 3).2.1) else nI (bwF (bwN n P cs gap l) (bwT n P cs gap l) 3).1, S1, S2, ?_, ?_, b2, b3, d2⟩
  · rw [c_X10_bestWay]; rw [s_isLesson, Option.bind_some]; (try dsimp only); rw [zb_t h1]; rw [if_neg (show ¬ ((1 : Int32) = 0) by decide)]; rw [s_w2, Option.bind_some]; (try dsimp only); rw [zb_t h2]; rw [if_pos (show (1 : Int32) ≠ 0 by decide)]
    have b1' : zcI sc zm_X8_wayWithFewest [.ref 20, .int (nI l), .int a2] S = some (if a2 ≠ 0 then (if a2 ≠ 1 then nI (bwF (bwN n P cs gap l) (bwT n P cs gap l) 3).2.2 else nI (bwF (bwN n P cs gap l) (bwT n P cs gap l) 3).2.1) else nI (bwF (bwN n P cs gap l) (bwT n P cs gap l) 3).1, S1) := (c_X8_wayWithFewest sc S (nI l) a2).trans b1
    rw [b1', Option.bind_some]
  · (try dsimp only); rw [c_X11_bestWay]; rw [m_isLesson', Option.bind_some]; (try dsimp only); rw [zb_t h1]; rw [if_neg (show ¬ ((1 : Int32) = 0) by decide)]; rw [m_w2, Option.bind_some]; (try dsimp only); rw [zb_t h2]; rw [if_pos (show (1 : Int32) ≠ 0 by decide)]
    exact d1
