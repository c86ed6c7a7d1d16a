/-! ===== more questions ===== -/
theorem c_isThere (sc : zSc) {S : zS} {he : Nat} {p lp t : Nat} (h11 : S.1 12 11 = nI he) (hhe : he < 256) (hp : p < 8) (h16 : S.1 16 p = nI lp) (hl : lp ≤ 999) (ht : t < 2147483648) :
    zcI sc zm_X0_isThere [.ref 12, .int (nI p), .int (nI t)] S = some (zb ((he.testBit p && decide (lp ≤ t)) = true), S) := by
  rw [c_X0_isThere, h11, s_holds sc S hhe hp, Option.bind_some]
  dsimp only
  by_cases c : he.testBit p = true
  · rw [zb_t c, if_neg (by decide), if_neg (by first | (rw [n_ob (by omega)]; omega) | (rw [n_obb (by omega)]; omega)), n_cl (by omega), h16, ifc (n_lt (a := t) (b := lp) ht (by omega))]
    by_cases d : t < lp
    · rw [if_pos d, zb_f (by simp [c]; omega)]
    · rw [if_neg d, zb_t (by simp [c]; omega)]
  · rw [zb_f c, if_pos rfl, zb_f (by simp [c])]
theorem cnt_s (P : Nat → Bool) (m : Nat) : cnt P (m + 1) = cnt P m + (if P m = true then 1 else 0) := rfl
theorem q_heads (sc : zSc) {n : Nat} {P : Nat → Nat → Nat} {cs : List Int32} {gap ver : Nat} {S : zS} (hC : zCE n P cs gap ver S) (hM : zME n P cs gap none S) (a1 a2 : Int32) :
    zQ n P cs gap ver (zcI sc zm_X10_heads [.ref 0, .int a1, .int a2] S) (fun S => zcI sc zm_X11_heads [.ref 51, .int a1, .int a2] S) S := by
  have hn := hC.1.2.1
  have hr := hC.2.1
  by_cases h1 : rg a1 9
  case neg =>
    refine ⟨-1, S, S, ?_, ?_, hC, zfr_refl _ _, zfr_refl _ _⟩
    · rw [c_X10_heads]; rw [s_isLesson, Option.bind_some]; (try dsimp only); rw [zb_f h1]; exact if_pos rfl
    · show zcI sc zm_X11_heads [.ref 51, .int a1, .int a2] S = _
      rw [c_X11_heads]; rw [m_isLesson', Option.bind_some]; (try dsimp only); rw [zb_f h1]; exact if_pos rfl
  by_cases h2 : rg a2 9999
  case neg =>
    refine ⟨-1, S, S, ?_, ?_, hC, zfr_refl _ _, zfr_refl _ _⟩
    · rw [c_X10_heads]; rw [s_isLesson, Option.bind_some]; (try dsimp only); rw [zb_t h1]; rw [if_neg (show ¬ ((1 : Int32) = 0) by decide)]; rw [s_w9999, Option.bind_some]; (try dsimp only); rw [zb_f h2]; exact if_neg (fun q => q rfl)
    · show zcI sc zm_X11_heads [.ref 51, .int a1, .int a2] S = _
      rw [c_X11_heads]; rw [m_isLesson', Option.bind_some]; (try dsimp only); rw [zb_t h1]; rw [if_neg (show ¬ ((1 : Int32) = 0) by decide)]; rw [m_w9999, Option.bind_some]; (try dsimp only); rw [zb_f h2]; exact if_neg (fun q => q rfl)
  obtain ⟨l, rfl, hl⟩ := rg_n h1
  obtain ⟨t, rfl, ht⟩ := rg_n h2
  obtain ⟨S1, b1, b2, b3, b4⟩ := s_inLesson sc hC.1 hr (show l < 10 by omega)
  have f1 : zfr zkC S S1 := zfr_up _ _ b4 rfl
  have hC1 : zCE n P cs gap ver S1 := zCE_cg hC (zfr_up _ _ b4 rfl)
  have hM1 := zME_C hM f1
  have goC : ∀ (k p : Nat), p + k = n → zO zgI sc (zg1, (zm_X0_howManyThere, 3), 4, S1, [some (.ref 12), some (.int (nI t)), some (.int (nI (cnt (fun p => thM none P l p t) p))), some (.int (nI p))], []) = some (nI (cnt (fun p => thM none P l p t) n), S1) := by
    intro k
    induction k with
    | zero =>
      intro p hp
      have : p = n := by omega
      subst this
      rw [e_X0_howManyThere_4, hC1.1.1, if_pos (by rw [n_le (by omega) (by omega)]; omega)]
    | succ k ih =>
      intro p hp
      have IH := ih (p + 1) (by omega)
      have e := th_lesson (n := n) (zQP_rfl P) l p (by omega) t
      have hl7 := (hr p (by omega)).2.2.2.2.2.2.2.2
      rw [cnt_s] at IH
      rw [e_X0_howManyThere_4, hC1.1.1, if_neg (by rw [n_le (by omega) (by omega)]; omega), c_isThere sc b2 (hmk_lt _ n hn) (by omega) (b3 p (by omega)) hl7 (by omega), Option.bind_some]
      dsimp only
      have e' : ((hmk (yhf P l) n).testBit p && decide (P p 7 ≤ t)) = thM none P l p t := e
      rw [e', n_s1, n_s1]
      by_cases c : thM none P l p t = true
      · rw [if_pos c] at IH
        rw [zb_t c, if_neg (by decide)]; exact IH
      · rw [if_neg c] at IH
        rw [zb_f c, if_pos rfl]; exact IH
  have goM : ∀ (k p : Nat), p + k = n → zO zgI sc (zg1, (zm_X11_heads, 4), 27, S1, [some (.ref 51), some (.int (nI l)), some (.int (nI t)), some (.int (nI (cnt (fun p => thM none P l p t) p))), some (.int (nI p))], []) = some (nI (cnt (fun p => thM none P l p t) n), S1) := by
    intro k
    induction k with
    | zero =>
      intro p hp
      have : p = n := by omega
      subst this
      rw [e_X11_heads_27, hM1.1.1, if_pos (by rw [n_le (by omega) (by omega)]; omega)]
    | succ k ih =>
      intro p hp
      have IH := ih (p + 1) (by omega)
      rw [cnt_s] at IH
      rw [e_X11_heads_27, hM1.1.1, if_neg (by rw [n_le (by omega) (by omega)]; omega), m_isThere sc hM1.1 hr hM1.2.2.2 (by omega) (by omega) (by omega), Option.bind_some]
      dsimp only
      have z0 : nI (cnt (fun p => thM none P l p t) p) + (0 : Int32) = nI (cnt (fun p => thM none P l p t) p) := zn_add _ 0
      rw [n_s1, n_s1, z0]
      by_cases c : thM none P l p t = true
      · rw [if_pos c] at IH
        rw [zb_t c, if_neg (by decide)]; exact IH
      · rw [if_neg c] at IH
        rw [zb_f c, if_pos rfl]; exact IH
  refine ⟨nI (cnt (fun p => thM none P l p t) n), S1, S1, ?_, ?_, hC1, f1, zfr_refl _ _⟩
  · rw [c_X10_heads]; rw [s_isLesson, Option.bind_some]; (try dsimp only); rw [zb_t h1]; rw [if_neg (show ¬ ((1 : Int32) = 0) by decide)]; rw [s_w9999, Option.bind_some]; (try dsimp only); rw [zb_t h2]; rw [if_pos (show (1 : Int32) ≠ 0 by decide)]
    have := goC n 0 (by omega)
    rw [b1, Option.bind_some, c_X0_howManyThere]
    have e2 : zO zgI sc (zg1, (zm_X0_howManyThere, 3), 4, S1, [some (.ref 12), some (.int (nI t)), some (.int (0 : Int32)), some (.int (0 : Int32))], []) = some (nI (cnt (fun p => thM none P l p t) n), S1) := this
    rw [e2, Option.bind_some]
  · (try dsimp only); rw [c_X11_heads]; rw [m_isLesson', Option.bind_some]; (try dsimp only); rw [zb_t h1]; rw [if_neg (show ¬ ((1 : Int32) = 0) by decide)]; rw [m_w9999, Option.bind_some]; (try dsimp only); rw [zb_t h2]; rw [if_pos (show (1 : Int32) ≠ 0 by decide)]
    exact goM n 0 (by omega)
theorem m_orderAt' (sc : zSc) {n : Nat} {P : Nat → Nat → Nat} {S : zS} (h : zPM n P S) (hr : zPR n P) {way : Nat} (hw : way < 3) {j : Nat} (hj : j < 2147483648) :
    zcI sc zm_X11_orderAt [.ref 51, .int (nI way), .int (nI j)] S = some (if j < n then nI (zowy P n way j) else -2, S) := m_orderAt sc h hr hw hj
theorem q_order (sc : zSc) {n : Nat} {P : Nat → Nat → Nat} {cs : List Int32} {gap ver : Nat} {S : zS} (hC : zCE n P cs gap ver S) (hM : zME n P cs gap none S) (a1 a2 : Int32) :
    zQ n P cs gap ver (zcI sc zm_X10_order [.ref 0, .int a1, .int a2] S) (fun S => zcI sc zm_X11_order [.ref 51, .int a1, .int a2] S) S := by
  have hn := hC.1.2.1
  have hr := hC.2.1
  by_cases h1 : rg a1 2
  case neg =>
    refine ⟨-1, S, S, ?_, ?_, hC, zfr_refl _ _, zfr_refl _ _⟩
    · rw [c_X10_order]; rw [s_isWay, Option.bind_some]; (try dsimp only); rw [zb_f h1]; exact if_pos rfl
    · show zcI sc zm_X11_order [.ref 51, .int a1, .int a2] S = _
      rw [c_X11_order]; rw [m_isWay', Option.bind_some]; (try dsimp only); rw [zb_f h1]; exact if_pos rfl
  obtain ⟨w, rfl, hw⟩ := rg_n h1
  by_cases h0 : 0 ≤ a2
  case neg =>
    refine ⟨-1, S, S, ?_, ?_, hC, zfr_refl _ _, zfr_refl _ _⟩
    · rw [c_X10_order]; rw [s_isWay, Option.bind_some]; (try dsimp only); rw [zb_t h1]; rw [if_neg (show ¬ ((1 : Int32) = 0) by decide)]
      exact if_neg h0
    · (try dsimp only); rw [c_X11_order]; rw [m_isWay', Option.bind_some]; (try dsimp only); rw [zb_t h1]; rw [if_neg (show ¬ ((1 : Int32) = 0) by decide)]
      exact if_neg h0
  have h0' : 0 ≤ a2.toInt := by rw [zi_le, show (0 : Int32).toInt = 0 from rfl] at h0; exact h0
  obtain ⟨j, hj, rfl⟩ := zi_of h0'
  by_cases hjn : j < n
  · obtain ⟨S1, a1, a2, a3⟩ := c_load sc hC (show w < 3 by omega)
    have hM1 := zME_C hM a3
    refine ⟨nI (zowy P n w j), S1, S1, ?_, ?_, a2.1, a3, zfr_refl _ _⟩
    · rw [c_X10_order]; rw [s_isWay, Option.bind_some]; (try dsimp only); rw [zb_t h1]; rw [if_neg (show ¬ ((1 : Int32) = 0) by decide)]
      rw [if_pos h0, hC.1.1, if_pos (by rw [n_lt hj (by omega)]; exact hjn), a1, Option.bind_some, if_neg (by first | (rw [n_ob (by omega)]; omega) | (rw [n_obb (by omega)]; omega)), n_cl hj, (a2.2.2.2.2.2.2 j hjn).2.2]
    · (try dsimp only); rw [c_X11_order]; rw [m_isWay', Option.bind_some]; (try dsimp only); rw [zb_t h1]; rw [if_neg (show ¬ ((1 : Int32) = 0) by decide)]
      rw [if_pos h0, m_orderAt sc hM1.1 hr (by omega) hj, Option.bind_some, if_pos hjn]
  · refine ⟨-2, S, S, ?_, ?_, hC, zfr_refl _ _, zfr_refl _ _⟩
    · rw [c_X10_order]; rw [s_isWay, Option.bind_some]; (try dsimp only); rw [zb_t h1]; rw [if_neg (show ¬ ((1 : Int32) = 0) by decide)]
      rw [if_pos h0, hC.1.1, if_neg (by rw [n_lt hj (by omega)]; exact hjn)]
    · (try dsimp only); rw [c_X11_order]; rw [m_isWay', Option.bind_some]; (try dsimp only); rw [zb_t h1]; rw [if_neg (show ¬ ((1 : Int32) = 0) by decide)]
      rw [if_pos h0, m_orderAt sc hM.1 hr (by omega) hj, Option.bind_some, if_neg hjn]
theorem q_fire (sc : zSc) {n : Nat} {P : Nat → Nat → Nat} {cs : List Int32} {gap ver : Nat} {S : zS} (hC : zCE n P cs gap ver S) (hM : zME n P cs gap none S) (a1 a2 : Int32) :
    zQ n P cs gap ver (zcI sc zm_X10_fire [.ref 0, .int a1, .int a2] S) (fun S => zcI sc zm_X11_fire [.ref 51, .int a1, .int a2] S) S := by
  have hn := hC.1.2.1
  have hr := hC.2.1
  by_cases h1 : rg a1 9
  case neg =>
    refine ⟨-1, S, S, ?_, ?_, hC, zfr_refl _ _, zfr_refl _ _⟩
    · rw [c_X10_fire]; rw [s_isLesson, Option.bind_some]; (try dsimp only); rw [zb_f h1]; exact if_pos rfl
    · show zcI sc zm_X11_fire [.ref 51, .int a1, .int a2] S = _
      rw [c_X11_fire]; rw [m_isLesson', Option.bind_some]; (try dsimp only); rw [zb_f h1]; exact if_pos rfl
  by_cases h2 : rg a2 1
  case neg =>
    refine ⟨-1, S, S, ?_, ?_, hC, zfr_refl _ _, zfr_refl _ _⟩
    · rw [c_X10_fire]; rw [s_isLesson, Option.bind_some]; (try dsimp only); rw [zb_t h1]; rw [if_neg (show ¬ ((1 : Int32) = 0) by decide)]; rw [s_w1, Option.bind_some]; (try dsimp only); rw [zb_f h2]; exact if_neg (fun q => q rfl)
    · show zcI sc zm_X11_fire [.ref 51, .int a1, .int a2] S = _
      rw [c_X11_fire]; rw [m_isLesson', Option.bind_some]; (try dsimp only); rw [zb_t h1]; rw [if_neg (show ¬ ((1 : Int32) = 0) by decide)]; rw [m_w1, Option.bind_some]; (try dsimp only); rw [zb_f h2]; exact if_neg (fun q => q rfl)
  obtain ⟨l, rfl, hl⟩ := rg_n h1
  have hg := kcm_good (P := P) (cs := cs) (gap := gap) (o := none) (l := l) (way := 1) (lk := 0) hn
  obtain ⟨S1, b1, b2, b3, b4, b5⟩ := c_byWay sc hC (show l < 10 by omega) (show 1 < 3 by omega) (lk := 0) (by omega)
  obtain ⟨S2, d1, d2, d3, d4⟩ := m_run sc (zME_C hM b5) hr (show l < 10 by omega) (show 1 < 3 by omega) (lk := 0) (by omega)
  have hh := hmk_lt (yhf P l) n hn
  have b1' : zcV sc zm_X0_inLessonByWay [.ref 12, .int (nI l), .int (1 : Int32), .int (0 : Int32)] S = some S1 := b1
  have d1' : zcV sc zm_X11_calls [.ref 51, .int (nI l), .int (1 : Int32), .int (0 : Int32)] S1 = some S2 := d1
  have go : ∀ (k p : Nat), p + k = n → zO zgI sc (zg1, (zm_X11_fire, 66), 32, S2, [some (.ref 51), some (.int (nI l)), some (.int a2), some (.int (nI (hmk (yhf P l) p))), some (.int (nI p))], []) = some (if a2 ≠ 0 then nI (hmk (yhf P l) n &&& (255 - kcm n P cs gap none l 1 0 n 3 0)) else nI (kcm n P cs gap none l 1 0 n 3 0 &&& (255 - hmk (yhf P l) n)), S2) := by
    intro k
    induction k with
    | zero =>
      intro p hp
      have : p = n := by omega
      subst this
      rw [e_X11_fire_32, d4.1.1, if_pos (by rw [n_le (by omega) (by omega)]; omega), d2.2.1, n_andnot hh hg.1, n_andnot hg.1 hh, sif]
    | succ k ih =>
      intro p hp
      have IH := ih (p + 1) (by omega)
      have es : hmk (yhf P l) (p + 1) = if yhf P l p = true then hmk (yhf P l) p ||| 2 ^ p else hmk (yhf P l) p := rfl
      rw [e_X11_fire_32, d4.1.1, if_neg (by rw [n_le (by omega) (by omega)]; omega), m_isHere sc d4.1 hr (by omega) (by omega), Option.bind_some]
      dsimp only
      have z0 : nI (hmk (yhf P l) p) ||| (0 : Int32) = nI (hmk (yhf P l) p) := by rw [show (0 : Int32) = nI 0 from rfl, n_or, Nat.or_zero]
      rw [n_s1, n_sh (by omega), n_or, z0]
      by_cases c : yhf P l p = true
      · rw [if_pos c] at es
        rw [es] at IH
        rw [zb_t c, if_neg (by decide)]; exact IH
      · rw [if_neg c] at es
        rw [es] at IH
        rw [zb_f c, if_pos rfl]; exact IH
  refine ⟨if a2 ≠ 0 then nI (hmk (yhf P l) n &&& (255 - kcm n P cs gap none l 1 0 n 3 0)) else nI (kcm n P cs gap none l 1 0 n 3 0 &&& (255 - hmk (yhf P l) n)), S1, S2, ?_, ?_, b3.1, b5, zfr_up _ _ d3 rfl⟩
  · rw [c_X10_fire]; rw [s_isLesson, Option.bind_some]; (try dsimp only); rw [zb_t h1]; rw [if_neg (show ¬ ((1 : Int32) = 0) by decide)]; rw [s_w1, Option.bind_some]; (try dsimp only); rw [zb_t h2]; rw [if_pos (show (1 : Int32) ≠ 0 by decide)]
    rw [b1', Option.bind_some, s_missed sc b4 b2.1 hh hg.1, Option.bind_some, b4, b2.1, n_andnot hg.1 hh, sif]
  · (try dsimp only); rw [c_X11_fire]; rw [m_isLesson', Option.bind_some]; (try dsimp only); rw [zb_t h1]; rw [if_neg (show ¬ ((1 : Int32) = 0) by decide)]; rw [m_w1, Option.bind_some]; (try dsimp only); rw [zb_t h2]; rw [if_pos (show (1 : Int32) ≠ 0 by decide)]
    rw [d1', Option.bind_some]
    exact go n 0 (by omega)
def smF (F : Nat → Nat) : Nat → Nat
  | 0 => 0
  | m + 1 => smF F m + F m
theorem c_day_go (sc : zSc) {n : Nat} {P : Nat → Nat → Nat} {cs : List Int32} {gap ver w d : Nat} (hd : d ≤ 10) (b : Bool) (x2 : Int32) : ∀ (k l : Nat) (S : zS), l + k = d → zRY n w P P cs gap ver S →
    ∃ S', zO zgI sc (zg1, (zm_X8_wholeDay, 7), 14, S, [some (.ref 20), some (.int (nI d)), some (.int x2), some (.int (zb (b = true))), some (.int (nI (smF (fun l => if b = true then pcn (kcm n P cs gap none l w 0 n 3 1) else kcm n P cs gap none l w 0 n 3 4) l))), some (.int (nI l))], [])
      = some (nI (smF (fun l => if b = true then pcn (kcm n P cs gap none l w 0 n 3 1) else kcm n P cs gap none l w 0 n 3 4) d), S') ∧ zCE n P cs gap ver S' ∧ zfr zkC S S'
  | 0, l, S, hl, hC => by
    have : l = d := by omega
    subst this
    refine ⟨S, ?_, hC.1, zfr_refl _ _⟩
    rw [e_X8_wholeDay_14, if_pos (by rw [n_le (by omega) (by omega)]; omega)]
  | k + 1, l, S, hl, hC => by
    have hn := hC.1.1.2.1
    have hg := kcm_good (P := P) (cs := cs) (gap := gap) (o := none) (l := l) (way := w) (lk := 0) hn
    obtain ⟨S2, b1, b2, b3, b4, b5⟩ := c_inLesson sc hC (show l < 10 by omega)
    obtain ⟨S3, d1, d2, d3, d4, d5, d6, _⟩ := c_makeL sc b2 b3 b4 (lk := 0) (by omega)
    have d1' : zcV sc zm_X0_make [.ref 12, .int (0 : Int32)] S2 = some S3 := d1
    obtain ⟨S', g1, g2, g3⟩ := c_day_go sc (d := d) hd b x2 k (l + 1) S3 (by omega) d3
    refine ⟨S', ?_, g2, zfr_tr b5 (zfr_tr d6 g3)⟩
    rw [e_X8_wholeDay_14, if_neg (by rw [n_le (by omega) (by omega)]; omega), b1, Option.bind_some, d1', Option.bind_some, d2.2.1, s_bitCount sc S3 hg.2.1, Option.bind_some, d2.2.2.2.2.1, n_s1]
    dsimp only
    rw [zn_add, zn_add]
    cases b with
    | true => rw [if_neg (by decide)]; exact g1
    | false => rw [if_pos (by decide)]; exact g1
theorem m_day_go (sc : zSc) {n : Nat} {P : Nat → Nat → Nat} {cs : List Int32} {gap w d : Nat} (hr : zPR n P) (hw : w < 3) (hd : d ≤ 10) (x3 : Int32) : ∀ (k l : Nat) (S : zS), l + k = d → zME n P cs gap none S →
    ∃ S', zO zgI sc (zg1, (zm_X11_day, 66), 42, S, [some (.ref 51), some (.int (nI d)), some (.int (nI w)), some (.int x3), some (.int (nI (smF (fun l => kcm n P cs gap none l w 0 n 3 4) l))), some (.int (nI (smF (fun l => pcn (kcm n P cs gap none l w 0 n 3 1)) l))), some (.int (nI l))], [])
      = some (if x3 ≠ 0 then (if x3 ≠ 1 then (nI d * nI n) * S.1 52 65 else nI (smF (fun l => pcn (kcm n P cs gap none l w 0 n 3 1)) d)) else nI (smF (fun l => kcm n P cs gap none l w 0 n 3 4) d), S') ∧ zfr zkMq S S'
  | 0, l, S, hl, hM => by
    have : l = d := by omega
    subst this
    refine ⟨S, ?_, zfr_refl _ _⟩
    rw [e_X11_day_42, if_pos (by rw [n_le (by omega) (by omega)]; omega), hM.1.1, sif, sif]
  | k + 1, l, S, hl, hM => by
    have hn := hM.1.2.1
    have hg := kcm_good (P := P) (cs := cs) (gap := gap) (o := none) (l := l) (way := w) (lk := 0) hn
    obtain ⟨S1, a1, a2, a3, a4⟩ := m_run sc hM hr (show l < 10 by omega) hw (lk := 0) (by omega)
    have a1' : zcV sc zm_X11_calls [.ref 51, .int (nI l), .int (nI w), .int (0 : Int32)] S = some S1 := a1
    obtain ⟨S', g1, g2⟩ := m_day_go sc (d := d) hr hw hd x3 k (l + 1) S1 (by omega) a4
    refine ⟨S', ?_, zfr_tr (zfr_up _ _ a3 rfl) g2⟩
    rw [e_X11_day_42, if_neg (by rw [n_le (by omega) (by omega)]; omega), a1', Option.bind_some, a2.2.2.1, m_bitsOf sc S1 hg.2.1, Option.bind_some, a2.2.2.2.2.2, n_s1]
    dsimp only
    rw [zn_add, zn_add, ← a3.1 52 65 rfl]
    exact g1
theorem q_day (sc : zSc) {n : Nat} {P : Nat → Nat → Nat} {cs : List Int32} {gap ver : Nat} {S : zS} (hC : zCE n P cs gap ver S) (hM : zME n P cs gap none S) (hcn : S.1 2 65 = S.1 52 65) (a1 a2 a3 : Int32) :
    zQ n P cs gap ver (zcI sc zm_X10_day [.ref 0, .int a1, .int a2, .int a3] S) (fun S => zcI sc zm_X11_day [.ref 51, .int a1, .int a2, .int a3] S) S := by
  have hn := hC.1.2.1
  have hr := hC.2.1
  by_cases h1 : rg a1 10
  case neg =>
    refine ⟨-1, S, S, ?_, ?_, hC, zfr_refl _ _, zfr_refl _ _⟩
    · rw [c_X10_day]; rw [s_w10, Option.bind_some]; (try dsimp only); rw [zb_f h1]; exact if_pos rfl
    · show zcI sc zm_X11_day [.ref 51, .int a1, .int a2, .int a3] S = _
      rw [c_X11_day]; rw [m_w10, Option.bind_some]; (try dsimp only); rw [zb_f h1]; exact if_pos rfl
  by_cases h2 : rg a2 2
  case neg =>
    refine ⟨-1, S, S, ?_, ?_, hC, zfr_refl _ _, zfr_refl _ _⟩
    · rw [c_X10_day]; rw [s_w10, Option.bind_some]; (try dsimp only); rw [zb_t h1]; rw [if_neg (show ¬ ((1 : Int32) = 0) by decide)]; rw [s_isWay, Option.bind_some]; (try dsimp only); rw [zb_f h2]; exact if_pos rfl
    · show zcI sc zm_X11_day [.ref 51, .int a1, .int a2, .int a3] S = _
      rw [c_X11_day]; rw [m_w10, Option.bind_some]; (try dsimp only); rw [zb_t h1]; rw [if_neg (show ¬ ((1 : Int32) = 0) by decide)]; rw [m_isWay', Option.bind_some]; (try dsimp only); rw [zb_f h2]; exact if_pos rfl
  by_cases h3 : rg a3 2
  case neg =>
    refine ⟨-1, S, S, ?_, ?_, hC, zfr_refl _ _, zfr_refl _ _⟩
    · rw [c_X10_day]; rw [s_w10, Option.bind_some]; (try dsimp only); rw [zb_t h1]; rw [if_neg (show ¬ ((1 : Int32) = 0) by decide)]; rw [s_isWay, Option.bind_some]; (try dsimp only); rw [zb_t h2]; rw [if_neg (show ¬ ((1 : Int32) = 0) by decide)]; rw [s_w2, Option.bind_some]; (try dsimp only); rw [zb_f h3]; exact if_neg (fun q => q rfl)
    · show zcI sc zm_X11_day [.ref 51, .int a1, .int a2, .int a3] S = _
      rw [c_X11_day]; rw [m_w10, Option.bind_some]; (try dsimp only); rw [zb_t h1]; rw [if_neg (show ¬ ((1 : Int32) = 0) by decide)]; rw [m_isWay', Option.bind_some]; (try dsimp only); rw [zb_t h2]; rw [if_neg (show ¬ ((1 : Int32) = 0) by decide)]; rw [m_w2, Option.bind_some]; (try dsimp only); rw [zb_f h3]; exact if_neg (fun q => q rfl)
  obtain ⟨d, rfl, hd⟩ := rg_n h1
  obtain ⟨w, rfl, hw⟩ := rg_n h2
  by_cases c2 : a3 = 2
  · obtain ⟨S2, g1, g2⟩ := m_day_go sc (d := d) (w := w) hr (by omega) (by omega) a3 d 0 S (by omega) hM
    refine ⟨(nI d * nI n) * S.1 52 65, S, S2, ?_, ?_, hC, zfr_refl _ _, g2⟩
    · rw [c_X10_day]; rw [s_w10, Option.bind_some]; (try dsimp only); rw [zb_t h1]; rw [if_neg (show ¬ ((1 : Int32) = 0) by decide)]; rw [s_isWay, Option.bind_some]; (try dsimp only); rw [zb_t h2]; rw [if_neg (show ¬ ((1 : Int32) = 0) by decide)]; rw [s_w2, Option.bind_some]; (try dsimp only); rw [zb_t h3]; rw [if_pos (show (1 : Int32) ≠ 0 by decide)]
      rw [if_neg (fun q => q c2), s_get9 sc (zPC_sz hC.1), Option.bind_some, hC.1.1, hcn]
    · (try dsimp only); rw [c_X11_day]; rw [m_w10, Option.bind_some]; (try dsimp only); rw [zb_t h1]; rw [if_neg (show ¬ ((1 : Int32) = 0) by decide)]; rw [m_isWay', Option.bind_some]; (try dsimp only); rw [zb_t h2]; rw [if_neg (show ¬ ((1 : Int32) = 0) by decide)]; rw [m_w2, Option.bind_some]; (try dsimp only); rw [zb_t h3]; rw [if_pos (show (1 : Int32) ≠ 0 by decide)]
      refine Eq.trans g1 ?_
      rw [if_pos (by rw [c2]; decide), if_pos (by rw [c2]; decide)]
  · obtain ⟨S1, b1, b2, b3⟩ := c_load sc hC (show w < 3 by omega)
    by_cases c1 : a3 = 1
    · obtain ⟨S2, e1, e2, e3⟩ := c_day_go sc (d := d) (by omega) true (nI w) d 0 S1 (by omega) b2
      obtain ⟨S3, g1, g2⟩ := m_day_go sc (d := d) (w := w) hr (by omega) (by omega) a3 d 0 S2 (by omega) (zME_C hM (zfr_tr b3 e3))
      refine ⟨nI (smF (fun l => pcn (kcm n P cs gap none l w 0 n 3 1)) d), S2, S3, ?_, ?_, e2, zfr_tr b3 e3, g2⟩
      · rw [c_X10_day]; rw [s_w10, Option.bind_some]; (try dsimp only); rw [zb_t h1]; rw [if_neg (show ¬ ((1 : Int32) = 0) by decide)]; rw [s_isWay, Option.bind_some]; (try dsimp only); rw [zb_t h2]; rw [if_neg (show ¬ ((1 : Int32) = 0) by decide)]; rw [s_w2, Option.bind_some]; (try dsimp only); rw [zb_t h3]; rw [if_pos (show (1 : Int32) ≠ 0 by decide)]
        have e1' : zcI sc zm_X8_wholeDay [.ref 20, .int (nI d), .int (nI w), .int (1 : Int32)] S = some (nI (smF (fun l => pcn (kcm n P cs gap none l w 0 n 3 1)) d), S2) := by
          rw [c_X8_wholeDay, b1, Option.bind_some]; exact e1
        rw [if_pos c2, if_neg (fun q => q c1), e1', Option.bind_some]
      · (try dsimp only); rw [c_X11_day]; rw [m_w10, Option.bind_some]; (try dsimp only); rw [zb_t h1]; rw [if_neg (show ¬ ((1 : Int32) = 0) by decide)]; rw [m_isWay', Option.bind_some]; (try dsimp only); rw [zb_t h2]; rw [if_neg (show ¬ ((1 : Int32) = 0) by decide)]; rw [m_w2, Option.bind_some]; (try dsimp only); rw [zb_t h3]; rw [if_pos (show (1 : Int32) ≠ 0 by decide)]
        refine Eq.trans g1 ?_
        rw [if_pos (by rw [c1]; decide), if_neg (fun q => q c1)]
    · have c0 : a3 = 0 := by
        have := h3.1; have := h3.2
        rw [zi_eq, show (2 : Int32).toInt = 2 from rfl] at c2
        rw [zi_eq, show (1 : Int32).toInt = 1 from rfl] at c1
        rw [zi_eq, show (0 : Int32).toInt = 0 from rfl]; omega
      obtain ⟨S2, e1, e2, e3⟩ := c_day_go sc (d := d) (by omega) false (nI w) d 0 S1 (by omega) b2
      obtain ⟨S3, g1, g2⟩ := m_day_go sc (d := d) (w := w) hr (by omega) (by omega) a3 d 0 S2 (by omega) (zME_C hM (zfr_tr b3 e3))
      refine ⟨nI (smF (fun l => kcm n P cs gap none l w 0 n 3 4) d), S2, S3, ?_, ?_, e2, zfr_tr b3 e3, g2⟩
      · rw [c_X10_day]; rw [s_w10, Option.bind_some]; (try dsimp only); rw [zb_t h1]; rw [if_neg (show ¬ ((1 : Int32) = 0) by decide)]; rw [s_isWay, Option.bind_some]; (try dsimp only); rw [zb_t h2]; rw [if_neg (show ¬ ((1 : Int32) = 0) by decide)]; rw [s_w2, Option.bind_some]; (try dsimp only); rw [zb_t h3]; rw [if_pos (show (1 : Int32) ≠ 0 by decide)]
        have e1' : zcI sc zm_X8_wholeDay [.ref 20, .int (nI d), .int (nI w), .int (0 : Int32)] S = some (nI (smF (fun l => kcm n P cs gap none l w 0 n 3 4) d), S2) := by
          rw [c_X8_wholeDay, b1, Option.bind_some]; exact e1
        rw [if_pos c2, if_pos c1, e1', Option.bind_some]
      · (try dsimp only); rw [c_X11_day]; rw [m_w10, Option.bind_some]; (try dsimp only); rw [zb_t h1]; rw [if_neg (show ¬ ((1 : Int32) = 0) by decide)]; rw [m_isWay', Option.bind_some]; (try dsimp only); rw [zb_t h2]; rw [if_neg (show ¬ ((1 : Int32) = 0) by decide)]; rw [m_w2, Option.bind_some]; (try dsimp only); rw [zb_t h3]; rw [if_pos (show (1 : Int32) ≠ 0 by decide)]
        refine Eq.trans g1 ?_
        rw [if_neg (fun q => q c0)]
/-! ===== whom to look at next ===== -/
def nxF (B : Nat → Bool) (F : Nat → Nat) : Nat → Nat × Nat
  | 0 => (0, 0)
  | p + 1 => if B p = true then nxF B F p else if (nxF B F p).1 = 0 ∨ F p < (nxF B F p).2 then (p + 1, F p) else nxF B F p
def z2 (b : Nat) (v : Nat) : Int32 := if b = 0 then -2 else nI v
theorem nxF_b {B : Nat → Bool} {F : Nat → Nat} (h : ∀ p, F p ≤ 8) : ∀ p, (nxF B F p).1 ≤ p ∧ (nxF B F p).2 ≤ 8
  | 0 => ⟨Nat.le_refl _, Nat.zero_le _⟩
  | p + 1 => by
    have ih := nxF_b (B := B) h p
    have := h p
    unfold nxF
    split
    · exact ⟨by omega, ih.2⟩
    · split
      · exact ⟨Nat.le_refl _, this⟩
      · exact ⟨by omega, ih.2⟩
theorem z2_m2 {b v : Nat} (hv : v < 2147483648) : (z2 b v = -2) = (b = 0) := by
  unfold z2
  by_cases c : b = 0
  · rw [if_pos c]; exact propext ⟨fun _ => c, fun _ => rfl⟩
  · rw [if_neg c]
    refine propext ⟨fun e => ?_, fun e => absurd e c⟩
    rw [zi_eq, zi_nI hv, show (-2 : Int32).toInt = -2 from rfl] at e
    omega
theorem z2_lt {b v : Nat} (hv : v < 2147483648) : (z2 b v < 0) = (b = 0) := by
  unfold z2
  by_cases c : b = 0
  · rw [if_pos c]; exact propext ⟨fun _ => c, fun _ => by decide⟩
  · rw [if_neg c, n_lt0 hv]; exact propext ⟨False.elim, c⟩
abbrev nxN (n : Nat) (P : Nat → Nat → Nat) (cs : List Int32) (gap l w lk p : Nat) : Nat := pcn (kcm n P cs gap none l w (lk ||| 2 ^ p) n 3 1)
theorem c_next_go (sc : zSc) {n : Nat} {P : Nat → Nat → Nat} {cs : List Int32} {gap ver l w lk : Nat} (hlk : lk < 256) (x2 : Int32) : ∀ (k p : Nat) (S : zS) (o6 : Option Value), p + k = n → zRY n w P P cs gap ver S → S.1 12 11 = nI (hmk (yhf P l) n) → (∀ q, q < n → S.1 16 q = nI (P q 7)) →
    ∃ S', zO zgI sc (zg1, (zm_X8_oneMoreLook, 6), 10, S, [some (.ref 20), some (.int (nI lk)), some (.int x2), some (.int (z2 (nxF lk.testBit (nxN n P cs gap l w lk) p).1 ((nxF lk.testBit (nxN n P cs gap l w lk) p).1 - 1))), some (.int (z2 (nxF lk.testBit (nxN n P cs gap l w lk) p).1 (nxF lk.testBit (nxN n P cs gap l w lk) p).2)), some (.int (nI p)), o6], [])
      = some (if x2 ≠ 0 then z2 (nxF lk.testBit (nxN n P cs gap l w lk) n).1 (nxF lk.testBit (nxN n P cs gap l w lk) n).2 else z2 (nxF lk.testBit (nxN n P cs gap l w lk) n).1 ((nxF lk.testBit (nxN n P cs gap l w lk) n).1 - 1), S') ∧ zCE n P cs gap ver S' ∧ zfr zkC S S'
  | 0, p, S, o6, hp, hC, h11, h16 => by
    have hn := hC.1.1.2.1
    have : p = n := by omega
    subst this
    refine ⟨S, ?_, hC.1, zfr_refl _ _⟩
    rw [e_X8_oneMoreLook_10, hC.1.1.1, if_pos (by rw [n_le (by omega) (by omega)]; omega), sif]
  | k + 1, p, S, o6, hp, hC, h11, h16 => by
    have hn := hC.1.1.2.1
    have hb := nxF_b (B := lk.testBit) (F := nxN n P cs gap l w lk) (fun p => pcn_le _) p
    have hlk2 : lk ||| 2 ^ p < 256 := n_orlt hlk (n_p2 (by omega))
    have hg := kcm_good (P := P) (cs := cs) (gap := gap) (o := none) (l := l) (way := w) (lk := lk ||| 2 ^ p) hn
    have es : nxF lk.testBit (nxN n P cs gap l w lk) (p + 1) = if lk.testBit p = true then nxF lk.testBit (nxN n P cs gap l w lk) p else if (nxF lk.testBit (nxN n P cs gap l w lk) p).1 = 0 ∨ nxN n P cs gap l w lk p < (nxF lk.testBit (nxN n P cs gap l w lk) p).2 then (p + 1, nxN n P cs gap l w lk p) else nxF lk.testBit (nxN n P cs gap l w lk) p := rfl
    rw [e_X8_oneMoreLook_10, hC.1.1.1, if_neg (by rw [n_le (by omega) (by omega)]; omega), s_holds sc S hlk (by omega), Option.bind_some]
    dsimp only
    by_cases c : lk.testBit p = true
    · rw [if_pos c] at es
      obtain ⟨S', g1, g2, g3⟩ := c_next_go sc hlk x2 k (p + 1) S o6 (by omega) hC h11 h16
      rw [es] at g1
      rw [zb_t c, if_pos (by decide), n_s1]
      exact ⟨S', g1, g2, g3⟩
    · rw [if_neg c] at es
      obtain ⟨S3, d1, d2, d3, d4, d5, d6, _⟩ := c_makeL sc hC h11 h16 hlk2
      rw [zb_f c, if_neg (fun q => q rfl), n_sh (by omega), n_or, d1, Option.bind_some, d2.2.1, s_bitCount sc S3 hg.2.1, Option.bind_some, n_s1]
      dsimp only
      have fin : ∀ o6, ∃ S', zO zgI sc (zg1, (zm_X8_oneMoreLook, 6), 10, S3, [some (.ref 20), some (.int (nI lk)), some (.int x2), some (.int (z2 (nxF lk.testBit (nxN n P cs gap l w lk) (p + 1)).1 ((nxF lk.testBit (nxN n P cs gap l w lk) (p + 1)).1 - 1))), some (.int (z2 (nxF lk.testBit (nxN n P cs gap l w lk) (p + 1)).1 (nxF lk.testBit (nxN n P cs gap l w lk) (p + 1)).2)), some (.int (nI (p + 1))), o6], [])
        = some (if x2 ≠ 0 then z2 (nxF lk.testBit (nxN n P cs gap l w lk) n).1 (nxF lk.testBit (nxN n P cs gap l w lk) n).2 else z2 (nxF lk.testBit (nxN n P cs gap l w lk) n).1 ((nxF lk.testBit (nxN n P cs gap l w lk) n).1 - 1), S') ∧ zCE n P cs gap ver S' ∧ zfr zkC S S' := by
        intro o6
        obtain ⟨S', g1, g2, g3⟩ := c_next_go sc hlk x2 k (p + 1) S3 o6 (by omega) d3 d4 d5
        exact ⟨S', g1, g2, zfr_tr d6 g3⟩
      rw [ifc (z2_m2 (b := (nxF lk.testBit (nxN n P cs gap l w lk) p).1) (v := (nxF lk.testBit (nxN n P cs gap l w lk) p).1 - 1) (by omega))]
      have hN : nxN n P cs gap l w lk p ≤ 8 := pcn_le _
      have znew : z2 (p + 1) p = nI p := if_neg (by omega)
      have znew2 : z2 (p + 1) (nxN n P cs gap l w lk p) = nI (nxN n P cs gap l w lk p) := if_neg (by omega)
      by_cases c0 : (nxF lk.testBit (nxN n P cs gap l w lk) p).1 = 0
      · rw [if_pos (Or.inl c0)] at es
        rw [es] at fin
        rw [if_pos c0]
        have := fin (some (.int (nI (nxN n P cs gap l w lk p))))
        rw [show (p + 1, nxN n P cs gap l w lk p).1 - 1 = p from rfl] at this
        dsimp only at this
        rw [znew, znew2] at this
        exact this
      · have e2 : z2 (nxF lk.testBit (nxN n P cs gap l w lk) p).1 (nxF lk.testBit (nxN n P cs gap l w lk) p).2 = nI (nxF lk.testBit (nxN n P cs gap l w lk) p).2 := if_neg c0
        rw [if_neg c0]
        have e3 : (z2 (nxF lk.testBit (nxN n P cs gap l w lk) p).1 (nxF lk.testBit (nxN n P cs gap l w lk) p).2 ≤ nI (nxN n P cs gap l w lk p)) = ((nxF lk.testBit (nxN n P cs gap l w lk) p).2 ≤ nxN n P cs gap l w lk p) := by rw [e2, n_le (by omega) (by omega)]
        rw [ifc e3]
        by_cases c1 : (nxF lk.testBit (nxN n P cs gap l w lk) p).2 ≤ nxN n P cs gap l w lk p
        · rw [if_neg (by omega)] at es
          rw [es] at fin
          rw [if_pos c1]
          exact fin _
        · rw [if_pos (Or.inr (by omega))] at es
          rw [es] at fin
          rw [if_neg c1]
          have := fin (some (.int (nI (nxN n P cs gap l w lk p))))
          rw [show (p + 1, nxN n P cs gap l w lk p).1 - 1 = p from rfl] at this
          dsimp only at this
          rw [znew, znew2] at this
          exact this
theorem m_next_go (sc : zSc) {n : Nat} {P : Nat → Nat → Nat} {cs : List Int32} {gap l w lk : Nat} (hr : zPR n P) (hl : l < 10) (hw : w < 3) (hlk : lk < 256) (x1 x3 : Int32) (e1 : x1 / 10 = nI l) (e2 : x1 - x1 / 10 * 10 = nI w) : ∀ (k p : Nat) (S : zS) (o7 : Option Value), p + k = n → zME n P cs gap none S →
    ∃ S', zO zgI sc (zg1, (zm_X11_next, 66), 37, S, [some (.ref 51), some (.int x1), some (.int (nI lk)), some (.int x3), some (.int (z2 (nxF lk.testBit (nxN n P cs gap l w lk) p).1 ((nxF lk.testBit (nxN n P cs gap l w lk) p).1 - 1))), some (.int (z2 (nxF lk.testBit (nxN n P cs gap l w lk) p).1 (nxF lk.testBit (nxN n P cs gap l w lk) p).2)), some (.int (nI p)), o7], [])
      = some (if x3 ≠ 0 then z2 (nxF lk.testBit (nxN n P cs gap l w lk) n).1 (nxF lk.testBit (nxN n P cs gap l w lk) n).2 else z2 (nxF lk.testBit (nxN n P cs gap l w lk) n).1 ((nxF lk.testBit (nxN n P cs gap l w lk) n).1 - 1), S') ∧ zfr zkMq S S'
  | 0, p, S, o7, hp, hM => by
    have hn := hM.1.2.1
    have : p = n := by omega
    subst this
    refine ⟨S, ?_, zfr_refl _ _⟩
    rw [e_X11_next_37, hM.1.1, if_pos (by rw [n_le (by omega) (by omega)]; omega), sif]
  | k + 1, p, S, o7, hp, hM => by
    have hn := hM.1.2.1
    have hb := nxF_b (B := lk.testBit) (F := nxN n P cs gap l w lk) (fun p => pcn_le _) p
    have hlk2 : lk ||| 2 ^ p < 256 := n_orlt hlk (n_p2 (by omega))
    have hg := kcm_good (P := P) (cs := cs) (gap := gap) (o := none) (l := l) (way := w) (lk := lk ||| 2 ^ p) hn
    have es : nxF lk.testBit (nxN n P cs gap l w lk) (p + 1) = if lk.testBit p = true then nxF lk.testBit (nxN n P cs gap l w lk) p else if (nxF lk.testBit (nxN n P cs gap l w lk) p).1 = 0 ∨ nxN n P cs gap l w lk p < (nxF lk.testBit (nxN n P cs gap l w lk) p).2 then (p + 1, nxN n P cs gap l w lk p) else nxF lk.testBit (nxN n P cs gap l w lk) p := rfl
    rw [e_X11_next_37, hM.1.1, if_neg (by rw [n_le (by omega) (by omega)]; omega), m_isIn sc S hlk (by omega), Option.bind_some]
    dsimp only
    by_cases c : lk.testBit p = true
    · rw [if_pos c] at es
      obtain ⟨S', g1, g2⟩ := m_next_go sc hr hl hw hlk x1 x3 e1 e2 k (p + 1) S o7 (by omega) hM
      rw [es] at g1
      rw [zb_t c, if_pos (by decide), n_s1]
      exact ⟨S', g1, g2⟩
    · rw [if_neg c] at es
      obtain ⟨S3, d1, d2, d3, d4⟩ := m_run sc hM hr hl hw hlk2
      rw [zb_f c, if_neg (fun q => q rfl), n_sh (by omega), n_or, e2, e1, d1, Option.bind_some, d2.2.2.1, m_bitsOf sc S3 hg.2.1, Option.bind_some, n_s1]
      dsimp only
      have fin : ∀ o6, ∃ S', zO zgI sc (zg1, (zm_X11_next, 66), 37, S3, [some (.ref 51), some (.int x1), some (.int (nI lk)), some (.int x3), some (.int (z2 (nxF lk.testBit (nxN n P cs gap l w lk) (p + 1)).1 ((nxF lk.testBit (nxN n P cs gap l w lk) (p + 1)).1 - 1))), some (.int (z2 (nxF lk.testBit (nxN n P cs gap l w lk) (p + 1)).1 (nxF lk.testBit (nxN n P cs gap l w lk) (p + 1)).2)), some (.int (nI (p + 1))), o6], [])
        = some (if x3 ≠ 0 then z2 (nxF lk.testBit (nxN n P cs gap l w lk) n).1 (nxF lk.testBit (nxN n P cs gap l w lk) n).2 else z2 (nxF lk.testBit (nxN n P cs gap l w lk) n).1 ((nxF lk.testBit (nxN n P cs gap l w lk) n).1 - 1), S') ∧ zfr zkMq S S' := by
        intro o6
        obtain ⟨S', g1, g2⟩ := m_next_go sc hr hl hw hlk x1 x3 e1 e2 k (p + 1) S3 o6 (by omega) d4
        exact ⟨S', g1, zfr_tr (zfr_up _ _ d3 rfl) g2⟩
      rw [ifc (z2_lt (b := (nxF lk.testBit (nxN n P cs gap l w lk) p).1) (v := (nxF lk.testBit (nxN n P cs gap l w lk) p).1 - 1) (by omega))]
      have hN : nxN n P cs gap l w lk p ≤ 8 := pcn_le _
      have znew : z2 (p + 1) p = nI p := if_neg (by omega)
      have znew2 : z2 (p + 1) (nxN n P cs gap l w lk p) = nI (nxN n P cs gap l w lk p) := if_neg (by omega)
      by_cases c0 : (nxF lk.testBit (nxN n P cs gap l w lk) p).1 = 0
      · rw [if_pos (Or.inl c0)] at es
        rw [es] at fin
        rw [if_pos c0]
        have := fin (some (.int (nI (nxN n P cs gap l w lk p))))
        rw [show (p + 1, nxN n P cs gap l w lk p).1 - 1 = p from rfl] at this
        dsimp only at this
        rw [znew, znew2] at this
        exact this
      · have e2 : z2 (nxF lk.testBit (nxN n P cs gap l w lk) p).1 (nxF lk.testBit (nxN n P cs gap l w lk) p).2 = nI (nxF lk.testBit (nxN n P cs gap l w lk) p).2 := if_neg c0
        rw [if_neg c0]
        have e3 : (z2 (nxF lk.testBit (nxN n P cs gap l w lk) p).1 (nxF lk.testBit (nxN n P cs gap l w lk) p).2 ≤ nI (nxN n P cs gap l w lk p)) = ((nxF lk.testBit (nxN n P cs gap l w lk) p).2 ≤ nxN n P cs gap l w lk p) := by rw [e2, n_le (by omega) (by omega)]
        rw [ifc e3]
        by_cases c1 : (nxF lk.testBit (nxN n P cs gap l w lk) p).2 ≤ nxN n P cs gap l w lk p
        · rw [if_neg (by omega)] at es
          rw [es] at fin
          rw [if_pos c1]
          exact fin _
        · rw [if_pos (Or.inr (by omega))] at es
          rw [es] at fin
          rw [if_neg c1]
          have := fin (some (.int (nI (nxN n P cs gap l w lk p))))
          rw [show (p + 1, nxN n P cs gap l w lk p).1 - 1 = p from rfl] at this
          dsimp only at this
          rw [znew, znew2] at this
          exact this
theorem q_next (sc : zSc) {n : Nat} {P : Nat → Nat → Nat} {cs : List Int32} {gap ver : Nat} {S : zS} (hC : zCE n P cs gap ver S) (hM : zME n P cs gap none S) (a1 a2 a3 : Int32) :
    zQ n P cs gap ver (zcI sc zm_X10_next [.ref 0, .int a1, .int a2, .int a3] S) (fun S => zcI sc zm_X11_next [.ref 51, .int a1, .int a2, .int a3] S) S := by
  have hn := hC.1.2.1
  have hr := hC.2.1
  by_cases h1 : tok a1
  case neg =>
    refine ⟨-1, S, S, ?_, ?_, hC, zfr_refl _ _, zfr_refl _ _⟩
    · rw [c_X10_next]; rw [s_isLW, Option.bind_some]; (try dsimp only); rw [zb_f h1]; exact if_pos rfl
    · show zcI sc zm_X11_next [.ref 51, .int a1, .int a2, .int a3] S = _
      rw [c_X11_next]; rw [m_isTw, Option.bind_some]; (try dsimp only); rw [zb_f h1]; exact if_pos rfl
  by_cases h2 : rg a2 255
  case neg =>
    refine ⟨-1, S, S, ?_, ?_, hC, zfr_refl _ _, zfr_refl _ _⟩
    · rw [c_X10_next]; rw [s_isLW, Option.bind_some]; (try dsimp only); rw [zb_t h1]; rw [if_neg (show ¬ ((1 : Int32) = 0) by decide)]; rw [s_isBits, Option.bind_some]; (try dsimp only); rw [zb_f h2]; exact if_pos rfl
    · show zcI sc zm_X11_next [.ref 51, .int a1, .int a2, .int a3] S = _
      rw [c_X11_next]; rw [m_isTw, Option.bind_some]; (try dsimp only); rw [zb_t h1]; rw [if_neg (show ¬ ((1 : Int32) = 0) by decide)]; rw [m_isSet', Option.bind_some]; (try dsimp only); rw [zb_f h2]; exact if_pos rfl
  by_cases h3 : rg a3 1
  case neg =>
    refine ⟨-1, S, S, ?_, ?_, hC, zfr_refl _ _, zfr_refl _ _⟩
    · rw [c_X10_next]; rw [s_isLW, Option.bind_some]; (try dsimp only); rw [zb_t h1]; rw [if_neg (show ¬ ((1 : Int32) = 0) by decide)]; rw [s_isBits, Option.bind_some]; (try dsimp only); rw [zb_t h2]; rw [if_neg (show ¬ ((1 : Int32) = 0) by decide)]; rw [s_w1, Option.bind_some]; (try dsimp only); rw [zb_f h3]; exact if_neg (fun q => q rfl)
    · show zcI sc zm_X11_next [.ref 51, .int a1, .int a2, .int a3] S = _
      rw [c_X11_next]; rw [m_isTw, Option.bind_some]; (try dsimp only); rw [zb_t h1]; rw [if_neg (show ¬ ((1 : Int32) = 0) by decide)]; rw [m_isSet', Option.bind_some]; (try dsimp only); rw [zb_t h2]; rw [if_neg (show ¬ ((1 : Int32) = 0) by decide)]; rw [m_w1, Option.bind_some]; (try dsimp only); rw [zb_f h3]; exact if_neg (fun q => q rfl)
  obtain ⟨t, rfl, ht1, ht2, e1, e2⟩ := tok_n h1
  obtain ⟨lk, rfl, hlk⟩ := rg_n h2
  obtain ⟨S1, b1, b2, b3⟩ := c_load sc hC ht2
  obtain ⟨S2, d1, d2, d3, d4, d5⟩ := c_inLesson sc b2 ht1
  obtain ⟨S3, g1, g2, g3⟩ := c_next_go sc (l := t / 10) (show lk < 256 by omega) a3 n 0 S2 none (by omega) d2 d3 d4
  have f3 : zfr zkC S S3 := zfr_tr b3 (zfr_tr d5 g3)
  obtain ⟨S4, k1, k2⟩ := m_next_go sc hr ht1 ht2 (show lk < 256 by omega) (nI t) a3 e1 e2 n 0 S3 none (by omega) (zME_C hM f3)
  refine ⟨if a3 ≠ 0 then z2 (nxF lk.testBit (nxN n P cs gap (t / 10) (t % 10) lk) n).1 (nxF lk.testBit (nxN n P cs gap (t / 10) (t % 10) lk) n).2 else z2 (nxF lk.testBit (nxN n P cs gap (t / 10) (t % 10) lk) n).1 ((nxF lk.testBit (nxN n P cs gap (t / 10) (t % 10) lk) n).1 - 1), S3, S4, ?_, ?_, g2, f3, k2⟩
  · rw [c_X10_next]; rw [s_isLW, Option.bind_some]; (try dsimp only); rw [zb_t h1]; rw [if_neg (show ¬ ((1 : Int32) = 0) by decide)]; rw [s_isBits, Option.bind_some]; (try dsimp only); rw [zb_t h2]; rw [if_neg (show ¬ ((1 : Int32) = 0) by decide)]; rw [s_w1, Option.bind_some]; (try dsimp only); rw [zb_t h3]; rw [if_pos (show (1 : Int32) ≠ 0 by decide)]
    have g1' : zcI sc zm_X8_oneMoreLook [.ref 20, .int (nI lk), .int a3] S2 = some (if a3 ≠ 0 then z2 (nxF lk.testBit (nxN n P cs gap (t / 10) (t % 10) lk) n).1 (nxF lk.testBit (nxN n P cs gap (t / 10) (t % 10) lk) n).2 else z2 (nxF lk.testBit (nxN n P cs gap (t / 10) (t % 10) lk) n).1 ((nxF lk.testBit (nxN n P cs gap (t / 10) (t % 10) lk) n).1 - 1), S3) := (c_X8_oneMoreLook sc S2 (nI lk) a3).trans g1
    rw [e2, b1, Option.bind_some, e1, d1, Option.bind_some, g1', Option.bind_some]
  · (try dsimp only); rw [c_X11_next]; rw [m_isTw, Option.bind_some]; (try dsimp only); rw [zb_t h1]; rw [if_neg (show ¬ ((1 : Int32) = 0) by decide)]; rw [m_isSet', Option.bind_some]; (try dsimp only); rw [zb_t h2]; rw [if_neg (show ¬ ((1 : Int32) = 0) by decide)]; rw [m_w1, Option.bind_some]; (try dsimp only); rw [zb_t h3]; rw [if_pos (show (1 : Int32) ≠ 0 by decide)]
    exact k1
