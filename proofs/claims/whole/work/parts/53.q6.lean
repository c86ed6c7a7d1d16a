/-! ===== mornings by draws ===== -/
abbrev zdr (z : Int32) : Int32 := (z * (1103515245 : Int32)) + (12345 : Int32)
abbrev zlw (z : Int32) : Int32 := ((z.toUInt32 >>> ((8 : Int32).toUInt32 &&& Int32.toUInt32 31)).toInt32) - ((z.toUInt32 >>> ((8 : Int32).toUInt32 &&& Int32.toUInt32 31)).toInt32) / (12 : Int32) * (12 : Int32)
def drS (ill z : Int32) : Nat → Int32 × Nat
  | 0 => (z, 0)
  | p + 1 => (zdr (drS ill z p).1, if zlw (zdr (drS ill z p).1) < ill then (drS ill z p).2 else (drS ill z p).2 ||| 2 ^ p)
theorem drS_lt (ill z : Int32) : ∀ p, p ≤ 8 → (drS ill z p).2 < 256
  | 0, _ => by show 0 < 256; omega
  | p + 1, h => by
    have ih := drS_lt ill z p (by omega)
    show (if zlw (zdr (drS ill z p).1) < ill then (drS ill z p).2 else (drS ill z p).2 ||| 2 ^ p) < 256
    split
    · exact ih
    · exact n_orlt ih (n_p2 (by omega))
def drM (n : Nat) (ill seed : Int32) (F : Nat → Nat) : Nat → Int32 × Nat
  | 0 => (seed, 0)
  | i + 1 => ((drS ill (drM n ill seed F i).1 n).1, (drM n ill seed F i).2 + F (drS ill (drM n ill seed F i).1 n).2)
abbrev drF (n : Nat) (P : Nat → Nat → Nat) (cs : List Int32) (gap w : Nat) (b : Bool) (s : Nat) : Nat := if b = true then pcn (kcm n P cs gap (some s) 0 w 0 n 3 1) else kcm n P cs gap (some s) 0 w 0 n 3 4
theorem c_draw_in (sc : zSc) {n : Nat} {S : zS} (h : S.1 1 1 = nI n) (hn : n ≤ 8) (x1 x2 ill x4 z x6 x7 : Int32) : ∀ (k p : Nat), p + k = n →
    zO zgI sc (zg1, (zm_X8_mornings, 6), 21, S, [some (.ref 20), some (.int x1), some (.int x2), some (.int ill), some (.int x4), some (.int (drS ill z p).1), some (.int x6), some (.int x7), some (.int (nI (drS ill z p).2)), some (.int (nI p))], [])
    = zO zgI sc (zg1, (zm_X8_mornings, 6), 21, S, [some (.ref 20), some (.int x1), some (.int x2), some (.int ill), some (.int x4), some (.int (drS ill z n).1), some (.int x6), some (.int x7), some (.int (nI (drS ill z n).2)), some (.int (nI n))], [])
  | 0, p, hp => by
    have : p = n := by omega
    rw [this]
  | k + 1, p, hp => by
    have IH := c_draw_in sc h hn x1 x2 ill x4 z x6 x7 k (p + 1) (by omega)
    have e1 : (drS ill z (p + 1)).1 = zdr (drS ill z p).1 := rfl
    have e2 : (drS ill z (p + 1)).2 = if zlw (zdr (drS ill z p).1) < ill then (drS ill z p).2 else (drS ill z p).2 ||| 2 ^ p := rfl
    rw [e_X8_mornings_21, h, if_neg (by rw [n_le (by omega) (by omega)]; omega), n_s1, n_sh (by omega), n_or]
    by_cases c : zlw (zdr (drS ill z p).1) < ill
    · rw [if_pos c] at e2
      rw [e1, e2] at IH
      rw [if_pos c]; exact IH
    · rw [if_neg c] at e2
      rw [e1, e2] at IH
      rw [if_neg c]; exact IH
theorem m_draw_in (sc : zSc) {n : Nat} {S : zS} (h : S.1 51 6 = nI n) (hn : n ≤ 8) (x1 x2 ill x4 z x6 x7 : Int32) : ∀ (k p : Nat), p + k = n →
    zO zgI sc (zg1, (zm_X11_drawn, 66), 78, S, [some (.ref 51), some (.int x1), some (.int x2), some (.int ill), some (.int x4), some (.int (drS ill z p).1), some (.int x6), some (.int x7), some (.int (nI (drS ill z p).2)), some (.int (nI p))], [])
    = zO zgI sc (zg1, (zm_X11_drawn, 66), 78, S, [some (.ref 51), some (.int x1), some (.int x2), some (.int ill), some (.int x4), some (.int (drS ill z n).1), some (.int x6), some (.int x7), some (.int (nI (drS ill z n).2)), some (.int (nI n))], [])
  | 0, p, hp => by
    have : p = n := by omega
    rw [this]
  | k + 1, p, hp => by
    have IH := m_draw_in sc h hn x1 x2 ill x4 z x6 x7 k (p + 1) (by omega)
    have e1 : (drS ill z (p + 1)).1 = zdr (drS ill z p).1 := rfl
    have e2 : (drS ill z (p + 1)).2 = if zlw (zdr (drS ill z p).1) < ill then (drS ill z p).2 else (drS ill z p).2 ||| 2 ^ p := rfl
    have z0 : nI (drS ill z p).2 ||| (0 : Int32) = nI (drS ill z p).2 := by rw [show (0 : Int32) = nI 0 from rfl, n_or, Nat.or_zero]
    rw [e_X11_drawn_78, h, if_neg (by rw [n_le (by omega) (by omega)]; omega), n_s1, n_sh (by omega), n_or, z0]
    by_cases c : zlw (zdr (drS ill z p).1) < ill
    · rw [if_pos c] at e2
      rw [e1, e2] at IH
      rw [if_pos c]; exact IH
    · rw [if_neg c] at e2
      rw [e1, e2] at IH
      rw [if_neg c]; exact IH
theorem c_drawn_go (sc : zSc) {n : Nat} {P : Nat → Nat → Nat} {cs : List Int32} {gap ver w d : Nat} (hd : d ≤ 50) (b : Bool) (seed ill x1 : Int32) : ∀ (k i : Nat) (S : zS) (o8 o9 : Option Value), i + k = d → zRY n w P P cs gap ver S →
    ∃ S', zO zgI sc (zg1, (zm_X8_mornings, 6), 9, S, [some (.ref 20), some (.int x1), some (.int (nI d)), some (.int ill), some (.int (zb (b = true))), some (.int (drM n ill seed (drF n P cs gap w b) i).1), some (.int (nI (drM n ill seed (drF n P cs gap w b) i).2)), some (.int (nI i)), o8, o9], [])
      = some (nI (drM n ill seed (drF n P cs gap w b) d).2, S') ∧ zCE n P cs gap ver S' ∧ zfr zkC S S'
  | 0, i, S, o8, o9, hi, hC => by
    have : i = d := by omega
    subst this
    refine ⟨S, ?_, hC.1, zfr_refl _ _⟩
    rw [e_X8_mornings_9, if_pos (by rw [n_le (by omega) (by omega)]; omega)]
  | k + 1, i, S, o8, o9, hi, hC => by
    have hn := hC.1.1.2.1
    have hs := drS_lt ill (drM n ill seed (drF n P cs gap w b) i).1 n hn
    obtain ⟨S1, a1, a2, a3, a4, a5⟩ := c_withOnly sc hC (drS ill (drM n ill seed (drF n P cs gap w b) i).1 n).2
    obtain ⟨S3, d1, d2, d3, d4, d5, d6, _⟩ := c_make sc a2 (he := (drS ill (drM n ill seed (drF n P cs gap w b) i).1 n).2) (lk := 0) (l := 0) (la := fun _ => 0) (o := some (drS ill (drM n ill seed (drF n P cs gap w b) i).1 n).2) hs a3 (fun q k => ⟨a4 q k, by omega⟩) (by omega) (fun p _ t => by
      show ((drS ill (drM n ill seed (drF n P cs gap w b) i).1 n).2.testBit p && decide (0 ≤ t)) = (drS ill (drM n ill seed (drF n P cs gap w b) i).1 n).2.testBit p
      rw [decide_eq_true (Nat.zero_le t), Bool.and_true])
    have d1' : zcV sc zm_X0_make [.ref 12, .int (0 : Int32)] S1 = some S3 := d1
    have hg := (kcm_good (P := P) (cs := cs) (gap := gap) (o := some (drS ill (drM n ill seed (drF n P cs gap w b) i).1 n).2) (l := 0) (way := w) (lk := 0) hn).2.1
    have hin := c_draw_in sc hC.1.1.1 hn x1 (nI d) ill (zb (b = true)) (drM n ill seed (drF n P cs gap w b) i).1 (nI (drM n ill seed (drF n P cs gap w b) i).2) (nI i) n 0 (by omega)
    have hin' : zO zgI sc (zg1, (zm_X8_mornings, 6), 21, S, [some (.ref 20), some (.int x1), some (.int (nI d)), some (.int ill), some (.int (zb (b = true))), some (.int (drM n ill seed (drF n P cs gap w b) i).1), some (.int (nI (drM n ill seed (drF n P cs gap w b) i).2)), some (.int (nI i)), some (.int (0 : Int32)), some (.int (0 : Int32))], []) = _ := hin
    have IH := fun o8 o9 => c_drawn_go sc (d := d) hd b seed ill x1 k (i + 1) S3 o8 o9 (by omega) d3
    have m1 : (drM n ill seed (drF n P cs gap w b) (i + 1)).1 = (drS ill (drM n ill seed (drF n P cs gap w b) i).1 n).1 := rfl
    have m2 : (drM n ill seed (drF n P cs gap w b) (i + 1)).2 = (drM n ill seed (drF n P cs gap w b) i).2 + drF n P cs gap w b (drS ill (drM n ill seed (drF n P cs gap w b) i).1 n).2 := rfl
    rw [m1, m2] at IH
    rw [e_X8_mornings_9, if_neg (by rw [n_le (by omega) (by omega)]; omega), hin', e_X8_mornings_21, hC.1.1.1, if_pos (by rw [n_le (by omega) (by omega)]; omega), a1, Option.bind_some, d1', Option.bind_some, d2.2.1, s_bitCount sc S3 hg, Option.bind_some, d2.2.2.2.2.1, n_s1]
    dsimp only
    rw [zn_add, zn_add]
    cases b with
    | true =>
      rw [if_neg (by decide)]
      obtain ⟨S', g1, g2, g3⟩ := IH (some (.int (nI (drS ill (drM n ill seed (drF n P cs gap w true) i).1 n).2))) (some (.int (nI n)))
      exact ⟨S', g1, g2, zfr_tr a5 (zfr_tr d6 g3)⟩
    | false =>
      rw [if_pos (by decide)]
      obtain ⟨S', g1, g2, g3⟩ := IH (some (.int (nI (drS ill (drM n ill seed (drF n P cs gap w false) i).1 n).2))) (some (.int (nI n)))
      exact ⟨S', g1, g2, zfr_tr a5 (zfr_tr d6 g3)⟩
theorem m_drawn_go (sc : zSc) {n : Nat} {P : Nat → Nat → Nat} {cs : List Int32} {gap w d : Nat} (hr : zPR n P) (hw : w < 3) (hd : d ≤ 50) (b : Bool) (seed ill x1 x2 x4 : Int32) (e1 : x2 / 10 = nI d) (e2 : x2 - x2 / 10 * 10 = nI w) (hb : x4 = 0 ↔ b = true) : ∀ (k i : Nat) (S : zS) (o8 o9 : Option Value), i + k = d → zME n P cs gap none S →
    ∃ S', zO zgI sc (zg1, (zm_X11_drawn, 66), 63, S, [some (.ref 51), some (.int x1), some (.int x2), some (.int ill), some (.int x4), some (.int (drM n ill seed (drF n P cs gap w b) i).1), some (.int (nI (drM n ill seed (drF n P cs gap w b) i).2)), some (.int (nI i)), o8, o9], [])
      = some (nI (drM n ill seed (drF n P cs gap w b) d).2, S') ∧ zfr zkMq S S'
  | 0, i, S, o8, o9, hi, hM => by
    have : i = d := by omega
    subst this
    refine ⟨S, ?_, zfr_refl _ _⟩
    rw [e_X11_drawn_63, e1, if_pos (by rw [n_le (by omega) (by omega)]; omega)]
  | k + 1, i, S, o8, o9, hi, hM => by
    have hn := hM.1.2.1
    have hs := drS_lt ill (drM n ill seed (drF n P cs gap w b) i).1 n hn
    have hm1 : S.1 51 18 = -1 := by
      rcases hM.2.2.2 with ⟨_, b⟩ | ⟨m, a, _⟩
      · exact b
      · exact absurd a (by simp)
    have hM2 : zME n P cs gap (some (drS ill (drM n ill seed (drF n P cs gap w b) i).1 n).2) (zw1 S 51 18 (nI (drS ill (drM n ill seed (drF n P cs gap w b) i).1 n).2)) :=
      ⟨zPM_cg hM.1 (zw1_n _ _ (by omega)) (fun j => zw1_n _ _ (by omega)), by rw [zw1_n _ _ (by omega)]; exact hM.2.1, zTX_cg hM.2.2.1 (zw1_n _ _ (by omega)) (fun j => zw1_n _ _ (by omega)), Or.inr ⟨_, rfl, hs, zw1_y _ _ _ _⟩⟩
    obtain ⟨S3, a1, a2, a3, a4⟩ := m_run sc hM2 hr (l := 0) (by omega) hw (lk := 0) (by omega)
    have a1' : zcV sc zm_X11_calls [.ref 51, .int (0 : Int32), .int (nI w), .int (0 : Int32)] (zw1 S 51 18 (nI (drS ill (drM n ill seed (drF n P cs gap w b) i).1 n).2)) = some S3 := a1
    have hg := (kcm_good (P := P) (cs := cs) (gap := gap) (o := some (drS ill (drM n ill seed (drF n P cs gap w b) i).1 n).2) (l := 0) (way := w) (lk := 0) hn).2.1
    have f4 : zfr zkMq S (zw1 S3 51 18 (-1)) := by
      have : zfr zkFt S (zw1 S3 51 18 (-1)) := zfr_w (zfr_tr (zfr_w0 51 18 _ rfl) (zfr_up _ _ a3 rfl)) 51 18 _ rfl
      exact zfr_fix this (by rw [zw1_y, hm1])
    have hM4 : zME n P cs gap none (zw1 S3 51 18 (-1)) :=
      ⟨zPM_cg hM.1 (f4.1 51 6 rfl) (fun j => f4.1 52 j rfl), (f4.1 52 64 rfl).trans hM.2.1, zTX_cg hM.2.2.1 (f4.1 51 11 rfl) (fun j => f4.1 58 j rfl), Or.inl ⟨rfl, zw1_y _ _ _ _⟩⟩
    have hin := m_draw_in sc hM.1.1 hn x1 x2 ill x4 (drM n ill seed (drF n P cs gap w b) i).1 (nI (drM n ill seed (drF n P cs gap w b) i).2) (nI i) n 0 (by omega)
    have hin' : zO zgI sc (zg1, (zm_X11_drawn, 66), 78, S, [some (.ref 51), some (.int x1), some (.int x2), some (.int ill), some (.int x4), some (.int (drM n ill seed (drF n P cs gap w b) i).1), some (.int (nI (drM n ill seed (drF n P cs gap w b) i).2)), some (.int (nI i)), some (.int (0 : Int32)), some (.int (0 : Int32))], []) = _ := hin
    have IH := fun o8 o9 => m_drawn_go sc hr hw hd b seed ill x1 x2 x4 e1 e2 hb k (i + 1) (zw1 S3 51 18 (-1)) o8 o9 (by omega) hM4
    have m1 : (drM n ill seed (drF n P cs gap w b) (i + 1)).1 = (drS ill (drM n ill seed (drF n P cs gap w b) i).1 n).1 := rfl
    have m2 : (drM n ill seed (drF n P cs gap w b) (i + 1)).2 = (drM n ill seed (drF n P cs gap w b) i).2 + drF n P cs gap w b (drS ill (drM n ill seed (drF n P cs gap w b) i).1 n).2 := rfl
    rw [m1, m2] at IH
    rw [e_X11_drawn_63, e1, if_neg (by rw [n_le (by omega) (by omega)]; omega), hin', e_X11_drawn_78, hM.1.1, if_pos (by rw [n_le (by omega) (by omega)]; omega), e2, a1', Option.bind_some, a2.2.2.1, m_bitsOf sc _ hg, Option.bind_some, a2.2.2.2.2.2, n_s1]
    dsimp only
    rw [zn_add, zn_add]
    cases b with
    | true =>
      rw [if_neg (fun q => q (hb.mpr rfl))]
      obtain ⟨S', g1, g2⟩ := IH (some (.int (nI (drS ill (drM n ill seed (drF n P cs gap w true) i).1 n).2))) (some (.int (nI n)))
      exact ⟨S', g1, zfr_tr f4 g2⟩
    | false =>
      rw [if_pos (fun q => Bool.false_ne_true (hb.mp q))]
      obtain ⟨S', g1, g2⟩ := IH (some (.int (nI (drS ill (drM n ill seed (drF n P cs gap w false) i).1 n).2))) (some (.int (nI n)))
      exact ⟨S', g1, zfr_tr f4 g2⟩
theorem q_drawn (sc : zSc) {n : Nat} {P : Nat → Nat → Nat} {cs : List Int32} {gap ver : Nat} {S : zS} (hC : zCE n P cs gap ver S) (hM : zME n P cs gap none S) (a1 a2 a3 a4 : Int32) :
    zQ n P cs gap ver (zcI sc zm_X10_drawn [.ref 0, .int a1, .int a2, .int a3, .int a4] S) (fun S => zcI sc zm_X11_drawn [.ref 51, .int a1, .int a2, .int a3, .int a4] S) S := by
  have hn := hC.1.2.1
  have hr := hC.2.1
  have t1 : ¬ ((1 : Int32) = 0) := by decide
  have t2 : (1 : Int32) ≠ 0 := by decide
  -- the first of what is checked
  have cC : ∀ (K : Int32 × zS → Option (Int32 × zS)), (10 ≤ a2.toInt ∧ a2.toInt ≤ 509) → (zcI sc zm_X10_within [.int a2, .int (10 : Int32), .int (509 : Int32)] S).bind K = K (1, S) := by
    intro K h
    rw [s_within, Option.bind_some, zb_t (by rw [show (10 : Int32).toInt = 10 from rfl, show (509 : Int32).toInt = 509 from rfl]; exact h)]
  by_cases h1 : 10 ≤ a2.toInt ∧ a2.toInt ≤ 509
  case neg =>
    refine ⟨-1, S, S, ?_, ?_, hC, zfr_refl _ _, zfr_refl _ _⟩
    · rw [c_X10_drawn, s_within, Option.bind_some]
      dsimp only
      rw [zb_f (by rw [show (10 : Int32).toInt = 10 from rfl, show (509 : Int32).toInt = 509 from rfl]; exact h1)]
      exact if_pos rfl
    · show zcI sc zm_X11_drawn [.ref 51, .int a1, .int a2, .int a3, .int a4] S = _
      rw [c_X11_drawn]
      by_cases q : a2 < 0
      · exact if_pos q
      · have h0 : 0 ≤ a2.toInt := by rw [zi_lt, show (0 : Int32).toInt = 0 from rfl] at q; omega
        obtain ⟨e1, _⟩ := zi_div10 h0
        rw [if_neg q, m_within, Option.bind_some]
        dsimp only
        rw [zb_f (by rw [l32, l64_1, show (50 : Int64).toInt = 50 from rfl]; omega)]
        exact if_pos rfl
  obtain ⟨t, et, ht1, ht2⟩ := n_rg (x := a2) (a := 10) (b := 509) h1 (by omega)
  have ht : t < 2147483648 := by omega
  have e1 : a2 / 10 = nI (t / 10) := by rw [et]; exact n_div ht
  have e2 : a2 - a2 / 10 * 10 = nI (t % 10) := by rw [et]; exact n_mod ht
  have cM : ∀ (S : zS) (X : Option (Int32 × zS)) (K : Int32 × zS → Option (Int32 × zS)), (if a2 < 0 then X else (zcI sc zm_X11_within [.long ((a2 / (10 : Int32)).toInt64), .long (Int64.ofNat 1), .long (50 : Int64)] S).bind K) = K (1, S) := by
    intro S X K
    rw [if_neg (by rw [et, n_lt0 ht]; exact id), m_within, Option.bind_some, zb_t (by rw [l32, l64_1, show (50 : Int64).toInt = 50 from rfl, e1, zi_nI (by omega)]; omega)]
  by_cases h2 : rg (nI (t % 10)) 2
  case neg =>
    refine ⟨-1, S, S, ?_, ?_, hC, zfr_refl _ _, zfr_refl _ _⟩
    · rw [c_X10_drawn, cC _ h1]
      dsimp only
      rw [if_neg t1, e2, s_isWay, Option.bind_some]
      dsimp only
      rw [zb_f h2]; exact if_pos rfl
    · show zcI sc zm_X11_drawn [.ref 51, .int a1, .int a2, .int a3, .int a4] S = _
      rw [c_X11_drawn, cM]
      dsimp only
      rw [if_neg t1, e2, m_isWay', Option.bind_some]
      dsimp only
      rw [zb_f h2]; exact if_pos rfl
  by_cases h3 : rg a3 12
  case neg =>
    refine ⟨-1, S, S, ?_, ?_, hC, zfr_refl _ _, zfr_refl _ _⟩
    · rw [c_X10_drawn, cC _ h1]
      dsimp only
      rw [if_neg t1, e2, s_isWay, Option.bind_some]
      dsimp only
      rw [zb_t h2, if_neg t1, s_w12, Option.bind_some]
      dsimp only
      rw [zb_f h3]; exact if_pos rfl
    · show zcI sc zm_X11_drawn [.ref 51, .int a1, .int a2, .int a3, .int a4] S = _
      rw [c_X11_drawn, cM]
      dsimp only
      rw [if_neg t1, e2, m_isWay', Option.bind_some]
      dsimp only
      rw [zb_t h2, if_neg t1, m_w12, Option.bind_some]
      dsimp only
      rw [zb_f h3]; exact if_pos rfl
  by_cases h4 : rg a4 1
  case neg =>
    refine ⟨-1, S, S, ?_, ?_, hC, zfr_refl _ _, zfr_refl _ _⟩
    · rw [c_X10_drawn, cC _ h1]
      dsimp only
      rw [if_neg t1, e2, s_isWay, Option.bind_some]
      dsimp only
      rw [zb_t h2, if_neg t1, s_w12, Option.bind_some]
      dsimp only
      rw [zb_t h3, if_neg t1, s_w1, Option.bind_some]
      dsimp only
      rw [zb_f h4]; exact if_neg (fun q => q rfl)
    · show zcI sc zm_X11_drawn [.ref 51, .int a1, .int a2, .int a3, .int a4] S = _
      rw [c_X11_drawn, cM]
      dsimp only
      rw [if_neg t1, e2, m_isWay', Option.bind_some]
      dsimp only
      rw [zb_t h2, if_neg t1, m_w12, Option.bind_some]
      dsimp only
      rw [zb_t h3, if_neg t1, m_w1, Option.bind_some]
      dsimp only
      rw [zb_f h4]; exact if_neg (fun q => q rfl)
  have hw : t % 10 < 3 := by
    have := h2.2
    rw [zi_nI (by omega)] at this
    omega
  obtain ⟨S1, b1, b2, b3⟩ := c_load sc hC hw
  by_cases z : a4 = 0
  · obtain ⟨S2, g1, g2, g3⟩ := c_drawn_go sc (d := t / 10) (by omega) true a1 a3 a1 (t / 10) 0 S1 none none (by omega) b2
    have f2 : zfr zkC S S2 := zfr_tr b3 g3
    obtain ⟨S3, k1, k2⟩ := m_drawn_go sc (d := t / 10) hr hw (by omega) true a1 a3 a1 a2 a4 e1 e2 ⟨fun _ => rfl, fun _ => z⟩ (t / 10) 0 S2 none none (by omega) (zME_C hM f2)
    have gm : zcI sc zm_X8_mornings [.ref 20, .int a1, .int (nI (t / 10)), .int a3, .int (1 : Int32)] S1 = some (nI (drM n a3 a1 (drF n P cs gap (t % 10) true) (t / 10)).2, S2) := (c_X8_mornings sc S1 _ _ _ _).trans g1
    refine ⟨nI (drM n a3 a1 (drF n P cs gap (t % 10) true) (t / 10)).2, S2, S3, ?_, ?_, g2, f2, k2⟩
    · rw [c_X10_drawn, cC _ h1]
      dsimp only
      rw [if_neg t1, e2, s_isWay, Option.bind_some]
      dsimp only
      rw [zb_t h2, if_neg t1, s_w12, Option.bind_some]
      dsimp only
      rw [zb_t h3, if_neg t1, s_w1, Option.bind_some]
      dsimp only
      rw [zb_t h4, if_pos t2, b1, Option.bind_some, if_neg (fun q => q z), e1, gm, Option.bind_some]
    · show zcI sc zm_X11_drawn [.ref 51, .int a1, .int a2, .int a3, .int a4] S2 = _
      rw [c_X11_drawn, cM]
      dsimp only
      rw [if_neg t1, e2, m_isWay', Option.bind_some]
      dsimp only
      rw [zb_t h2, if_neg t1, m_w12, Option.bind_some]
      dsimp only
      rw [zb_t h3, if_neg t1, m_w1, Option.bind_some]
      dsimp only
      rw [zb_t h4, if_pos t2]
      exact k1
  · obtain ⟨S2, g1, g2, g3⟩ := c_drawn_go sc (d := t / 10) (by omega) false a1 a3 a1 (t / 10) 0 S1 none none (by omega) b2
    have f2 : zfr zkC S S2 := zfr_tr b3 g3
    obtain ⟨S3, k1, k2⟩ := m_drawn_go sc (d := t / 10) hr hw (by omega) false a1 a3 a1 a2 a4 e1 e2 ⟨fun q => absurd q z, fun q => (Bool.false_ne_true q).elim⟩ (t / 10) 0 S2 none none (by omega) (zME_C hM f2)
    have gm : zcI sc zm_X8_mornings [.ref 20, .int a1, .int (nI (t / 10)), .int a3, .int (0 : Int32)] S1 = some (nI (drM n a3 a1 (drF n P cs gap (t % 10) false) (t / 10)).2, S2) := (c_X8_mornings sc S1 _ _ _ _).trans g1
    refine ⟨nI (drM n a3 a1 (drF n P cs gap (t % 10) false) (t / 10)).2, S2, S3, ?_, ?_, g2, f2, k2⟩
    · rw [c_X10_drawn, cC _ h1]
      dsimp only
      rw [if_neg t1, e2, s_isWay, Option.bind_some]
      dsimp only
      rw [zb_t h2, if_neg t1, s_w12, Option.bind_some]
      dsimp only
      rw [zb_t h3, if_neg t1, s_w1, Option.bind_some]
      dsimp only
      rw [zb_t h4, if_pos t2, b1, Option.bind_some, if_pos z, e1, gm, Option.bind_some]
    · show zcI sc zm_X11_drawn [.ref 51, .int a1, .int a2, .int a3, .int a4] S2 = _
      rw [c_X11_drawn, cM]
      dsimp only
      rw [if_neg t1, e2, m_isWay', Option.bind_some]
      dsimp only
      rw [zb_t h2, if_neg t1, m_w12, Option.bind_some]
      dsimp only
      rw [zb_t h3, if_neg t1, m_w1, Option.bind_some]
      dsimp only
      rw [zb_t h4, if_pos t2]
      exact k1
