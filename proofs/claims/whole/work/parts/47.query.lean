/-! ===== questions: the class and the model side by side ===== -/
abbrev rg (a : Int32) (k : Int) : Prop := 0 ≤ a.toInt ∧ a.toInt ≤ k
abbrev rgp (a : Int32) (n : Nat) : Prop := 0 ≤ a.toInt ∧ a.toInt < n
abbrev tok (a : Int32) : Prop := 0 ≤ a.toInt ∧ a.toInt ≤ 99 ∧ a.toInt % 10 ≤ 2
theorem rg_n {a : Int32} {k : Int} (h : rg a k) : ∃ j : Nat, a = nI j ∧ (j : Int) ≤ k := by
  obtain ⟨j, e, _, h2⟩ := n_rg (x := a) (a := 0) (b := k) h (by omega)
  exact ⟨j, e, h2⟩
theorem rgp_n {a : Int32} {n : Nat} (h : rgp a n) : ∃ j : Nat, a = nI j ∧ j < n := by
  obtain ⟨j, e, _, h2⟩ := n_rg (x := a) (a := 0) (b := (n : Int) - 1) ⟨h.1, by have := h.2; omega⟩ (by omega)
  exact ⟨j, e, by omega⟩
theorem n_div {t : Nat} (h : t < 2147483648) : nI t / (10 : Int32) = nI (t / 10) := (Int32.ofNat_div (a := t) (b := 10) (by omega) (by omega)).symm
theorem n_mod {t : Nat} (h : t < 2147483648) : nI t - nI t / (10 : Int32) * (10 : Int32) = nI (t % 10) := by
  rw [n_div h, show (10 : Int32) = nI 10 from rfl, zn_mul, zn_sub (by omega)]
  congr 1
  omega
theorem tok_n {a : Int32} (h : tok a) : ∃ t : Nat, a = nI t ∧ t / 10 < 10 ∧ t % 10 < 3 ∧ a / 10 = nI (t / 10) ∧ a - a / 10 * 10 = nI (t % 10) := by
  obtain ⟨t, e, h2⟩ := rg_n (a := a) (k := 99) ⟨h.1, h.2.1⟩
  have h3 := h.2.2
  rw [e, zi_nI (by omega)] at h3
  exact ⟨t, e, by omega, by omega, by rw [e]; exact n_div (by omega), by rw [e]; exact n_mod (by omega)⟩
theorem zi_div10 {x : Int32} (h : 0 ≤ x.toInt) : (x / (10 : Int32)).toInt = x.toInt / 10 ∧ (x - x / (10 : Int32) * (10 : Int32)).toInt = x.toInt % 10 := by
  obtain ⟨t, ht, rfl⟩ := zi_of h
  rw [n_mod ht, n_div ht, zi_nI (by omega), zi_nI (by omega), zi_nI (by omega)]
  omega
theorem s_isWay (sc : zSc) (S : zS) (a : Int32) : zcI sc zm_X10_isWay [.int a] S = some (zb (rg a 2), S) := by
  rw [c_X10_isWay, s_within, Option.bind_some]; exact zb_id
theorem s_isLesson (sc : zSc) (S : zS) (a : Int32) : zcI sc zm_X10_isLesson [.int a] S = some (zb (rg a 9), S) := by
  rw [c_X10_isLesson, s_within, Option.bind_some]; exact zb_id
theorem s_isBits (sc : zSc) (S : zS) (a : Int32) : zcI sc zm_X10_isBits [.int a] S = some (zb (rg a 255), S) := by
  rw [c_X10_isBits, s_within, Option.bind_some]; exact zb_id
theorem s_isShelf (sc : zSc) (S : zS) (a : Int32) : zcI sc zm_X10_isShelf [.int a] S = some (zb (rg a 5), S) := by
  rw [c_X10_isShelf, s_within, Option.bind_some]; exact zb_id
theorem s_isLW (sc : zSc) (S : zS) (a : Int32) : zcI sc zm_X10_isLessonAndWay [.int a] S = some (zb (tok a), S) := by
  rw [c_X10_isLessonAndWay, s_within, Option.bind_some]
  dsimp only
  rw [show (0 : Int32).toInt = 0 from rfl, show (99 : Int32).toInt = 99 from rfl]
  by_cases h : 0 ≤ a.toInt ∧ a.toInt ≤ 99
  · have e := (zi_div10 h.1).2
    rw [zb_t h, if_neg (by decide), s_isWay, Option.bind_some]
    dsimp only
    by_cases g : rg (a - a / 10 * 10) 2
    · rw [zb_t g, if_neg (by decide), zb_t]
      unfold rg at g; unfold tok; omega
    · rw [zb_f g, if_pos rfl, zb_f]
      unfold rg at g; unfold tok; omega
  · rw [zb_f h, if_pos rfl, zb_f]
    unfold tok; omega
theorem m_isTw (sc : zSc) (S : zS) (a : Int32) : zcI sc zm_X11_isTw [.int a] S = some (zb (tok a), S) := by
  rw [c_X11_isTw]
  by_cases h : a < 0
  · rw [if_pos h, zb_f]
    rw [zi_lt, show (0 : Int32).toInt = 0 from rfl] at h
    unfold tok; omega
  · have h0 : 0 ≤ a.toInt := by rw [zi_lt, show (0 : Int32).toInt = 0 from rfl] at h; omega
    obtain ⟨e1, e2⟩ := zi_div10 h0
    rw [if_neg h, m_isLesson, Option.bind_some]
    dsimp only
    rw [l32]
    by_cases g : 0 ≤ (a / 10).toInt ∧ (a / 10).toInt ≤ 9
    · rw [zb_t g, if_neg (by decide), m_isWay, Option.bind_some]
      dsimp only
      by_cases k : 0 ≤ (a - a / 10 * 10).toInt ∧ (a - a / 10 * 10).toInt ≤ 2
      · rw [zb_t k, if_neg (by decide), zb_t]
        unfold tok; omega
      · rw [zb_f k, if_pos rfl, zb_f]
        unfold tok; omega
    · rw [zb_f g, if_pos rfl, zb_f]
      unfold tok; omega
theorem c_isOne (sc : zSc) {n : Nat} {P : Nat → Nat → Nat} {S : zS} (h : zPC n P S) (a : Int32) : zcI sc zm_X4_isOne [.ref 1, .int a] S = some (zb (rgp a n), S) := by
  have hn := h.2.1
  rw [s_isOne sc S a (zPC_sz h)]
  refine zb_sm ?_
  rw [h.1, zi_nI (by omega)]
theorem m_isOne (sc : zSc) {n : Nat} {P : Nat → Nat → Nat} {S : zS} (h : zPM n P S) (a : Int32) : zcI sc zm_X11_isPupil [.ref 51, .long a.toInt64] S = some (zb (rgp a n), S) := by
  rw [m_isPupil sc h.1 h.2.1]
  refine zb_sm ?_
  rw [l32]
theorem s_w1 (sc : zSc) (S : zS) (a : Int32) : zcI sc zm_X10_within [.int a, .int (0 : Int32), .int (1 : Int32)] S = some (zb (rg a 1), S) := s_within sc S a 0 1
theorem m_w1 (sc : zSc) (S : zS) (a : Int32) : zcI sc zm_X11_within [.long a.toInt64, .long (Int64.ofNat 0), .long (Int64.ofNat 1)] S = some (zb (rg a 1), S) := by
  rw [m_within]
  refine zb_sm ?_
  rw [l32, l64_0, show (Int64.ofNat 1).toInt = 1 from rfl]
theorem s_w2 (sc : zSc) (S : zS) (a : Int32) : zcI sc zm_X10_within [.int a, .int (0 : Int32), .int (2 : Int32)] S = some (zb (rg a 2), S) := s_within sc S a 0 2
theorem m_w2 (sc : zSc) (S : zS) (a : Int32) : zcI sc zm_X11_within [.long a.toInt64, .long (Int64.ofNat 0), .long (2 : Int64)] S = some (zb (rg a 2), S) := by
  rw [m_within]
  refine zb_sm ?_
  rw [l32, l64_0, show (2 : Int64).toInt = 2 from rfl]
theorem s_w4 (sc : zSc) (S : zS) (a : Int32) : zcI sc zm_X10_within [.int a, .int (0 : Int32), .int (4 : Int32)] S = some (zb (rg a 4), S) := s_within sc S a 0 4
theorem m_w4 (sc : zSc) (S : zS) (a : Int32) : zcI sc zm_X11_within [.long a.toInt64, .long (Int64.ofNat 0), .long (4 : Int64)] S = some (zb (rg a 4), S) := by
  rw [m_within]
  refine zb_sm ?_
  rw [l32, l64_0, show (4 : Int64).toInt = 4 from rfl]
theorem s_w10 (sc : zSc) (S : zS) (a : Int32) : zcI sc zm_X10_within [.int a, .int (0 : Int32), .int (10 : Int32)] S = some (zb (rg a 10), S) := s_within sc S a 0 10
theorem m_w10 (sc : zSc) (S : zS) (a : Int32) : zcI sc zm_X11_within [.long a.toInt64, .long (Int64.ofNat 0), .long (10 : Int64)] S = some (zb (rg a 10), S) := by
  rw [m_within]
  refine zb_sm ?_
  rw [l32, l64_0, show (10 : Int64).toInt = 10 from rfl]
theorem s_w12 (sc : zSc) (S : zS) (a : Int32) : zcI sc zm_X10_within [.int a, .int (0 : Int32), .int (12 : Int32)] S = some (zb (rg a 12), S) := s_within sc S a 0 12
theorem m_w12 (sc : zSc) (S : zS) (a : Int32) : zcI sc zm_X11_within [.long a.toInt64, .long (Int64.ofNat 0), .long (12 : Int64)] S = some (zb (rg a 12), S) := by
  rw [m_within]
  refine zb_sm ?_
  rw [l32, l64_0, show (12 : Int64).toInt = 12 from rfl]
theorem s_w29 (sc : zSc) (S : zS) (a : Int32) : zcI sc zm_X10_within [.int a, .int (0 : Int32), .int (29 : Int32)] S = some (zb (rg a 29), S) := s_within sc S a 0 29
theorem m_w29 (sc : zSc) (S : zS) (a : Int32) : zcI sc zm_X11_within [.long a.toInt64, .long (Int64.ofNat 0), .long (29 : Int64)] S = some (zb (rg a 29), S) := by
  rw [m_within]
  refine zb_sm ?_
  rw [l32, l64_0, show (29 : Int64).toInt = 29 from rfl]
theorem s_w8 (sc : zSc) (S : zS) (a : Int32) : zcI sc zm_X10_within [.int a, .int (0 : Int32), .int (8 : Int32)] S = some (zb (rg a 8), S) := s_within sc S a 0 8
theorem m_w8 (sc : zSc) (S : zS) (a : Int32) : zcI sc zm_X11_within [.long a.toInt64, .long (Int64.ofNat 0), .long (8 : Int64)] S = some (zb (rg a 8), S) := by
  rw [m_within]
  refine zb_sm ?_
  rw [l32, l64_0, show (8 : Int64).toInt = 8 from rfl]
theorem s_w7 (sc : zSc) (S : zS) (a : Int32) : zcI sc zm_X10_within [.int a, .int (0 : Int32), .int (7 : Int32)] S = some (zb (rg a 7), S) := s_within sc S a 0 7
theorem m_w7 (sc : zSc) (S : zS) (a : Int32) : zcI sc zm_X11_within [.long a.toInt64, .long (Int64.ofNat 0), .long (7 : Int64)] S = some (zb (rg a 7), S) := by
  rw [m_within]
  refine zb_sm ?_
  rw [l32, l64_0, show (7 : Int64).toInt = 7 from rfl]
theorem s_w9999 (sc : zSc) (S : zS) (a : Int32) : zcI sc zm_X10_within [.int a, .int (0 : Int32), .int (9999 : Int32)] S = some (zb (rg a 9999), S) := s_within sc S a 0 9999
theorem m_w9999 (sc : zSc) (S : zS) (a : Int32) : zcI sc zm_X11_within [.long a.toInt64, .long (Int64.ofNat 0), .long (9999 : Int64)] S = some (zb (rg a 9999), S) := by
  rw [m_within]
  refine zb_sm ?_
  rw [l32, l64_0, show (9999 : Int64).toInt = 9999 from rfl]
theorem m_isWay' (sc : zSc) (S : zS) (a : Int32) : zcI sc zm_X11_isWay [.int a] S = some (zb (rg a 2), S) := m_isWay sc S a
theorem m_isSet' (sc : zSc) (S : zS) (a : Int32) : zcI sc zm_X11_isSet [.int a] S = some (zb (rg a 255), S) := m_isSet sc S a
theorem m_isShelf' (sc : zSc) (S : zS) (a : Int32) : zcI sc zm_X11_isShelf [.int a] S = some (zb (rg a 5), S) := m_isShelf sc S a
theorem m_isLesson' (sc : zSc) (S : zS) (a : Int32) : zcI sc zm_X11_isLesson [.long a.toInt64] S = some (zb (rg a 9), S) := by
  rw [m_isLesson]
  refine zb_sm ?_
  rw [l32]
theorem sif {c : Prop} {i : Decidable c} (a b : Int32) (S : zS) : (@ite _ c i (some (a, S)) (some (b, S))) = some (@ite _ c i a b, S) := by split <;> rfl
/-- a question asked of both -/
abbrev zQ (n : Nat) (P : Nat → Nat → Nat) (cs : List Int32) (gap ver : Nat) (C : Option (Int32 × zS)) (M : zS → Option (Int32 × zS)) (S : zS) : Prop :=
  ∃ v S1 S2, C = some (v, S1) ∧ M S1 = some (v, S2) ∧ zCE n P cs gap ver S1 ∧ zfr zkC S S1 ∧ zfr zkMq S1 S2
theorem zME_C {n : Nat} {P : Nat → Nat → Nat} {cs : List Int32} {gap : Nat} {o : Option Nat} {S S' : zS} (h : zME n P cs gap o S) (f : zfr zkC S S') : zME n P cs gap o S' :=
  ⟨zPM_cg h.1 (f.1 51 6 rfl) (fun j => f.1 52 j rfl), (f.1 52 64 rfl).trans h.2.1, zTX_cg h.2.2.1 (f.1 51 11 rfl) (fun j => f.1 58 j rfl), zTD_cg h.2.2.2 (f.1 51 18 rfl)⟩
theorem th_lesson {n : Nat} {P Q : Nat → Nat → Nat} (h : zQP Q P) (l : Nat) : ∀ p, p < n → ∀ t, zth (hmk (yhf P l) n) (fun q => Q q 7) p t = thM none Q l p t := by
  intro p hp t
  show ((hmk (yhf P l) n).testBit p && decide (Q p 7 ≤ t)) = (yhf Q l p && decide (Q p 7 ≤ t))
  rw [hmk_bt, zQP_hf h, decide_eq_true hp, Bool.true_and]
theorem c_makeL (sc : zSc) {n way : Nat} {P Q : Nat → Nat → Nat} {cs : List Int32} {gap ver lk l : Nat} {S : zS} (h : zRY n way P Q cs gap ver S) (h11 : S.1 12 11 = nI (hmk (yhf P l) n)) (h16 : ∀ q, q < n → S.1 16 q = nI (Q q 7)) (hlk : lk < 256) :
    ∃ S', zcV sc zm_X0_make [.ref 12, .int (nI lk)] S = some S' ∧ zRX n (kcm n Q cs gap none l way lk n) S' ∧ zRY n way P Q cs gap ver S' ∧ S'.1 12 11 = nI (hmk (yhf P l) n) ∧ (∀ q, q < n → S'.1 16 q = nI (Q q 7)) ∧ zfr zkC S S' ∧ zfr (zk [8, 9, 11, 17, 18, 19] [(12, 10), (12, 12), (12, 13), (12, 14), (12, 15), (12, 16)]) S S' :=
  c_make sc h (hmk_lt _ n h.1.1.2.1) h11 (fun q k => ⟨h16 q k, (h.2.2.2.2.2.1 q k).2.2.2.2.2.2.2.2⟩) hlk (th_lesson h.2.2.2.2.1 l)
theorem c_byWay (sc : zSc) {n : Nat} {P : Nat → Nat → Nat} {cs : List Int32} {gap ver l way lk : Nat} {S : zS} (h : zCE n P cs gap ver S) (hl : l < 10) (hw : way < 3) (hlk : lk < 256) :
    ∃ S', zcV sc zm_X0_inLessonByWay [.ref 12, .int (nI l), .int (nI way), .int (nI lk)] S = some S' ∧ zRX n (kcm n P cs gap none l way lk n) S' ∧ zRY n way P P cs gap ver S' ∧ S'.1 12 11 = nI (hmk (yhf P l) n) ∧ zfr zkC S S' := by
  obtain ⟨S1, a1, a2, a3⟩ := c_load sc h hw
  obtain ⟨S2, b1, b2, b3, b4, b5⟩ := c_inLesson sc a2 hl
  obtain ⟨S3, d1, d2, d3, d4, d5, d6, _⟩ := c_makeL sc b2 b3 b4 hlk
  refine ⟨S3, ?_, d2, d3, d4, zfr_tr a3 (zfr_tr b5 d6)⟩
  rw [c_X0_inLessonByWay, a1, Option.bind_some, b1, Option.bind_some, d1, Option.bind_some]
theorem kcm_good {n : Nat} {P : Nat → Nat → Nat} {cs : List Int32} {gap : Nat} {o : Option Nat} {l way lk : Nat} (hn : n ≤ 8) : kgood n n (kcm n P cs gap o l way lk n) :=
  kcl_good hn (fun _ k => od_lt (ykey P way) k) (fun _ _ _ _ => (tcl_b _).2) n (Nat.le_refl _)
theorem m_run (sc : zSc) {n : Nat} {P : Nat → Nat → Nat} {cs : List Int32} {gap : Nat} {o : Option Nat} {S : zS} (h : zME n P cs gap o S) (hr : zPR n P) {l way lk : Nat} (hl : l < 10) (hw : way < 3) (hlk : lk < 256) :
    ∃ S', zcV sc zm_X11_calls [.ref 51, .int (nI l), .int (nI way), .int (nI lk)] S = some S' ∧ zRM (kcm n P cs gap o l way lk n) S' ∧ zfr zkMc S S' ∧ zME n P cs gap o S' := by
  obtain ⟨S', a1, a2, a3⟩ := m_calls sc h hr hl hw hlk
  exact ⟨S', a1, a2, a3, zME_cg h a3⟩
/-- who is missed -/
def kms (n : Nat) (P : Nat → Nat → Nat) (l : Nat) (m : Nat) : Nat := hmk (yhf P l) n &&& (255 - m)
theorem s_missed (sc : zSc) {S : zS} {he m : Nat} (h1 : S.1 12 11 = nI he) (h2 : S.1 12 12 = nI m) (a : he < 256) (b : m < 256) : zcI sc zm_X0_missed [.ref 12] S = some (nI (he &&& (255 - m)), S) := by
  rw [c_X0_missed, h1, h2, n_andnot a b]
theorem bt_sub {m i : Nat} (hm : m < 256) : (255 - m).testBit i = (decide (i < 8) && !m.testBit i) := by
  have := Nat.testBit_two_pow_sub_succ (n := 8) (x := m) (by omega) i
  rw [show 2 ^ 8 - (m + 1) = 255 - m by omega] at this
  exact this
theorem hmk_minus (f : Nat → Bool) {m : Nat} (hm : m < 256) : ∀ k, k ≤ 8 → hmk f k &&& (255 - m) = hmk (fun p => f p && !m.testBit p) k := by
  intro k hk
  apply Nat.eq_of_testBit_eq
  intro i
  rw [Nat.testBit_and, hmk_bt, hmk_bt, bt_sub hm]
  by_cases c : i < k
  · rw [decide_eq_true c, decide_eq_true (show i < 8 by omega)]; simp
  · rw [decide_eq_false c]; simp
theorem m_missedIn (sc : zSc) {n : Nat} {P : Nat → Nat → Nat} {S : zS} (h : zPM n P S) (hr : zPR n P) {l m : Nat} (hl : l < 10) (hm : m < 256) (h21 : S.1 51 21 = nI m) : zcI sc zm_X11_missedIn [.ref 51, .int (nI l)] S = some (nI (kms n P l m), S) := by
  have hn := h.2.1
  have go : ∀ (k p : Nat), p + k = n → zO zgI sc (zg1, (zm_X11_missedIn, 3), 4, S, [some (.ref 51), some (.int (nI l)), some (.int (nI (hmk (fun p => yhf P l p && !m.testBit p) p))), some (.int (nI p))], []) = some (nI (hmk (fun p => yhf P l p && !m.testBit p) n), S) := by
    intro k
    induction k with
    | zero =>
      intro p hp
      have : p = n := by omega
      subst this
      rw [e_X11_missedIn_4, h.1, if_pos (by rw [n_le (by omega) (by omega)]; omega)]
    | succ k ih =>
      intro p hp
      have IH := ih (p + 1) (by omega)
      have es : hmk (fun p => yhf P l p && !m.testBit p) (p + 1) = if (yhf P l p && !m.testBit p) = true then hmk (fun p => yhf P l p && !m.testBit p) p ||| 2 ^ p else hmk (fun p => yhf P l p && !m.testBit p) p := rfl
      rw [e_X11_missedIn_4, h.1, if_neg (by rw [n_le (by omega) (by omega)]; omega), m_isHere sc h hr (by omega) hl, Option.bind_some]
      dsimp only
      rw [h21, m_isIn sc S hm (by omega), Option.bind_some]
      dsimp only
      rw [n_s1, n_sh (by omega), n_or, show nI (hmk (fun p => yhf P l p && !m.testBit p) p) ||| (0 : Int32) = nI (hmk (fun p => yhf P l p && !m.testBit p) p) from by rw [show (0 : Int32) = nI 0 from rfl, n_or, Nat.or_zero]]
      by_cases c : yhf P l p = true
      · rw [zb_t c, if_neg (by decide)]
        by_cases d : m.testBit p = true
        · rw [zb_t d, if_pos (by decide)]
          rw [if_neg (by rw [c, d]; decide)] at es
          rw [← es]; exact IH
        · rw [zb_f d, if_neg (by decide)]
          rw [if_pos (by rw [c]; simp [d])] at es
          rw [← es]; exact IH
      · rw [zb_f c, if_pos rfl]
        rw [if_neg (by simp [c])] at es
        rw [← es]; exact IH
  rw [c_X11_missedIn]
  refine (go n 0 (by omega)).trans ?_
  unfold kms
  rw [hmk_minus _ hm n hn]
