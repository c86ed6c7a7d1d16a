/-! ===== a number set in both ===== -/
abbrev vld (n p w : Nat) : Prop := (w < 8 ∧ p < n) ∨ (8 ≤ w ∧ w < 10 ∧ p = 0)
abbrev zci (p w : Nat) : Nat := if w < 8 then 8 * p + w else 56 + w
def vlN (P : Nat → Nat → Nat) (gap cn p w : Nat) : Int32 := if w < 8 then zpv w (P p w) else if w = 8 then nI gap else nI cn
theorem zhas_n {n : Nat} (hn : n ≤ 8) {a b : Int32} : zhas (nI n) a b ↔ ∃ p w : Nat, a = nI p ∧ b = nI w ∧ vld n p w := by
  constructor
  · intro h
    unfold zhas at h
    rw [zi_nI (by omega)] at h
    rcases h with ⟨h1, h2, h3, h4⟩ | ⟨h1, h2, h3⟩
    · obtain ⟨p, hp, rfl⟩ := zi_of h3
      obtain ⟨w, hw, rfl⟩ := zi_of h1
      rw [zi_nI hp] at h4
      rw [zi_nI hw] at h2
      exact ⟨p, w, rfl, rfl, Or.inl ⟨by omega, by omega⟩⟩
    · obtain ⟨w, hw, rfl⟩ := zi_of (x := b) (by omega)
      rw [zi_nI hw] at h1 h2
      refine ⟨0, w, ?_, rfl, Or.inr ⟨by omega, by omega, rfl⟩⟩
      rw [zi_eq, h3]; rfl
  · rintro ⟨p, w, rfl, rfl, h⟩
    unfold zhas
    rw [zi_nI (by omega), zi_nI (by omega), zi_nI (by omega)]
    omega
theorem zsl_n {n p w : Nat} (hn : n ≤ 8) (h : vld n p w) : zsl (nI p) (nI w) = zci p w := by
  unfold zsl zci
  rw [zi_nI (by omega), n_cl (by omega), n_cl (by omega)]
  by_cases c : w < 8
  · rw [if_pos (by omega), if_pos c]
  · rw [if_neg (by omega), if_neg c]
theorem c_hasN (sc : zSc) {n : Nat} {P : Nat → Nat → Nat} {S : zS} (h : zPC n P S) (a b : Int32) : zcI sc zm_X4_has [.ref 1, .int a, .int b] S = some (zb (zhas (nI n) a b), S) := by
  rw [s_has sc S a b (zPC_sz h), h.1]
theorem c_getN (sc : zSc) {n : Nat} {P : Nat → Nat → Nat} {cs : List Int32} {gap cn ver : Nat} {S : zS} (h : zV1 n P cs gap cn ver S) {p w : Nat} (hv : vld n p w) : zcI sc zm_X4_get [.ref 1, .int (nI p), .int (nI w)] S = some (vlN P gap cn p w, S) := by
  have hn := h.1.1.2.1
  rw [s_get sc S _ _ (zPC_sz h.1.1) (by rw [h.1.1.1]; exact (zhas_n hn).mpr ⟨p, w, rfl, rfl, hv⟩), zsl_n hn hv]
  unfold vlN zci
  by_cases c : w < 8
  · rw [if_pos c, if_pos c, h.1.1.2.2 p w (by omega) c]
  · rw [if_neg c, if_neg c]
    rcases (by omega : w = 8 ∨ w = 9) with rfl | rfl
    · rw [if_pos rfl, h.1.2.2.1]
    · rw [if_neg (by omega), h.2.2.1]
theorem m_valN {n : Nat} {P : Nat → Nat → Nat} {cs : List Int32} {gap cn ver : Nat} {S : zS} (h : zV1 n P cs gap cn ver S) {p w : Nat} (hv : vld n p w) : S.1 52 (zpl p w) = vlN P gap cn p w := by
  unfold vlN zpl
  by_cases c : w < 8
  · rw [if_pos c, if_pos c, h.2.1.1.2.2 p w (by omega) c]
  · rw [if_neg c, if_neg c]
    rcases (by omega : w = 8 ∨ w = 9) with rfl | rfl
    · rw [if_pos rfl, h.2.1.2.1]
    · rw [if_neg (by omega), h.2.2.2.1]
theorem m_placeOf (sc : zSc) {n : Nat} {P : Nat → Nat → Nat} {S : zS} (h : zPM n P S) (a b : Int32) :
    (∀ p w : Nat, a = nI p → b = nI w → vld n p w → zcI sc zm_X11_placeOf [.ref 51, .int a, .int b] S = some (nI (zpl p w), S)) ∧ (¬ zhas (nI n) a b → zcI sc zm_X11_placeOf [.ref 51, .int a, .int b] S = some (-1, S)) := by
  have hn := h.2.1
  constructor
  · rintro p w rfl rfl hv
    rw [c_X11_placeOf, m_w7, Option.bind_some]
    dsimp only
    by_cases c : w < 8
    · rw [zb_t (by unfold rg; rw [zi_nI (by omega)]; omega), if_neg (by decide), m_isOne sc h, Option.bind_some]
      dsimp only
      rw [zb_t (by unfold rgp; rw [zi_nI (by omega)]; omega), if_neg (by decide), show (8 : Int32) = nI 8 from rfl, zn_mul, zn_add]
      unfold zpl
      rw [if_pos c]
    · have hp : p = 0 := by omega
      subst hp
      rw [zb_f (by unfold rg; rw [zi_nI (by omega)]; omega), if_pos rfl, if_neg (fun q => q rfl), m_within, Option.bind_some]
      dsimp only
      rw [zb_t (by rw [l32, zi_nI (by omega), show (8 : Int64).toInt = 8 from rfl, show (9 : Int64).toInt = 9 from rfl]; omega), if_neg (by decide), show (64 : Int32) = nI 64 from rfl, zn_add, show (8 : Int32) = nI 8 from rfl, zn_sub (by omega)]
      unfold zpl
      rw [if_neg c, show 64 + w - 8 = 56 + w by omega]
  · intro hh
    unfold zhas at hh
    rw [zi_nI (by omega)] at hh
    rw [c_X11_placeOf, m_w7, Option.bind_some]
    dsimp only
    by_cases c : rg b 7
    · rw [zb_t c, if_neg (by decide), m_isOne sc h, Option.bind_some]
      dsimp only
      have : ¬ rgp a n := by unfold rg at c; unfold rgp; omega
      rw [zb_f this, if_pos rfl]
    · rw [zb_f c, if_pos rfl]
      by_cases d : a = 0
      · rw [if_neg (fun q => q d), m_within, Option.bind_some]
        dsimp only
        rw [zb_f (by
          rw [l32, show (8 : Int64).toInt = 8 from rfl, show (9 : Int64).toInt = 9 from rfl]
          have : a.toInt = 0 := by rw [d]; rfl
          omega), if_pos rfl]
      · rw [if_pos d]
theorem zV1_set {n : Nat} {P : Nat → Nat → Nat} {cs : List Int32} {gap cn ver : Nat} {S S' : zS} (h : zV1 n P cs gap cn ver S) {p w v : Nat} (hv : vld n p w) (ht : ftN w v) (hver : ver + 1 < 2147483648)
    (g11 : S'.1 1 1 = S.1 1 1) (g12 : S'.1 1 2 = nI (ver + 1)) (g2 : ∀ j, S'.1 2 j = if j = zci p w then zpv w v else S.1 2 j) (g52 : ∀ j, S'.1 52 j = if j = zpl p w then zpv w v else S.1 52 j)
    (g67 : S'.1 6 7 = S.1 6 7) (g62 : S'.1 6 2 = S.1 6 2) (g7 : ∀ j, S'.1 7 j = S.1 7 j) (g516 : S'.1 51 6 = S.1 51 6) (g5111 : S'.1 51 11 = S.1 51 11) (g58 : ∀ j, S'.1 58 j = S.1 58 j) (g5118 : S'.1 51 18 = S.1 51 18) :
    ∃ P' gap' cn', zV1 n P' cs gap' cn' (ver + 1) S' := by
  have hn := h.1.1.2.1
  refine ⟨if w < 8 then zQs P p w v else P, if w = 8 then v else gap, if w = 9 then v else cn, ⟨⟨g11.trans h.1.1.1, hn, fun q u hq hu => ?_⟩, fun q hq => ?_, ?_, zCD_cg h.1.2.2.2.1 g62 g7, fun e => ?_, g12, hver, ?_⟩, ⟨⟨g516.trans h.2.1.1.1, hn, fun q u hq hu => ?_⟩, ?_, zTX_cg h.2.1.2.2.1 g5111 g58, zTD_cg h.2.1.2.2.2 g5118⟩, ?_, ?_, ?_, ?_, fun q u h1 h2 h3 => ?_⟩
  · rw [g2]
    by_cases c : w < 8
    · rw [if_pos c]
      unfold zQs zci
      rw [if_pos c]
      by_cases e : q = p ∧ u = w
      · rw [if_pos (by omega), if_pos e, e.2]
      · rw [if_neg (by omega), if_neg e]; exact h.1.1.2.2 q u hq hu
    · rw [if_neg c]
      unfold zci
      rw [if_neg c, if_neg (by omega)]; exact h.1.1.2.2 q u hq hu
  · have := h.1.2.1 q hq
    by_cases c : w < 8
    · rw [if_pos c]
      unfold zQs
      by_cases e : q = p
      · rw [e] at this ⊢
        have hw : w = 0 ∨ w = 1 ∨ w = 2 ∨ w = 3 ∨ w = 4 ∨ w = 5 ∨ w = 6 ∨ w = 7 := by omega
        rcases hw with rfl | rfl | rfl | rfl | rfl | rfl | rfl | rfl <;> simp <;> omega
      · have k : ∀ u, (if q = p ∧ u = w then v else P q u) = P q u := fun u => if_neg (fun j => e j.1)
        rw [k, k, k, k, k, k, k, k]
        exact this
    · rw [if_neg c]; exact this
  · rw [g2]
    unfold zci
    by_cases c : w = 8
    · rw [if_pos c, c, if_pos (by split <;> omega)]; rfl
    · rw [if_neg c, if_neg (by split <;> omega)]; exact h.1.2.2.1
  · exfalso
    rw [g67, g12] at e
    rcases h.1.2.2.2.2.2.2.2 with k | ⟨x, k1, k2⟩
    · rw [k] at e; exact nI_m1 hver e.symm
    · rw [k2, n_eq (by omega) hver] at e; omega
  · rw [g67]
    rcases h.1.2.2.2.2.2.2.2 with k | ⟨x, k1, k2⟩
    · exact Or.inl k
    · exact Or.inr ⟨x, by omega, k2⟩
  · rw [g52]
    by_cases c : w < 8
    · rw [if_pos c]
      unfold zQs zpl
      rw [if_pos c]
      by_cases e : q = p ∧ u = w
      · rw [if_pos (by omega), if_pos e, e.2]
      · rw [if_neg (by omega), if_neg e]; exact h.2.1.1.2.2 q u hq hu
    · rw [if_neg c]
      unfold zpl
      rw [if_neg c, if_neg (by omega)]; exact h.2.1.1.2.2 q u hq hu
  · rw [g52]
    unfold zpl
    by_cases c : w = 8
    · rw [if_pos c, c, if_pos (by split <;> omega)]; rfl
    · rw [if_neg c, if_neg (by split <;> omega)]; exact h.2.1.2.1
  · rw [g2]
    unfold zci
    by_cases c : w = 9
    · rw [if_pos c, c, if_pos (by split <;> omega)]; rfl
    · rw [if_neg c, if_neg (by split <;> omega)]; exact h.2.2.1
  · rw [g52]
    unfold zpl
    by_cases c : w = 9
    · rw [if_pos c, c, if_pos (by split <;> omega)]; rfl
    · rw [if_neg c, if_neg (by split <;> omega)]; exact h.2.2.2.1
  · split <;> omega
  · split <;> omega
  · rw [g2]
    unfold zci
    rw [if_neg (by split <;> omega)]; exact h.2.2.2.2.2.2 q u h1 h2 h3
/-! ===== of, led, count, feed ===== -/
theorem zInv_self {t : Nat} {S : zS} (h : zInv t S) {v : Int32} {C : Option (Int32 × zS)} {M : zS → Option (Int32 × zS)} (c : C = some (v, S)) (m : M S = some (v, S)) : zOp t C M := ⟨v, S, S, c, m, zInv_up h (by omega)⟩
theorem o_count (sc : zSc) {t : Nat} {S : zS} (h : zInv t S) (a1 : Int32) : zOp t (zcI sc zm_X10_count [.ref 0, .int a1] S) (fun S => zcI sc zm_X11_count [.ref 51, .int a1] S) := by
  have h0 := h
  obtain ⟨n, P, cs, gap, cn, ver, vs, ht, h1, ⟨tn, tb, b1, b2, b3, _⟩, h3, ⟨dn, sz, d1, d2, d3, d4, _⟩, ⟨e1, e2, e3, _, r, r1, r2, r3, _⟩, h6⟩ := h
  refine zInv_self h0 (v := if a1 = 0 then nI n else if a1 = 1 then nI tn else if a1 = 2 then nI dn else if a1 = 3 then nI vs else if a1 = 4 then nI r else -1) ?_ ?_
  · rw [c_X10_count, h1.1.1.1, b2, d3, e2, r2, sif, sif, sif, sif, sif]
  · show zcI sc zm_X11_count [.ref 51, .int a1] S = _
    rw [c_X11_count, h1.2.1.1.1, b3, d4, e3, r3, sif, sif, sif, sif, sif]
theorem o_led (sc : zSc) {t : Nat} {S : zS} (h : zInv t S) (a1 : Int32) : zOp t (zcI sc zm_X10_led [.ref 0, .int a1] S) (fun S => zcI sc zm_X11_led [.ref 51, .int a1] S) := by
  have h0 := h
  obtain ⟨n, P, cs, gap, cn, ver, vs, ht, h1, h2, h3, h4, h5, h6⟩ := h
  by_cases c : rg a1 4
  · obtain ⟨k, rfl, hk⟩ := rg_n c
    refine zInv_self h0 (v := S.1 26 k) ?_ ?_
    · rw [c_X10_led, s_w4, Option.bind_some]
      dsimp only
      rw [zb_t c, if_neg (by decide), c_X2_told, s_w4, Option.bind_some]
      dsimp only
      rw [zb_t c, if_neg (by decide), if_neg (by first | (rw [n_ob (by omega)]; omega) | (rw [n_obb (by omega)]; omega)), n_cl (by omega), Option.bind_some]
    · show zcI sc zm_X11_led [.ref 51, .int (nI k)] S = _
      rw [c_X11_led, m_w4, Option.bind_some]
      dsimp only
      rw [zb_t c, if_neg (by decide), if_neg (by first | (rw [n_ob (by omega)]; omega) | (rw [n_obb (by omega)]; omega)), n_cl (by omega), h3.2.1 k (by omega)]
  · refine zInv_self h0 (v := -1) ?_ ?_
    · rw [c_X10_led, s_w4, Option.bind_some]
      dsimp only
      rw [zb_f c]; exact if_pos rfl
    · show zcI sc zm_X11_led [.ref 51, .int a1] S = _
      rw [c_X11_led, m_w4, Option.bind_some]
      dsimp only
      rw [zb_f c]; exact if_pos rfl
theorem o_of (sc : zSc) {t : Nat} {S : zS} (h : zInv t S) (a1 a2 : Int32) : zOp t (zcI sc zm_X10_of [.ref 0, .int a1, .int a2] S) (fun S => zcI sc zm_X11_of [.ref 51, .int a1, .int a2] S) := by
  have h0 := h
  obtain ⟨n, P, cs, gap, cn, ver, vs, ht, h1, h2, h3, h4, h5, h6⟩ := h
  have hn := h1.1.1.2.1
  obtain ⟨m1, m2⟩ := m_placeOf sc h1.2.1.1 a1 a2
  have neg : (-1 : Int32) < 0 := by decide
  by_cases c : a2 = 10
  · have nh : ¬ zhas (nI n) a1 a2 := by
      unfold zhas
      have : a2.toInt = 10 := by rw [c]; rfl
      omega
    by_cases g : rgp a1 n
    · obtain ⟨p, rfl, hp⟩ := rgp_n g
      refine zInv_self h0 (v := S.1 25 p) ?_ ?_
      · rw [c_X10_of, if_neg (fun q => q c), c_isOne sc h1.1.1, Option.bind_some]
        dsimp only
        rw [zb_t g, if_neg (by decide), c_X2_marksOf, s_w7, Option.bind_some]
        dsimp only
        rw [zb_t (by unfold rg; rw [zi_nI (by omega)]; omega), if_neg (by decide), if_neg (by first | (rw [n_ob (by omega)]; omega) | (rw [n_obb (by omega)]; omega)), n_cl (by omega), Option.bind_some]
      · show zcI sc zm_X11_of [.ref 51, .int (nI p), .int a2] S = _
        rw [c_X11_of, m2 nh, Option.bind_some]
        dsimp only
        rw [if_pos neg, if_neg (fun q => q c), m_isOne sc h1.2.1.1, Option.bind_some]
        dsimp only
        rw [zb_t g, if_neg (by decide), if_neg (by first | (rw [n_ob (by omega)]; omega) | (rw [n_obb (by omega)]; omega)), n_cl (by omega), h3.1 p (by omega)]
    · refine zInv_self h0 (v := -2000000000) ?_ ?_
      · rw [c_X10_of, if_neg (fun q => q c), c_isOne sc h1.1.1, Option.bind_some]
        dsimp only
        rw [zb_f g]; exact if_pos rfl
      · show zcI sc zm_X11_of [.ref 51, .int a1, .int a2] S = _
        rw [c_X11_of, m2 nh, Option.bind_some]
        dsimp only
        rw [if_pos neg, if_neg (fun q => q c), m_isOne sc h1.2.1.1, Option.bind_some]
        dsimp only
        rw [zb_f g]; exact if_pos rfl
  · by_cases g : zhas (nI n) a1 a2
    · obtain ⟨p, w, e1, e2, hv⟩ := (zhas_n hn).mp g
      have hpl : zpl p w < 66 := by unfold zpl; split <;> omega
      refine zInv_self h0 (v := vlN P gap cn p w) ?_ ?_
      · rw [c_X10_of, if_pos c, c_hasN sc h1.1.1, Option.bind_some]
        dsimp only
        rw [zb_t g, if_neg (by decide), e1, e2, c_getN sc h1 hv, Option.bind_some]
      · show zcI sc zm_X11_of [.ref 51, .int a1, .int a2] S = _
        rw [c_X11_of, m1 p w e1 e2 hv, Option.bind_some]
        dsimp only
        rw [if_neg (by rw [n_lt0 (by omega)]; exact id), if_neg (by first | (rw [n_ob (by omega)]; omega) | (rw [n_obb (by omega)]; omega)), n_cl (by omega), m_valN h1 hv]
    · refine zInv_self h0 (v := -2000000000) ?_ ?_
      · rw [c_X10_of, if_pos c, c_hasN sc h1.1.1, Option.bind_some]
        dsimp only
        rw [zb_f g]; exact if_pos rfl
      · show zcI sc zm_X11_of [.ref 51, .int a1, .int a2] S = _
        rw [c_X11_of, m2 g, Option.bind_some]
        dsimp only
        rw [if_pos neg, if_pos c]
