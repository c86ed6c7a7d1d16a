/-! ===== whom to ask ===== -/
theorem nxF_c {B : Nat → Bool} {F : Nat → Nat} {M : Nat} (h : ∀ p, F p ≤ M) : ∀ p, (nxF B F p).1 ≤ p ∧ (nxF B F p).2 ≤ M
  | 0 => ⟨Nat.le_refl _, Nat.zero_le _⟩
  | p + 1 => by
    have ih := nxF_c (B := B) h p
    have := h p
    unfold nxF
    split
    · exact ⟨by omega, ih.2⟩
    · split
      · exact ⟨Nat.le_refl _, this⟩
      · exact ⟨by omega, ih.2⟩
abbrev akW (F : Nat → Bool) (N p : Nat) : Nat := cnt (fun s => F s && s.testBit p) N
def akG (F : Nat → Bool) (N p : Nat) : Nat := if akW F N p ≤ cnt F N - akW F N p then cnt F N - akW F N p else akW F N p
theorem akW_le (F : Nat → Bool) (N p : Nat) : akW F N p ≤ cnt F N := cnt_mono N (fun q _ h => by
  have h' : (F q && q.testBit p) = true := h
  rw [Bool.and_eq_true] at h'
  exact h'.1)
theorem akG_le (F : Nat → Bool) (N p : Nat) : akG F N p ≤ N := by
  have h1 := akW_le F N p
  have h2 := cnt_le F N
  unfold akG
  split <;> omega
abbrev akX (F : Nat → Bool) (N p : Nat) : Nat × Nat := nxF (fun _ => false) (akG F N) p
theorem akX_s (F : Nat → Bool) (N p : Nat) : akX F N (p + 1) = if (akX F N p).1 = 0 ∨ akG F N p < (akX F N p).2 then (p + 1, akG F N p) else akX F N p := rfl
theorem c_ask_go (sc : zSc) {n : Nat} {F : Nat → Bool} {N : Nat} {S : zS} (hN : N ≤ 256) (h1 : S.1 1 1 = nI n) (hn : n ≤ 8) (hF : zFS n F N S) : ∀ (k p : Nat) (o4 : Option Value), p + k = n →
    zO zgI sc (zg1, (zm_X8_evenestSplit, 1), 18, S, [some (.ref 20), some (.int (z2 (akX F N p).1 ((akX F N p).1 - 1))), some (.int (if (akX F N p).1 = 0 then 2147483647 else nI (akX F N p).2)), some (.int (nI p)), o4], []) = some (z2 (akX F N n).1 ((akX F N n).1 - 1), S)
  | 0, p, o4, hp => by
    have : p = n := by omega
    subst this
    rw [e_X8_evenestSplit_18, h1, if_pos (by rw [n_le (by omega) (by omega)]; omega)]
  | k + 1, p, o4, hp => by
    have IH := fun o4 => c_ask_go sc hN h1 hn hF k (p + 1) o4 (by omega)
    have hw := akW_le F N p
    have hc := cnt_le F N
    have hb : (akX F N p).1 ≤ p ∧ (akX F N p).2 ≤ N := nxF_c (B := fun _ => false) (F := akG F N) (M := N) (akG_le F N) p
    have hg := akG_le F N p
    have ob : ¬ (nI p < 0 ∨ 8 ≤ (nI p).toNatClampNeg) := (by first | (rw [n_ob (by omega)]; omega) | (rw [n_obb (by omega)]; omega))
    have eg : (if nI (akW F N p) < nI (cnt F N) - nI (akW F N p) then nI (cnt F N) - nI (akW F N p) else nI (akW F N p)) = nI (akG F N p) := by
      rw [zn_sub hw]
      unfold akG
      by_cases c : akW F N p < cnt F N - akW F N p
      · rw [if_pos (by rw [n_lt (by omega) (by omega)]; exact c), if_pos (by omega)]
      · rw [if_neg (by rw [n_lt (by omega) (by omega)]; exact c)]
        by_cases d : akW F N p ≤ cnt F N - akW F N p
        · rw [if_pos d, show akW F N p = cnt F N - akW F N p by omega]
          congr 1
          omega
        · rw [if_neg d]
    rw [e_X8_evenestSplit_18, h1, if_neg (by rw [n_le (by omega) (by omega)]; omega), if_neg ob, if_neg ob, n_cl (by omega), hF.2.2.2 p (by omega), hF.1, eg, n_s1]
    have es := akX_s F N p
    have znew : z2 (p + 1) p = nI p := if_neg (by omega)
    have upd : akX F N (p + 1) = (p + 1, akG F N p) → ∃ o, zO zgI sc (zg1, (zm_X8_evenestSplit, 1), 18, S, [some (.ref 20), some (.int (nI p)), some (.int (nI (akG F N p))), some (.int (nI (p + 1))), o], []) = some (z2 (akX F N n).1 ((akX F N n).1 - 1), S) ∧ o = some (.int (nI (akG F N p))) := by
      intro e
      have := IH (some (.int (nI (akG F N p))))
      rw [e] at this
      dsimp only at this
      rw [if_neg (by omega), show p + 1 - 1 = p by omega, znew] at this
      exact ⟨_, this, rfl⟩
    by_cases c0 : (akX F N p).1 = 0
    · rw [if_pos (Or.inl c0)] at es
      obtain ⟨o, q1, q2⟩ := upd es
      rw [q2] at q1
      have nl : ¬ ((if (akX F N p).1 = 0 then (2147483647 : Int32) else nI (akX F N p).2) ≤ nI (akG F N p)) := by
        rw [if_pos c0, show (2147483647 : Int32) = nI 2147483647 from rfl, n_le (by omega) (by omega)]; omega
      rw [if_neg nl]
      exact q1
    · have el : ((if (akX F N p).1 = 0 then (2147483647 : Int32) else nI (akX F N p).2) ≤ nI (akG F N p)) = ((akX F N p).2 ≤ akG F N p) := by rw [if_neg c0, n_le (by omega) (by omega)]
      rw [ifc el]
      by_cases c1 : (akX F N p).2 ≤ akG F N p
      · rw [if_neg (by omega)] at es
        have := IH (some (.int (nI (akG F N p))))
        rw [es] at this
        rw [if_pos c1]
        exact this
      · rw [if_pos (Or.inr (by omega))] at es
        obtain ⟨o, q1, q2⟩ := upd es
        rw [q2] at q1
        rw [if_neg c1]
        exact q1
theorem m_ask_in (sc : zSc) {F : Nat → Bool} {S : zS} (hF : ∀ s, s < 256 → S.1 62 s = zb (F s = true)) {p : Nat} (hp : p < 8) (x1 x2 x3 x4 x5 : Int32) : ∀ (k i : Nat), i + k = 256 →
    zO zgI sc (zg1, (zm_X11_ask, 67), 55, S, [some (.ref 51), some (.int x1), some (.int x2), some (.int x3), some (.int x4), some (.int x5), some (.int (nI p)), some (.int (nI (akW F i p))), some (.int (nI i))], [])
    = zO zgI sc (zg1, (zm_X11_ask, 67), 55, S, [some (.ref 51), some (.int x1), some (.int x2), some (.int x3), some (.int x4), some (.int x5), some (.int (nI p)), some (.int (nI (akW F 256 p))), some (.int (nI 256))], [])
  | 0, i, hi => by
    have : i = 256 := by omega
    rw [this]
  | k + 1, i, hi => by
    have IH := m_ask_in sc hF hp x1 x2 x3 x4 x5 k (i + 1) (by omega)
    have es : akW F (i + 1) p = akW F i p + (if (F i && i.testBit p) = true then 1 else 0) := rfl
    have z0 : nI (akW F i p) + (0 : Int32) = nI (akW F i p) := zn_add _ 0
    have ob : ¬ (nI i < 0 ∨ 256 ≤ (nI i).toNatClampNeg) := (by first | (rw [n_ob (by omega)]; omega) | (rw [n_obb (by omega)]; omega))
    have n256 : ¬ ((256 : Int32) ≤ nI i) := by rw [show (256 : Int32) = nI 256 from rfl, n_le (by omega) (by omega)]; omega
    rw [← IH, e_X11_ask_55, if_neg n256, if_neg ob, n_cl (by omega), hF i (by omega), n_s1, n_s1, z0]
    by_cases c : F i = true
    · rw [zb_t c, if_neg (show ¬ ((1 : Int32) = 0) by decide), m_isIn sc S (show i < 256 by omega) hp, Option.bind_some]
      dsimp only
      by_cases d : i.testBit p = true
      · rw [if_pos (by rw [c, d]; rfl)] at es
        rw [zb_t d, if_neg (show ¬ ((1 : Int32) = 0) by decide), es]
      · rw [if_neg (by rw [c, Bool.true_and]; exact d)] at es
        have es' : akW F (i + 1) p = akW F i p := es
        rw [zb_f d, if_pos rfl, es']
    · rw [if_neg (by rw [Bool.and_eq_true]; exact fun q => c q.1)] at es
      have es' : akW F (i + 1) p = akW F i p := es
      rw [zb_f c, if_pos rfl, es']
theorem m_ask_go (sc : zSc) {n : Nat} {F : Nat → Bool} {S : zS} (h6 : S.1 51 6 = nI n) (hn : n ≤ 8) (hF : ∀ s, s < 256 → S.1 62 s = zb (F s = true)) (x1 x2 x5' : Int32) : ∀ (k p : Nat) (o7 o8 : Option Value), p + k = n →
    zO zgI sc (zg1, (zm_X11_ask, 67), 40, S, [some (.ref 51), some (.int x1), some (.int x2), some (.int (nI (cnt F 256))), some (.int (z2 (akX F 256 p).1 ((akX F 256 p).1 - 1))), some (.int (if (akX F 256 p).1 = 0 then x5' else nI (akX F 256 p).2)), some (.int (nI p)), o7, o8], []) = some (z2 (akX F 256 n).1 ((akX F 256 n).1 - 1), S)
  | 0, p, o7, o8, hp => by
    have : p = n := by omega
    subst this
    rw [e_X11_ask_40, h6, if_pos (by rw [n_le (by omega) (by omega)]; omega)]
  | k + 1, p, o7, o8, hp => by
    have IH := fun o7 o8 => m_ask_go sc h6 hn hF x1 x2 x5' k (p + 1) o7 o8 (by omega)
    have hw := akW_le F 256 p
    have hc := cnt_le F 256
    have hb : (akX F 256 p).1 ≤ p ∧ (akX F 256 p).2 ≤ 256 := nxF_c (B := fun _ => false) (F := akG F 256) (M := 256) (akG_le F 256) p
    have hg := akG_le F 256 p
    have hin := m_ask_in sc hF (show p < 8 by omega) x1 x2 (nI (cnt F 256)) (z2 (akX F 256 p).1 ((akX F 256 p).1 - 1)) (if (akX F 256 p).1 = 0 then x5' else nI (akX F 256 p).2) 256 0 (by omega)
    have hin' : zO zgI sc (zg1, (zm_X11_ask, 67), 55, S, [some (.ref 51), some (.int x1), some (.int x2), some (.int (nI (cnt F 256))), some (.int (z2 (akX F 256 p).1 ((akX F 256 p).1 - 1))), some (.int (if (akX F 256 p).1 = 0 then x5' else nI (akX F 256 p).2)), some (.int (nI p)), some (.int (0 : Int32)), some (.int (0 : Int32))], []) = _ := hin
    have es := akX_s F 256 p
    have znew : z2 (p + 1) p = nI p := if_neg (by omega)
    -- with the greater one known
    have fin : ∀ (o7 : Option Value), (if z2 (akX F 256 p).1 ((akX F 256 p).1 - 1) < 0 then zO zgI sc (zg1, (zm_X11_ask, 67), 40, S, [some (.ref 51), some (.int x1), some (.int x2), some (.int (nI (cnt F 256))), some (.int (nI p)), some (.int (nI (akG F 256 p))), some (.int (nI (p + 1))), o7, some (.int (nI (akG F 256 p)))], []) else (if (if (akX F 256 p).1 = 0 then x5' else nI (akX F 256 p).2) ≤ nI (akG F 256 p) then zO zgI sc (zg1, (zm_X11_ask, 67), 40, S, [some (.ref 51), some (.int x1), some (.int x2), some (.int (nI (cnt F 256))), some (.int (z2 (akX F 256 p).1 ((akX F 256 p).1 - 1))), some (.int (if (akX F 256 p).1 = 0 then x5' else nI (akX F 256 p).2)), some (.int (nI (p + 1))), o7, some (.int (nI (akG F 256 p)))], []) else zO zgI sc (zg1, (zm_X11_ask, 67), 40, S, [some (.ref 51), some (.int x1), some (.int x2), some (.int (nI (cnt F 256))), some (.int (nI p)), some (.int (nI (akG F 256 p))), some (.int (nI (p + 1))), o7, some (.int (nI (akG F 256 p)))], []))) = some (z2 (akX F 256 n).1 ((akX F 256 n).1 - 1), S) := by
      intro o7
      have upd : akX F 256 (p + 1) = (p + 1, akG F 256 p) → zO zgI sc (zg1, (zm_X11_ask, 67), 40, S, [some (.ref 51), some (.int x1), some (.int x2), some (.int (nI (cnt F 256))), some (.int (nI p)), some (.int (nI (akG F 256 p))), some (.int (nI (p + 1))), o7, some (.int (nI (akG F 256 p)))], []) = some (z2 (akX F 256 n).1 ((akX F 256 n).1 - 1), S) := by
        intro e
        have := IH o7 (some (.int (nI (akG F 256 p))))
        rw [e] at this
        dsimp only at this
        rw [if_neg (by omega), show p + 1 - 1 = p by omega, znew] at this
        exact this
      rw [ifc (z2_lt (b := (akX F 256 p).1) (v := (akX F 256 p).1 - 1) (by omega))]
      by_cases c0 : (akX F 256 p).1 = 0
      · rw [if_pos (Or.inl c0)] at es
        rw [if_pos c0]
        exact upd es
      · have el : ((if (akX F 256 p).1 = 0 then x5' else nI (akX F 256 p).2) ≤ nI (akG F 256 p)) = ((akX F 256 p).2 ≤ akG F 256 p) := by rw [if_neg c0, n_le (by omega) (by omega)]
        rw [if_neg c0, ifc el]
        by_cases c1 : (akX F 256 p).2 ≤ akG F 256 p
        · rw [if_neg (by omega)] at es
          have := IH o7 (some (.int (nI (akG F 256 p))))
          rw [es] at this
          rw [if_pos c1]
          exact this
        · rw [if_pos (Or.inr (by omega))] at es
          rw [if_neg c1]
          exact upd es
    rw [e_X11_ask_40, h6, if_neg (by rw [n_le (by omega) (by omega)]; omega), hin', e_X11_ask_55, if_pos (by decide), zn_sub hw, ifc (n_le (a := akW F 256 p) (b := cnt F 256 - akW F 256 p) (by omega) (by omega)), n_s1]
    by_cases c : akW F 256 p ≤ cnt F 256 - akW F 256 p
    · have eg : akG F 256 p = cnt F 256 - akW F 256 p := if_pos c
      rw [if_pos c, ← eg]
      exact fin _
    · have eg : akG F 256 p = akW F 256 p := if_neg c
      rw [if_neg c]
      have := fin (some (.int (nI (akG F 256 p))))
      rw [eg] at this
      exact this
theorem akX_ext {n : Nat} (hn : n ≤ 8) {P : Nat → Nat → Nat} {cs : List Int32} {gap w h told : Nat} : akX (fitB n P cs gap w h told) 256 n = akX (fitB n P cs gap w h told) (2 ^ n) n := by
  have h2 := n_p2le hn
  have e1 := (fit_ext hn (P := P) (cs := cs) (gap := gap) (w := w) (h := h) (told := told)).1
  have e2 : ∀ p, akW (fitB n P cs gap w h told) 256 p = akW (fitB n P cs gap w h told) (2 ^ n) p := by
    intro p
    have ex := cnt_ext (F := fun s => fitB n P cs gap w h told s && s.testBit p) (a := 2 ^ n) (256 - 2 ^ n) (fun s k1 k2 => by
      cases q : fitB n P cs gap w h told s with
      | false => rw [Bool.false_and]
      | true => exact absurd (fitB_e.mp q).1 (by omega))
    rw [show 2 ^ n + (256 - 2 ^ n) = 256 by omega] at ex
    exact ex.1
  have e3 : akG (fitB n P cs gap w h told) 256 = akG (fitB n P cs gap w h told) (2 ^ n) := by
    funext p
    unfold akG
    rw [e2, e1]
  show nxF (fun _ => false) (akG (fitB n P cs gap w h told) 256) n = _
  rw [e3]
theorem q_ask (sc : zSc) {n : Nat} {P : Nat → Nat → Nat} {cs : List Int32} {gap ver : Nat} {S : zS} (hC : zCE n P cs gap ver S) (hM : zME n P cs gap none S) (a1 a2 : Int32) :
    zQ n P cs gap ver (zcI sc zm_X10_ask [.ref 0, .int a1, .int a2] S) (fun S => zcI sc zm_X11_ask [.ref 51, .int a1, .int a2] S) S := by
  have hn := hC.1.2.1
  have hr := hC.2.1
  by_cases h1 : rg a1 255
  case neg =>
    refine ⟨-1, S, S, ?_, ?_, hC, zfr_refl _ _, zfr_refl _ _⟩
    · rw [c_X10_ask]; rw [s_isBits, Option.bind_some]; (try dsimp only); rw [zb_f h1]; exact if_pos rfl
    · show zcI sc zm_X11_ask [.ref 51, .int a1, .int a2] S = _
      rw [c_X11_ask]; rw [m_isSet', Option.bind_some]; (try dsimp only); rw [zb_f h1]; exact if_pos rfl
  by_cases h2 : rg a2 29
  case neg =>
    refine ⟨-1, S, S, ?_, ?_, hC, zfr_refl _ _, zfr_refl _ _⟩
    · rw [c_X10_ask]; rw [s_isBits, Option.bind_some]; (try dsimp only); rw [zb_t h1]; rw [if_neg (show ¬ ((1 : Int32) = 0) by decide)]; rw [s_w29, Option.bind_some]; (try dsimp only); rw [zb_f h2]; exact if_neg (fun q => q rfl)
    · show zcI sc zm_X11_ask [.ref 51, .int a1, .int a2] S = _
      rw [c_X11_ask]; rw [m_isSet', Option.bind_some]; (try dsimp only); rw [zb_t h1]; rw [if_neg (show ¬ ((1 : Int32) = 0) by decide)]; rw [m_isWm, Option.bind_some]; (try dsimp only); rw [zb_f h2]; exact if_neg (fun q => q rfl)
  obtain ⟨told, rfl, htl⟩ := rg_n h1
  obtain ⟨t, rfl, ht1, ht2, e1, e2⟩ := wm_n h2
  obtain ⟨S1, b1, b2, b3, b4⟩ := c_findSets sc hC ht1 ht2 (show told < 256 by omega)
  have hM1 := zME_C hM b4
  obtain ⟨S2, d1, d2, d3⟩ := m_fits sc hr ht1 ht2 (show told < 256 by omega) (nI t) e1 e2 hM1
  have hcl := cnt_le (fitB n P cs gap (t / 10) (t % 10) told) (2 ^ n)
  have h2n := n_p2le hn
  have fx := fit_ext hn (P := P) (cs := cs) (gap := gap) (w := t / 10) (h := t % 10) (told := told)
  refine ⟨if cnt (fitB n P cs gap (t / 10) (t % 10) told) (2 ^ n) ≠ 0 then z2 (akX (fitB n P cs gap (t / 10) (t % 10) told) (2 ^ n) n).1 ((akX (fitB n P cs gap (t / 10) (t % 10) told) (2 ^ n) n).1 - 1) else -2, S1, S2, ?_, ?_, b3, b4, d2⟩
  · rw [c_X10_ask]; rw [s_isBits, Option.bind_some]; (try dsimp only); rw [zb_t h1]; rw [if_neg (show ¬ ((1 : Int32) = 0) by decide)]; rw [s_w29, Option.bind_some]; (try dsimp only); rw [zb_t h2]; rw [if_pos (show (1 : Int32) ≠ 0 by decide)]
    have gc := c_ask_go sc (show 2 ^ n ≤ 256 by omega) b3.1.1 hn b2 n 0 none (by omega)
    have gc' : zO zgI sc (zg1, (zm_X8_evenestSplit, 1), 18, S1, [some (.ref 20), some (.int (-2 : Int32)), some (.int (2147483647 : Int32)), some (.int (0 : Int32)), none], []) = some (z2 (akX (fitB n P cs gap (t / 10) (t % 10) told) (2 ^ n) n).1 ((akX (fitB n P cs gap (t / 10) (t % 10) told) (2 ^ n) n).1 - 1), S1) := gc
    rw [e2, e1, b1, Option.bind_some, c_X8_evenestSplit, b2.1, ifc (n_ne0 (a := cnt (fitB n P cs gap (t / 10) (t % 10) told) (2 ^ n)) (by omega)), gc', sif, Option.bind_some]
  · (try dsimp only); rw [c_X11_ask]; rw [m_isSet', Option.bind_some]; (try dsimp only); rw [zb_t h1]; rw [if_neg (show ¬ ((1 : Int32) = 0) by decide)]; rw [m_isWm, Option.bind_some]; (try dsimp only); rw [zb_t h2]; rw [if_pos (show (1 : Int32) ≠ 0 by decide)]
    rw [d1, Option.bind_some]
    dsimp only
    have gm := m_ask_go sc ((d2.1 51 6 rfl).trans hM1.1.1) hn d3 (nI told) (nI t) 0 n 0 none none (by omega)
    rw [akX_ext hn, fx.1] at gm
    have gm' : zO zgI sc (zg1, (zm_X11_ask, 67), 40, S2, [some (.ref 51), some (.int (nI told)), some (.int (nI t)), some (.int (nI (cnt (fitB n P cs gap (t / 10) (t % 10) told) (2 ^ n)))), some (.int (-2 : Int32)), some (.int (0 : Int32)), some (.int (0 : Int32)), none, none], []) = some (z2 (akX (fitB n P cs gap (t / 10) (t % 10) told) (2 ^ n) n).1 ((akX (fitB n P cs gap (t / 10) (t % 10) told) (2 ^ n) n).1 - 1), S2) := gm
    rw [gm', ifc (n_ne0 (a := cnt (fitB n P cs gap (t / 10) (t % 10) told) (2 ^ n)) (by omega)), sif]
