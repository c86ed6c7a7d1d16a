/-! ===== at how few she must look up ===== -/
set_option maxRecDepth 20000 in
theorem n_sh9 : ∀ p : Nat, p < 9 → ((1 : Int32) <<< (nI p &&& 31)) = nI (2 ^ p) := by decide +kernel
theorem n_p2le {n : Nat} (h : n ≤ 8) : 1 ≤ 2 ^ n ∧ 2 ^ n ≤ 256 := ⟨Nat.pow_pos (by omega), Nat.pow_le_pow_right (n := 2) (by omega) h⟩
theorem s_everybody (sc : zSc) {S : zS} {n : Nat} (h : S.1 1 1 = nI n) (hn : n ≤ 8) : zcI sc zm_X8_everybody [.ref 20] S = some (nI (2 ^ n - 1), S) := by
  have := n_p2le hn
  rw [c_X8_everybody, h, n_sh9 n (by omega), n_p1 (by omega)]
theorem kup31 {p w tv : Nat} {K : zkS} (h : ¬ (w ≠ 0 ∧ w ≠ p + 1)) : kup p w tv K 3 1 = K 3 1 := if_neg h
theorem kcl_all {n lk : Nat} {ord bo fr : Nat → Nat} {th : Nat → Nat → Bool} {T : Nat → Nat → Nat → Nat → Nat} (h : ∀ i, i < n → lk.testBit (ord i) = true) : ∀ m, m ≤ n → kcl n ord bo fr th lk T m 3 1 = 0
  | 0, _ => rfl
  | m + 1, hm => by
    have ih := kcl_all (bo := bo) (fr := fr) (th := th) (T := T) h m (by omega)
    show kst n ord bo fr th lk T (kcl n ord bo fr th lk T m) m 3 1 = 0
    unfold kst
    by_cases c : th (ord m) (kcl n ord bo fr th lk T m 3 4) = true
    · rw [if_pos c]
      exact (kup31 (fun q => q.2 rfl)).trans ih
    · rw [if_neg c]
      by_cases d : khelp bo fr th (kcl n ord bo fr th lk T m) (ord m) n 0 = 0
      · rw [if_neg (fun q => q.1 d)]
        exact (kup31 (fun q => q.1 d)).trans ih
      · rw [if_pos ⟨d, h m (by omega)⟩]
        exact (kup31 (fun q => q.1 rfl)).trans ih
theorem kcm_all {n : Nat} {P : Nat → Nat → Nat} {cs : List Int32} {gap : Nat} {o : Option Nat} {l way : Nat} : kcm n P cs gap o l way (2 ^ n - 1) n 3 1 = 0 :=
  kcl_all (fun i k => by
    rw [Nat.testBit_two_pow_sub_one]
    exact decide_eq_true (od_lt (ykey P way) k)) n (Nat.le_refl _)
abbrev lxo (b s : Nat) : Prop := pcn b < pcn s ∨ (pcn b = pcn s ∧ b ≤ s)
abbrev enF (n : Nat) (P : Nat → Nat → Nat) (cs : List Int32) (gap l w s : Nat) : Nat := kcm n P cs gap none l w s n 3 1
abbrev enT (n : Nat) (P : Nat → Nat → Nat) (cs : List Int32) (gap l w s : Nat) : Nat := kcm n P cs gap none l w s n 3 4
/-- the best of all -/
abbrev enB (n : Nat) (P : Nat → Nat → Nat) (cs : List Int32) (gap l w b : Nat) : Prop := b < 2 ^ n ∧ enF n P cs gap l w b = 0 ∧ ∀ s, s < 2 ^ n → enF n P cs gap l w s = 0 → lxo b s
theorem c_enough_go (sc : zSc) {n : Nat} {P : Nat → Nat → Nat} {cs : List Int32} {gap ver l w : Nat} (x1 x2 x3 : Int32) : ∀ (i b : Nat) (S : zS), i ≤ 2 ^ n → b < 2 ^ n → enF n P cs gap l w b = 0 → (∀ s, i ≤ s → s < 2 ^ n → enF n P cs gap l w s = 0 → lxo b s) → zRY n w P P cs gap ver S → S.1 12 11 = nI (hmk (yhf P l) n) → (∀ q, q < n → S.1 16 q = nI (P q 7)) →
    ∃ b' S', enB n P cs gap l w b' ∧ zO zgI sc (zg1, (zm_X8_fewestLooks, 7), 28, S, [some (.ref 20), some (.int x1), some (.int x2), some (.int x3), some (.int (nI b)), some (.int (zwho i))], []) = some (if x3 ≠ 0 then (if x3 ≠ 1 then nI (enT n P cs gap l w b') else nI b') else nI (pcn b'), S') ∧ zCE n P cs gap ver S' ∧ zfr zkC S S'
  | 0, b, S, hi, hb, hF, hL, hC, h11, h16 => by
    have hn := hC.1.1.2.1
    have h2 := n_p2le hn
    obtain ⟨S3, d1, d2, d3, d4, d5, d6, _⟩ := c_makeL sc hC h11 h16 (lk := b) (by omega)
    refine ⟨b, S3, ⟨hb, hF, fun s k1 k2 => hL s (by omega) k1 k2⟩, ?_, d3.1, d6⟩
    rw [e_X8_fewestLooks_28, zwho0, if_pos (by decide), d1, Option.bind_some, d2.2.2.2.2.1, s_bitCount sc S3 (by omega), Option.bind_some, sif, sif]
  | i + 1, b, S, hi, hb, hF, hL, hC, h11, h16 => by
    have hn := hC.1.1.2.1
    have h2 := n_p2le hn
    have p1 := pcn_le i
    have p2 := pcn_le b
    have zm : nI i + (-1 : Int32) = zwho i := by unfold zwho; rw [Int32.sub_eq_add_neg]
    rw [e_X8_fewestLooks_28, zwhoS, if_neg (by rw [n_lt0 (by omega)]; exact id), s_bitCount sc S (show i < 256 by omega), Option.bind_some]
    dsimp only
    rw [s_bitCount sc S (show b < 256 by omega), Option.bind_some, zm]
    dsimp only
    rw [ifc (n_lt (a := pcn b) (b := pcn i) (by omega) (by omega))]
    by_cases c : pcn b < pcn i
    · rw [if_pos c]
      exact c_enough_go sc x1 x2 x3 i b S (by omega) hb hF (fun s k1 k2 k3 => by
        by_cases e : s = i
        · rw [e]; exact Or.inl c
        · exact hL s (by omega) k2 k3) hC h11 h16
    · obtain ⟨S3, d1, d2, d3, d4, d5, d6, _⟩ := c_makeL sc hC h11 h16 (lk := i) (by omega)
      have hg := (kcm_good (P := P) (cs := cs) (gap := gap) (o := none) (l := l) (way := w) (lk := i) hn).2.1
      rw [if_neg c, d1, Option.bind_some, d2.2.1, ifc (n_ne0 (a := kcm n P cs gap none l w i n 3 1) (by omega))]
      by_cases d : kcm n P cs gap none l w i n 3 1 = 0
      · rw [if_neg (fun q => q d)]
        obtain ⟨b', S', g1, g2, g3, g4⟩ := c_enough_go sc x1 x2 x3 i i S3 (by omega) (by omega) d (fun s k1 k2 k3 => by
          by_cases e : s = i
          · rw [e]; exact Or.inr ⟨rfl, Nat.le_refl _⟩
          · have := hL s (by omega) k2 k3
            unfold lxo at this ⊢
            omega) d3 d4 d5
        exact ⟨b', S', g1, g2, g3, zfr_tr d6 g4⟩
      · rw [if_pos d]
        obtain ⟨b', S', g1, g2, g3, g4⟩ := c_enough_go sc x1 x2 x3 i b S3 (by omega) hb hF (fun s k1 k2 k3 => by
          by_cases e : s = i
          · rw [e] at k3; exact absurd k3 d
          · exact hL s (by omega) k2 k3) d3 d4 d5
        exact ⟨b', S', g1, g2, g3, zfr_tr d6 g4⟩
theorem m_enough_go (sc : zSc) {n : Nat} {P : Nat → Nat → Nat} {cs : List Int32} {gap l w : Nat} (hr : zPR n P) (hl : l < 10) (hw : w < 3) (x1 x2 : Int32) (e1 : x1 / 10 = nI l) (e2 : x1 - x1 / 10 * 10 = nI w) : ∀ (k i c : Nat) (x4 : Int32) (S : zS), i + k = 2 ^ n → zME n P cs gap none S →
    ((c = 0 ∧ ∀ s, s < i → enF n P cs gap l w s ≠ 0) ∨ (∃ b, c = b + 1 ∧ b < i ∧ enF n P cs gap l w b = 0 ∧ x4 = nI (enT n P cs gap l w b) ∧ ∀ s, s < i → enF n P cs gap l w s = 0 → lxo b s)) →
    ∃ b' S', enB n P cs gap l w b' ∧ zO zgI sc (zg1, (zm_X11_enough, 66), 29, S, [some (.ref 51), some (.int x1), some (.int x2), some (.int (zwho c)), some (.int x4), some (.int (nI i))], []) = some (if x2 ≠ 0 then (if x2 ≠ 1 then nI (enT n P cs gap l w b') else nI b') else nI (pcn b'), S') ∧ zfr zkMq S S'
  | 0, i, c, x4, S, hi, hM, hx => by
    have hn := hM.1.2.1
    have h2 := n_p2le hn
    have hi' : i = 2 ^ n := by omega
    rcases hx with ⟨_, g⟩ | ⟨b, g1, g2, g3, g4, g5⟩
    · exact absurd kcm_all (g (2 ^ n - 1) (by omega))
    · refine ⟨b, S, ⟨by omega, g3, fun s k1 k2 => g5 s (by omega) k2⟩, ?_, zfr_refl _ _⟩
      rw [e_X11_enough_29, hM.1.1, n_sh9 n (by omega), if_pos (by rw [n_le (by omega) (by omega)]; omega), g1, zwhoS, m_bitsOf sc S (by omega), Option.bind_some, g4, sif, sif]
  | k + 1, i, c, x4, S, hi, hM, hx => by
    have hn := hM.1.2.1
    have h2 := n_p2le hn
    have p1 := pcn_le i
    have hg := (kcm_good (P := P) (cs := cs) (gap := gap) (o := none) (l := l) (way := w) (lk := i) hn).2.1
    rw [e_X11_enough_29, hM.1.1, n_sh9 n (by omega), if_neg (by rw [n_le (by omega) (by omega)]; omega), e2, e1, n_s1]
    -- tried: the set i
    have try_ : ∀ (x4 : Int32), (enF n P cs gap l w i = 0 → ∀ s, s < i → enF n P cs gap l w s = 0 → lxo i s) →
        (enF n P cs gap l w i ≠ 0 → ((c = 0 ∧ ∀ s, s < i → enF n P cs gap l w s ≠ 0) ∨ (∃ b, c = b + 1 ∧ b < i ∧ enF n P cs gap l w b = 0 ∧ x4 = nI (enT n P cs gap l w b) ∧ ∀ s, s < i → enF n P cs gap l w s = 0 → lxo b s))) →
        ∃ b' S', enB n P cs gap l w b' ∧ ((zcV sc zm_X11_calls [.ref 51, .int (nI l), .int (nI w), .int (nI i)] S).bind (fun q2 => (if q2.1 51 22 ≠ 0 then zO zgI sc (zg1, (zm_X11_enough, 66), 29, q2, [some (.ref 51), some (.int x1), some (.int x2), some (.int (zwho c)), some (.int x4), some (.int (nI (i + 1)))], []) else zO zgI sc (zg1, (zm_X11_enough, 66), 29, q2, [some (.ref 51), some (.int x1), some (.int x2), some (.int (nI i)), some (.int (q2.1 51 25)), some (.int (nI (i + 1)))], [])))) = some (if x2 ≠ 0 then (if x2 ≠ 1 then nI (enT n P cs gap l w b') else nI b') else nI (pcn b'), S') ∧ zfr zkMq S S' := by
      intro x4 hy hn'
      obtain ⟨S1, a1, a2, a3, a4⟩ := m_run sc hM hr hl hw (lk := i) (by omega)
      rw [a1, Option.bind_some, a2.2.2.1, ifc (n_ne0 (a := kcm n P cs gap none l w i n 3 1) (by omega)), a2.2.2.2.2.2]
      by_cases d : kcm n P cs gap none l w i n 3 1 = 0
      · rw [if_neg (fun q => q d), ← zwhoS i]
        obtain ⟨b', S', g1, g2, g3⟩ := m_enough_go sc hr hl hw x1 x2 e1 e2 k (i + 1) (i + 1) (nI (kcm n P cs gap none l w i n 3 4)) S1 (by omega) a4 (Or.inr ⟨i, rfl, by omega, d, rfl, fun s k1 k2 => by
          by_cases e : s = i
          · rw [e]; exact Or.inr ⟨rfl, Nat.le_refl _⟩
          · exact hy d s (by omega) k2⟩)
        exact ⟨b', S', g1, g2, zfr_tr (zfr_up _ _ a3 rfl) g3⟩
      · rw [if_pos d]
        obtain ⟨b', S', g1, g2, g3⟩ := m_enough_go sc hr hl hw x1 x2 e1 e2 k (i + 1) c x4 S1 (by omega) a4 (by
          rcases hn' d with ⟨g1, g2⟩ | ⟨b, g1, g2, g3, g4, g5⟩
          · refine Or.inl ⟨g1, fun s k1 => ?_⟩
            by_cases e : s = i
            · rw [e]; exact d
            · exact g2 s (by omega)
          · refine Or.inr ⟨b, g1, by omega, g3, g4, fun s k1 k2 => ?_⟩
            by_cases e : s = i
            · rw [e] at k2; exact absurd k2 d
            · exact g5 s (by omega) k2)
        exact ⟨b', S', g1, g2, zfr_tr (zfr_up _ _ a3 rfl) g3⟩
    rcases hx with ⟨g1, g2⟩ | ⟨b, g1, g2, g3, g4, g5⟩
    · have hz : zwho c < 0 := by rw [g1, zwho0]; decide
      rw [if_pos hz]
      exact try_ x4 (fun _ s k1 k2 => absurd k2 (g2 s k1)) (fun _ => Or.inl ⟨g1, g2⟩)
    · have p2 := pcn_le b
      have hz : ¬ zwho c < 0 := by rw [g1, zwhoS, n_lt0 (by omega)]; exact id
      have hcb : zwho c = nI b := by rw [g1, zwhoS]
      have eb : zcI sc zm_X11_bitsOf [.int (zwho c)] S = some (nI (pcn b), S) := by rw [hcb]; exact m_bitsOf sc S (by omega)
      rw [if_neg hz, m_bitsOf sc S (show i < 256 by omega), Option.bind_some]
      dsimp only
      rw [eb, Option.bind_some]
      dsimp only
      rw [ifc (n_le (a := pcn b) (b := pcn i) (by omega) (by omega))]
      by_cases c1 : pcn b ≤ pcn i
      · rw [if_pos c1]
        exact m_enough_go sc hr hl hw x1 x2 e1 e2 k (i + 1) c x4 S (by omega) hM (Or.inr ⟨b, g1, by omega, g3, g4, fun s k1 k2 => by
          by_cases e : s = i
          · rw [e]; unfold lxo; omega
          · exact g5 s (by omega) k2⟩)
      · rw [if_neg c1]
        refine try_ x4 (fun _ s k1 k2 => ?_) (fun _ => Or.inr ⟨b, g1, g2, g3, g4, g5⟩)
        have := g5 s k1 k2
        unfold lxo at this ⊢
        omega
theorem enB_u {n : Nat} {P : Nat → Nat → Nat} {cs : List Int32} {gap l w a b : Nat} (h : enB n P cs gap l w a) (g : enB n P cs gap l w b) : a = b := by
  have h1 := h.2.2 b g.1 g.2.1
  have h2 := g.2.2 a h.1 h.2.1
  unfold lxo at h1 h2
  omega
theorem q_enough (sc : zSc) {n : Nat} {P : Nat → Nat → Nat} {cs : List Int32} {gap ver : Nat} {S : zS} (hC : zCE n P cs gap ver S) (hM : zME n P cs gap none S) (a1 a2 : Int32) :
    zQ n P cs gap ver (zcI sc zm_X10_enough [.ref 0, .int a1, .int a2] S) (fun S => zcI sc zm_X11_enough [.ref 51, .int a1, .int a2] S) S := by
  have hn := hC.1.2.1
  have hr := hC.2.1
  by_cases h1 : tok a1
  case neg =>
    refine ⟨-1, S, S, ?_, ?_, hC, zfr_refl _ _, zfr_refl _ _⟩
    · rw [c_X10_enough]; rw [s_isLW, Option.bind_some]; (try dsimp only); rw [zb_f h1]; exact if_pos rfl
    · show zcI sc zm_X11_enough [.ref 51, .int a1, .int a2] S = _
      rw [c_X11_enough]; rw [m_isTw, Option.bind_some]; (try dsimp only); rw [zb_f h1]; exact if_pos rfl
  by_cases h2 : rg a2 2
  case neg =>
    refine ⟨-1, S, S, ?_, ?_, hC, zfr_refl _ _, zfr_refl _ _⟩
    · rw [c_X10_enough]; rw [s_isLW, Option.bind_some]; (try dsimp only); rw [zb_t h1]; rw [if_neg (show ¬ ((1 : Int32) = 0) by decide)]; rw [s_w2, Option.bind_some]; (try dsimp only); rw [zb_f h2]; exact if_neg (fun q => q rfl)
    · show zcI sc zm_X11_enough [.ref 51, .int a1, .int a2] S = _
      rw [c_X11_enough]; rw [m_isTw, Option.bind_some]; (try dsimp only); rw [zb_t h1]; rw [if_neg (show ¬ ((1 : Int32) = 0) by decide)]; rw [m_w2, Option.bind_some]; (try dsimp only); rw [zb_f h2]; exact if_neg (fun q => q rfl)
  obtain ⟨t, rfl, ht1, ht2, e1, e2⟩ := tok_n h1
  have h2n := n_p2le hn
  obtain ⟨S1, b1, b2, b3⟩ := c_load sc hC ht2
  obtain ⟨S2, d1, d2, d3, d4, d5⟩ := c_inLesson sc b2 ht1
  obtain ⟨b, S3, g0, g1, g2, g3⟩ := c_enough_go sc (l := t / 10) (nI (t / 10)) (nI (t % 10)) a2 (2 ^ n) (2 ^ n - 1) S2 (Nat.le_refl _) (by omega) kcm_all (fun s k1 k2 => by omega) d2 d3 d4
  have f3 : zfr zkC S S3 := zfr_tr b3 (zfr_tr d5 g3)
  obtain ⟨b', S4, k0, k1, k2⟩ := m_enough_go sc hr ht1 ht2 (nI t) a2 e1 e2 (2 ^ n) 0 0 0 S3 (by omega) (zME_C hM f3) (Or.inl ⟨rfl, fun s k => by omega⟩)
  have := enB_u g0 k0
  subst this
  refine ⟨if a2 ≠ 0 then (if a2 ≠ 1 then nI (enT n P cs gap (t / 10) (t % 10) b) else nI b) else nI (pcn b), S3, S4, ?_, ?_, g2, f3, k2⟩
  · rw [c_X10_enough]; rw [s_isLW, Option.bind_some]; (try dsimp only); rw [zb_t h1]; rw [if_neg (show ¬ ((1 : Int32) = 0) by decide)]; rw [s_w2, Option.bind_some]; (try dsimp only); rw [zb_t h2]; rw [if_pos (show (1 : Int32) ≠ 0 by decide)]
    have ev := s_everybody sc d2.1.1.1 hn
    have g1' : zcI sc zm_X8_fewestLooks [.ref 20, .int (nI (t / 10)), .int (nI (t % 10)), .int a2] S = some (if a2 ≠ 0 then (if a2 ≠ 1 then nI (enT n P cs gap (t / 10) (t % 10) b) else nI b) else nI (pcn b), S3) := by
      rw [c_X8_fewestLooks, b1, Option.bind_some, d1, Option.bind_some, ev, Option.bind_some]
      dsimp only
      rw [ev, Option.bind_some]
      dsimp only
      have zz : nI (2 ^ n - 1) = zwho (2 ^ n) := by unfold zwho; rw [n_p1 (by omega)]
      rw [← g1, zz]
    rw [e2, e1, g1', Option.bind_some]
  · (try dsimp only); rw [c_X11_enough]; rw [m_isTw, Option.bind_some]; (try dsimp only); rw [zb_t h1]; rw [if_neg (show ¬ ((1 : Int32) = 0) by decide)]; rw [m_w2, Option.bind_some]; (try dsimp only); rw [zb_t h2]; rw [if_pos (show (1 : Int32) ≠ 0 by decide)]
    have k1' : zO zgI sc (zg1, (zm_X11_enough, 66), 29, S3, [some (.ref 51), some (.int (nI t)), some (.int a2), some (.int (-1 : Int32)), some (.int (0 : Int32)), some (.int (0 : Int32))], []) = some (if a2 ≠ 0 then (if a2 ≠ 1 then nI (enT n P cs gap (t / 10) (t % 10) b) else nI b) else nI (pcn b), S4) := by
      rw [← zwho0]; exact k1
    exact k1'
