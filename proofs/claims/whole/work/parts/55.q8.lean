/-! ===== who answers for whom the most ===== -/
abbrev pN := Nat → Nat → Nat
def pst (K : zkS) (p : Nat) (N : pN) : pN := fun a b =>
  if K 0 p ≠ 0 ∧ K 0 p ≠ p + 1 ∧ ((K 0 p - 1 < p ∧ a = K 0 p - 1 ∧ b = p) ∨ (p < K 0 p - 1 ∧ a = p ∧ b = K 0 p - 1)) then N a b + 1 else N a b
def paF (K : zkS) (N : pN) : Nat → pN
  | 0 => N
  | p + 1 => pst K p (paF K N p)
def prF (G : Nat → zkS) (n : Nat) : Nat → pN
  | 0 => fun _ _ => 0
  | l + 1 => paF (G l) (prF G n l) n
theorem paF_le (K : zkS) (N : pN) (a b : Nat) : ∀ p, paF K N p a b ≤ N a b + p
  | 0 => Nat.le_refl _
  | p + 1 => by
    have ih := paF_le K N a b p
    have h : pst K p (paF K N p) a b ≤ paF K N p a b + 1 := by
      unfold pst
      split
      · exact Nat.le_refl _
      · exact Nat.le_succ _
    exact Nat.le_trans h (Nat.add_le_add_right ih 1)
theorem prF_le (G : Nat → zkS) {n : Nat} (hn : n ≤ 8) (a b : Nat) : ∀ l, prF G n l a b ≤ 8 * l
  | 0 => Nat.le_refl _
  | l + 1 => by
    have ih := prF_le G hn a b l
    have := paF_le (G l) (prF G n l) a b n
    show paF (G l) (prF G n l) n a b ≤ _
    omega
theorem paF_z {K : zkS} {N : pN} {n : Nat} (hn : n ≤ 8) (hK : ∀ i, K 0 i ≤ n) {a b : Nat} (hb : 8 ≤ b) (h : N a b = 0) : ∀ p, p ≤ n → paF K N p a b = 0
  | 0, _ => h
  | p + 1, hp => by
    have ih := paF_z hn hK hb h p (by omega)
    have := hK p
    show (if _ then paF K N p a b + 1 else paF K N p a b) = 0
    rw [if_neg (by omega)]; exact ih
theorem prF_z {G : Nat → zkS} {n : Nat} (hn : n ≤ 8) (hG : ∀ l i, G l 0 i ≤ n) {a b : Nat} (hb : 8 ≤ b) : ∀ l, prF G n l a b = 0
  | 0 => rfl
  | l + 1 => paF_z hn (hG l) hb (prF_z hn hG hb l) n (Nat.le_refl _)
abbrev zPA (N : pN) (S : zS) : Prop := ∀ a b, a < 8 → b < 10 → S.1 22 (10 * a + b) = nI (N a b)
abbrev zPO (N : pN) (S : zS) : Prop := ∀ a b, a < 8 → b < 8 → S.1 63 (8 * a + b) = nI (N a b)
theorem c_addPairs (sc : zSc) {n : Nat} {K : zkS} {N0 : pN} {S : zS} (h1 : S.1 1 1 = nI n) (hn : n ≤ 8) (hK : ∀ i, K 0 i ≤ n) (h18 : ∀ p, p < n → S.1 18 p = zwho (K 0 p)) : ∀ (k p : Nat) (S1 : zS) (o2 : Option Value), p + k = n → zfr (zx1 22) S S1 → zPA (paF K N0 p) S1 →
    ∃ S', zO zgV sc (zg1, (zm_X8_addPairs, 1), 2, S1, [some (.ref 20), some (.int (nI p)), o2], []) = some S' ∧ zfr (zx1 22) S S' ∧ zPA (paF K N0 n) S'
  | 0, p, S1, o2, hp, f, hN => by
    have : p = n := by omega
    subst this
    refine ⟨S1, ?_, f, hN⟩
    rw [e_X8_addPairs_2, f.1 1 1 rfl, h1, if_pos (by rw [n_le (by omega) (by omega)]; omega)]
  | k + 1, p, S1, o2, hp, f, hN => by
    have hk := hK p
    have ob : ¬ (nI p < 0 ∨ 8 ≤ (nI p).toNatClampNeg) := (by first | (rw [n_ob (by omega)]; omega) | (rw [n_obb (by omega)]; omega))
    have hstep : ∀ a b, paF K N0 (p + 1) a b = if K 0 p ≠ 0 ∧ K 0 p ≠ p + 1 ∧ ((K 0 p - 1 < p ∧ a = K 0 p - 1 ∧ b = p) ∨ (p < K 0 p - 1 ∧ a = p ∧ b = K 0 p - 1)) then paF K N0 p a b + 1 else paF K N0 p a b := fun _ _ => rfl
    rw [e_X8_addPairs_2, f.1 1 1 rfl, h1, if_neg (by rw [n_le (by omega) (by omega)]; omega), if_neg ob, n_cl (by omega), f.1 18 p rfl, h18 p (by omega), n_s1, ifc (zwho_m1 (w := K 0 p) (by omega)), ifc (zwho_n (w := K 0 p) (p := p) (by omega) (by omega))]
    have same : (K 0 p = 0 ∨ K 0 p = p + 1) → ∃ S', zO zgV sc (zg1, (zm_X8_addPairs, 1), 2, S1, [some (.ref 20), some (.int (nI (p + 1))), some (.int (zwho (K 0 p)))], []) = some S' ∧ zfr (zx1 22) S S' ∧ zPA (paF K N0 n) S' := by
      intro q
      exact c_addPairs sc h1 hn hK h18 k (p + 1) S1 _ (by omega) f (fun a b ha hb => by rw [hstep, if_neg (by omega)]; exact hN a b ha hb)
    by_cases c0 : K 0 p = 0
    · rw [if_pos c0]; exact same (Or.inl c0)
    rw [if_neg c0]
    by_cases c1 : K 0 p = p + 1
    · rw [if_pos c1]; exact same (Or.inr c1)
    rw [if_neg c1]
    obtain ⟨q, hq⟩ : ∃ q, K 0 p = q + 1 := ⟨K 0 p - 1, by omega⟩
    have ez : zwho (K 0 p) = nI q := by rw [hq, zwhoS]
    have hne : q ≠ p := by omega
    -- the pair
    obtain ⟨a, b, hab, eI⟩ : ∃ a b : Nat, ((q < p ∧ a = q ∧ b = p) ∨ (p < q ∧ a = p ∧ b = q)) ∧ ((if zwho (K 0 p) < nI p then zwho (K 0 p) else nI p) * (10 : Int32)) + (if nI p < zwho (K 0 p) then zwho (K 0 p) else nI p) = nI (10 * a + b) := by
      rw [ez]
      by_cases d : q < p
      · refine ⟨q, p, Or.inl ⟨d, rfl, rfl⟩, ?_⟩
        rw [if_pos (by rw [n_lt (by omega) (by omega)]; exact d), if_neg (by rw [n_lt (by omega) (by omega)]; omega), show (10 : Int32) = nI 10 from rfl, zn_mul, zn_add, Nat.mul_comm]
      · refine ⟨p, q, Or.inr ⟨by omega, rfl, rfl⟩, ?_⟩
        rw [if_neg (by rw [n_lt (by omega) (by omega)]; exact d), if_pos (by rw [n_lt (by omega) (by omega)]; omega), show (10 : Int32) = nI 10 from rfl, zn_mul, zn_add, Nat.mul_comm]
    have ha : a < 8 := by omega
    have hb : b < 8 := by omega
    have ob2 : ¬ (nI (10 * a + b) < 0 ∨ 80 ≤ (nI (10 * a + b)).toNatClampNeg) := (by first | (rw [n_ob (by omega)]; omega) | (rw [n_obb (by omega)]; omega))
    rw [eI, if_neg ob2, if_neg ob2, n_cl (show 10 * a + b < 2147483648 by omega), hN a b ha (by omega), n_s1]
    refine c_addPairs sc h1 hn hK h18 k (p + 1) _ _ (by omega) (zfr_w f 22 _ _ rfl) (fun a' b' ha' hb' => ?_)
    rw [hstep]
    by_cases e : a' = a ∧ b' = b
    · rw [e.1, e.2, zw1_y, if_pos (by omega)]
    · rw [zw1_n _ _ (by omega), if_neg (by omega)]; exact hN a' b' ha' hb'
abbrev prG (n : Nat) (P : Nat → Nat → Nat) (cs : List Int32) (gap w : Nat) : Nat → zkS := fun l => kcm n P cs gap none l w 0 n
theorem prG_h {n : Nat} (hn : n ≤ 8) {P : Nat → Nat → Nat} {cs : List Int32} {gap w : Nat} : ∀ l i, prG n P cs gap w l 0 i ≤ n := fun l i => ((kcm_good (P := P) (cs := cs) (gap := gap) (o := none) (l := l) (way := w) (lk := 0) hn).2.2.2.2.2 i).1
theorem c_pairs_go (sc : zSc) {n : Nat} {P : Nat → Nat → Nat} {cs : List Int32} {gap ver w : Nat} (x1 x2 : Int32) : ∀ (k l : Nat) (S : zS), l + k = 10 → zRY n w P P cs gap ver S → zPA (prF (prG n P cs gap w) n l) S →
    ∃ S', zO zgI sc (zg1, (zm_X8_mostAnsweringPair, 7), 18, S, [some (.ref 20), some (.int x1), some (.int x2), some (.int (nI l)), none, none], []) = zO zgI sc (zg1, (zm_X8_mostAnsweringPair, 7), 59, S', [some (.ref 20), some (.int x1), some (.int x2), some (.int (-2 : Int32)), some (.int (0 : Int32)), some (.int (0 : Int32))], []) ∧ zPA (prF (prG n P cs gap w) n 10) S' ∧ zCE n P cs gap ver S' ∧ zfr zkC S S'
  | 0, l, S, hl, hC, hN => by
    have : l = 10 := by omega
    subst this
    refine ⟨S, ?_, hN, hC.1, zfr_refl _ _⟩
    rw [e_X8_mostAnsweringPair_18, if_pos (by decide)]
  | k + 1, l, S, hl, hC, hN => by
    have hn := hC.1.1.2.1
    obtain ⟨S2, b1, b2, b3, b4, b5⟩ := c_inLesson sc hC (show l < 10 by omega)
    have f2 : zfr (zk [16] [(12, 11)]) S S2 := by
      obtain ⟨S2', c1, _, _, c4⟩ := s_inLesson sc hC.1.1 hC.1.2.1 (show l < 10 by omega)
      have : S2' = S2 := by rw [c1] at b1; exact Option.some.inj b1
      rw [← this]; exact c4
    obtain ⟨S3, d1, d2, d3, d4, d5, d6, d7⟩ := c_makeL sc b2 b3 b4 (lk := 0) (by omega)
    have d1' : zcV sc zm_X0_make [.ref 12, .int (0 : Int32)] S2 = some S3 := d1
    obtain ⟨S4, g1, g2, g3⟩ := c_addPairs sc (N0 := prF (prG n P cs gap w) n l) d3.1.1.1 hn (prG_h hn (P := P) (cs := cs) (gap := gap) (w := w) l) (fun p hp => (d2.2.2.2.2.2 p hp).1) n 0 S3 none (by omega) (zfr_refl _ _) (fun a b ha hb => by rw [d7.1 22 _ rfl, f2.1 22 _ rfl]; exact hN a b ha hb)
    have g1' : zcV sc zm_X8_addPairs [.ref 20] S3 = some S4 := (c_X8_addPairs sc S3).trans g1
    obtain ⟨S', k1, k2, k3, k4⟩ := c_pairs_go sc x1 x2 k (l + 1) S4 (by omega) (zRY_up d3 (zfr_up _ _ g2 rfl)) g3
    refine ⟨S', ?_, k2, k3, zfr_tr b5 (zfr_tr d6 (zfr_tr (zfr_up _ _ g2 rfl) k4))⟩
    rw [e_X8_mostAnsweringPair_18, if_neg (by rw [show (10 : Int32) = nI 10 from rfl, n_le (by omega) (by omega)]; omega), b1, Option.bind_some, d1', Option.bind_some, g1', Option.bind_some, n_s1]
    exact k1
/-- the first of the greatest -/
def scF (f c : Nat → Nat) : Nat → Nat × Nat
  | 0 => (0, 0)
  | i + 1 => if (scF f c i).2 < f i then (c i + 1, f i) else scF f c i
theorem scF_b {f c : Nat → Nat} {M : Nat} (h : ∀ i, f i ≤ M) (hc : ∀ i, i < 80 → c i ≤ 100) : ∀ i, i ≤ 80 → (scF f c i).1 ≤ 101 ∧ (scF f c i).2 ≤ M
  | 0, _ => ⟨Nat.zero_le _, Nat.zero_le _⟩
  | i + 1, hi => by
    have ih := scF_b h hc i (by omega)
    have h1 := h i
    have h2 := hc i (by omega)
    unfold scF
    split
    · exact ⟨by show c i + 1 ≤ 101; omega, h1⟩
    · exact ih
theorem scF_eq {N : pN} (hz : ∀ a b, 8 ≤ b → N a b = 0) : ∀ a, a ≤ 8 → scF (fun i => N (i / 10) (i % 10)) (fun i => i) (10 * a) = scF (fun i => N (i / 8) (i % 8)) (fun i => 10 * (i / 8) + i % 8) (8 * a)
  | 0, _ => rfl
  | a + 1, ha => by
    have ih := scF_eq hz a (by omega)
    have row : ∀ b, b ≤ 8 → scF (fun i => N (i / 10) (i % 10)) (fun i => i) (10 * a + b) = scF (fun i => N (i / 8) (i % 8)) (fun i => 10 * (i / 8) + i % 8) (8 * a + b) := by
      intro b
      induction b with
      | zero => intro _; exact ih
      | succ b ihb =>
        intro hb
        have e := ihb (by omega)
        show (if (scF (fun i => N (i / 10) (i % 10)) (fun i => i) (10 * a + b)).2 < N ((10 * a + b) / 10) ((10 * a + b) % 10) then (10 * a + b + 1, N ((10 * a + b) / 10) ((10 * a + b) % 10)) else scF (fun i => N (i / 10) (i % 10)) (fun i => i) (10 * a + b)) = (if (scF (fun i => N (i / 8) (i % 8)) (fun i => 10 * (i / 8) + i % 8) (8 * a + b)).2 < N ((8 * a + b) / 8) ((8 * a + b) % 8) then (10 * ((8 * a + b) / 8) + (8 * a + b) % 8 + 1, N ((8 * a + b) / 8) ((8 * a + b) % 8)) else scF (fun i => N (i / 8) (i % 8)) (fun i => 10 * (i / 8) + i % 8) (8 * a + b))
        rw [e, show (10 * a + b) / 10 = a by omega, show (10 * a + b) % 10 = b by omega, show (8 * a + b) / 8 = a by omega, show (8 * a + b) % 8 = b by omega]
    have skip : ∀ b, 8 ≤ b → b < 10 → scF (fun i => N (i / 10) (i % 10)) (fun i => i) (10 * a + b + 1) = scF (fun i => N (i / 10) (i % 10)) (fun i => i) (10 * a + b) := by
      intro b h1 h2
      show (if (scF (fun i => N (i / 10) (i % 10)) (fun i => i) (10 * a + b)).2 < N ((10 * a + b) / 10) ((10 * a + b) % 10) then _ else _) = _
      rw [show (10 * a + b) / 10 = a by omega, show (10 * a + b) % 10 = b by omega, hz a b h1, if_neg (by omega)]
    have e9 := skip 9 (by omega) (by omega)
    have e8 := skip 8 (by omega) (by omega)
    rw [show 10 * (a + 1) = 10 * a + 9 + 1 by omega, e9, show 10 * a + 9 = 10 * a + 8 + 1 by omega, e8, row 8 (Nat.le_refl _)]
    rw [show 8 * (a + 1) = 8 * a + 8 by omega]
theorem c_scan_go (sc : zSc) {N : pN} {S : zS} (hN : zPA N S) (hM : ∀ a b, N a b ≤ 80) (x1 x2 : Int32) : ∀ (k i : Nat), i + k = 80 →
    zO zgI sc (zg1, (zm_X8_mostAnsweringPair, 7), 59, S, [some (.ref 20), some (.int x1), some (.int x2), some (.int (z2 (scF (fun i => N (i / 10) (i % 10)) (fun i => i) i).1 ((scF (fun i => N (i / 10) (i % 10)) (fun i => i) i).1 - 1))), some (.int (nI (scF (fun i => N (i / 10) (i % 10)) (fun i => i) i).2)), some (.int (nI i))], [])
    = some (if x2 ≠ 0 then nI (scF (fun i => N (i / 10) (i % 10)) (fun i => i) 80).2 else z2 (scF (fun i => N (i / 10) (i % 10)) (fun i => i) 80).1 ((scF (fun i => N (i / 10) (i % 10)) (fun i => i) 80).1 - 1), S)
  | 0, i, hi => by
    have : i = 80 := by omega
    subst this
    rw [e_X8_mostAnsweringPair_59, if_pos (by decide), sif]
  | k + 1, i, hi => by
    have IH := c_scan_go sc hN hM x1 x2 k (i + 1) (by omega)
    have hb := (scF_b (f := fun i => N (i / 10) (i % 10)) (c := fun i => i) (M := 80) (fun i => hM _ _) (fun i h => by show i ≤ 100; omega) i (by omega)).2
    have hv := hM (i / 10) (i % 10)
    have ob : ¬ (nI i < 0 ∨ 80 ≤ (nI i).toNatClampNeg) := (by first | (rw [n_ob (by omega)]; omega) | (rw [n_obb (by omega)]; omega))
    have n80 : ¬ (Int32.ofNat 80 ≤ nI i) := by rw [show Int32.ofNat 80 = nI 80 from rfl, n_le (by omega) (by omega)]; omega
    have es : scF (fun i => N (i / 10) (i % 10)) (fun i => i) (i + 1) = if (scF (fun i => N (i / 10) (i % 10)) (fun i => i) i).2 < N (i / 10) (i % 10) then (i + 1, N (i / 10) (i % 10)) else scF (fun i => N (i / 10) (i % 10)) (fun i => i) i := rfl
    have hr : S.1 22 i = nI (N (i / 10) (i % 10)) := by
      have := hN (i / 10) (i % 10) (by omega) (by omega)
      rw [show 10 * (i / 10) + i % 10 = i by omega] at this
      exact this
    rw [e_X8_mostAnsweringPair_59, if_neg n80, if_neg ob, if_neg ob, n_cl (by omega), hr, n_s1, ifc (n_le (a := N (i / 10) (i % 10)) (b := (scF (fun i => N (i / 10) (i % 10)) (fun i => i) i).2) (by omega) (by omega))]
    by_cases c : N (i / 10) (i % 10) ≤ (scF (fun i => N (i / 10) (i % 10)) (fun i => i) i).2
    · rw [if_neg (by omega)] at es
      rw [es] at IH
      rw [if_pos c]; exact IH
    · rw [if_pos (by omega)] at es
      rw [es] at IH
      dsimp only at IH
      rw [show i + 1 - 1 = i by omega, show z2 (i + 1) i = nI i from if_neg (by omega)] at IH
      rw [if_neg c]; exact IH
theorem n_div8 {t : Nat} (h : t < 2147483648) : nI t / (8 : Int32) = nI (t / 8) := (Int32.ofNat_div (a := t) (b := 8) (by omega) (by omega)).symm
theorem m_scan_go (sc : zSc) {N : pN} {S : zS} (hN : zPO N S) (hM : ∀ a b, N a b ≤ 80) (x1 x2 : Int32) : ∀ (k i : Nat), i + k = 64 →
    zO zgI sc (zg1, (zm_X11_partners, 66), 144, S, [some (.ref 51), some (.int x1), some (.int x2), some (.int (z2 (scF (fun i => N (i / 8) (i % 8)) (fun i => 10 * (i / 8) + i % 8) i).1 ((scF (fun i => N (i / 8) (i % 8)) (fun i => 10 * (i / 8) + i % 8) i).1 - 1))), some (.int (nI (scF (fun i => N (i / 8) (i % 8)) (fun i => 10 * (i / 8) + i % 8) i).2)), some (.int (nI i))], [])
    = some (if x2 ≠ 0 then nI (scF (fun i => N (i / 8) (i % 8)) (fun i => 10 * (i / 8) + i % 8) 64).2 else z2 (scF (fun i => N (i / 8) (i % 8)) (fun i => 10 * (i / 8) + i % 8) 64).1 ((scF (fun i => N (i / 8) (i % 8)) (fun i => 10 * (i / 8) + i % 8) 64).1 - 1), S)
  | 0, i, hi => by
    have : i = 64 := by omega
    subst this
    rw [e_X11_partners_144, if_pos (by decide), sif]
  | k + 1, i, hi => by
    have IH := m_scan_go sc hN hM x1 x2 k (i + 1) (by omega)
    have hb := (scF_b (f := fun i => N (i / 8) (i % 8)) (c := fun i => 10 * (i / 8) + i % 8) (M := 80) (fun i => hM _ _) (fun i h => by show 10 * (i / 8) + i % 8 ≤ 100; omega) i (by omega)).2
    have hv := hM (i / 8) (i % 8)
    have ob : ¬ (nI i < 0 ∨ 64 ≤ (nI i).toNatClampNeg) := (by first | (rw [n_ob (by omega)]; omega) | (rw [n_obb (by omega)]; omega))
    have n64 : ¬ ((64 : Int32) ≤ nI i) := by rw [show (64 : Int32) = nI 64 from rfl, n_le (by omega) (by omega)]; omega
    have es : scF (fun i => N (i / 8) (i % 8)) (fun i => 10 * (i / 8) + i % 8) (i + 1) = if (scF (fun i => N (i / 8) (i % 8)) (fun i => 10 * (i / 8) + i % 8) i).2 < N (i / 8) (i % 8) then (10 * (i / 8) + i % 8 + 1, N (i / 8) (i % 8)) else scF (fun i => N (i / 8) (i % 8)) (fun i => 10 * (i / 8) + i % 8) i := rfl
    have hr : S.1 63 i = nI (N (i / 8) (i % 8)) := by
      have := hN (i / 8) (i % 8) (by omega) (by omega)
      rw [show 8 * (i / 8) + i % 8 = i by omega] at this
      exact this
    have ec : (10 : Int32) * (nI i / (8 : Int32)) + (nI i - nI i / (8 : Int32) * (8 : Int32)) = nI (10 * (i / 8) + i % 8) := by
      rw [n_div8 (by omega), show (8 : Int32) = nI 8 from rfl, show (10 : Int32) = nI 10 from rfl, zn_mul, zn_mul, zn_sub (by omega), zn_add]
      congr 1
      omega
    rw [e_X11_partners_144, if_neg n64, if_neg ob, if_neg ob, n_cl (by omega), hr, ec, n_s1, ifc (n_le (a := N (i / 8) (i % 8)) (b := (scF (fun i => N (i / 8) (i % 8)) (fun i => 10 * (i / 8) + i % 8) i).2) (by omega) (by omega))]
    by_cases c : N (i / 8) (i % 8) ≤ (scF (fun i => N (i / 8) (i % 8)) (fun i => 10 * (i / 8) + i % 8) i).2
    · rw [if_neg (by omega)] at es
      rw [es] at IH
      rw [if_pos c]; exact IH
    · rw [if_pos (by omega)] at es
      rw [es] at IH
      dsimp only at IH
      rw [show 10 * (i / 8) + i % 8 + 1 - 1 = 10 * (i / 8) + i % 8 by omega, show z2 (10 * (i / 8) + i % 8 + 1) (10 * (i / 8) + i % 8) = nI (10 * (i / 8) + i % 8) from if_neg (by omega)] at IH
      rw [if_neg c]; exact IH
theorem m_addPairs (sc : zSc) {n : Nat} {K : zkS} {N0 : pN} {S : zS} (h1 : S.1 51 6 = nI n) (hn : n ≤ 8) (hK : ∀ i, K 0 i ≤ n) (h60 : ∀ p, p < n → S.1 60 p = zwho (K 0 p)) (x1 x2 x3 : Int32) : ∀ (k p : Nat) (S1 : zS) (o5 : Option Value), p + k = n → zfr (zx1 63) S S1 → zPO (paF K N0 p) S1 →
    ∃ S' o4 o5', zO zgI sc (zg1, (zm_X11_partners, 66), 58, S1, [some (.ref 51), some (.int x1), some (.int x2), some (.int x3), some (.int (nI p)), o5], []) = zO zgI sc (zg1, (zm_X11_partners, 66), 42, S', [some (.ref 51), some (.int x1), some (.int x2), some (.int (x3 + (1 : Int32))), o4, o5'], []) ∧ zfr (zx1 63) S S' ∧ zPO (paF K N0 n) S'
  | 0, p, S1, o5, hp, f, hN => by
    have : p = n := by omega
    subst this
    refine ⟨S1, some (.int (nI p)), o5, ?_, f, hN⟩
    rw [e_X11_partners_58, f.1 51 6 rfl, h1, if_pos (by rw [n_le (by omega) (by omega)]; omega)]
  | k + 1, p, S1, o5, hp, f, hN => by
    have hk := hK p
    have ob : ¬ (nI p < 0 ∨ 8 ≤ (nI p).toNatClampNeg) := (by first | (rw [n_ob (by omega)]; omega) | (rw [n_obb (by omega)]; omega))
    have hstep : ∀ a b, paF K N0 (p + 1) a b = if K 0 p ≠ 0 ∧ K 0 p ≠ p + 1 ∧ ((K 0 p - 1 < p ∧ a = K 0 p - 1 ∧ b = p) ∨ (p < K 0 p - 1 ∧ a = p ∧ b = K 0 p - 1)) then paF K N0 p a b + 1 else paF K N0 p a b := fun _ _ => rfl
    rw [e_X11_partners_58, f.1 51 6 rfl, h1, if_neg (by rw [n_le (by omega) (by omega)]; omega), if_neg ob, n_cl (by omega), f.1 60 p rfl, h60 p (by omega), n_s1, ifc (zwho_lt0 (w := K 0 p) (by omega)), ifc (zwho_n (w := K 0 p) (p := p) (by omega) (by omega))]
    have same : (K 0 p = 0 ∨ K 0 p = p + 1) → ∃ S' o4 o5', zO zgI sc (zg1, (zm_X11_partners, 66), 58, S1, [some (.ref 51), some (.int x1), some (.int x2), some (.int x3), some (.int (nI (p + 1))), some (.int (zwho (K 0 p)))], []) = zO zgI sc (zg1, (zm_X11_partners, 66), 42, S', [some (.ref 51), some (.int x1), some (.int x2), some (.int (x3 + (1 : Int32))), o4, o5'], []) ∧ zfr (zx1 63) S S' ∧ zPO (paF K N0 n) S' := by
      intro q
      exact m_addPairs sc h1 hn hK h60 x1 x2 x3 k (p + 1) S1 _ (by omega) f (fun a b ha hb => by rw [hstep, if_neg (by omega)]; exact hN a b ha hb)
    by_cases c0 : K 0 p = 0
    · rw [if_pos c0]; exact same (Or.inl c0)
    rw [if_neg c0]
    by_cases c1 : K 0 p = p + 1
    · rw [if_pos c1]; exact same (Or.inr c1)
    rw [if_neg c1]
    obtain ⟨q, hq⟩ : ∃ q, K 0 p = q + 1 := ⟨K 0 p - 1, by omega⟩
    have ez : zwho (K 0 p) = nI q := by rw [hq, zwhoS]
    have hne : q ≠ p := by omega
    have el : (zwho (K 0 p) ≤ nI p) = (q ≤ p) := by rw [ez, n_le (by omega) (by omega)]
    have e8 : (8 : Int32) = nI 8 := rfl
    rw [ifc el]
    by_cases d : q ≤ p
    · have eI : (8 : Int32) * zwho (K 0 p) + nI p = nI (8 * q + p) := by rw [ez, e8, zn_mul, zn_add]
      have ob2 : ¬ (nI (8 * q + p) < 0 ∨ 64 ≤ (nI (8 * q + p)).toNatClampNeg) := (by first | (rw [n_ob (by omega)]; omega) | (rw [n_obb (by omega)]; omega))
      rw [if_pos d, eI, if_neg ob2, if_neg ob2, n_cl (show 8 * q + p < 2147483648 by omega), hN q p (by omega) (by omega), n_s1]
      refine m_addPairs sc h1 hn hK h60 x1 x2 x3 k (p + 1) _ _ (by omega) (zfr_w f 63 _ _ rfl) (fun a' b' ha' hb' => ?_)
      rw [hstep]
      by_cases e : a' = q ∧ b' = p
      · rw [e.1, e.2, zw1_y, if_pos (by omega)]
      · rw [zw1_n _ _ (by omega), if_neg (by omega)]; exact hN a' b' ha' hb'
    · have eI : (8 : Int32) * nI p + zwho (K 0 p) = nI (8 * p + q) := by rw [ez, e8, zn_mul, zn_add]
      have ob2 : ¬ (nI (8 * p + q) < 0 ∨ 64 ≤ (nI (8 * p + q)).toNatClampNeg) := (by first | (rw [n_ob (by omega)]; omega) | (rw [n_obb (by omega)]; omega))
      rw [if_neg d, eI, if_neg ob2, if_neg ob2, n_cl (show 8 * p + q < 2147483648 by omega), hN p q (by omega) (by omega), n_s1]
      refine m_addPairs sc h1 hn hK h60 x1 x2 x3 k (p + 1) _ _ (by omega) (zfr_w f 63 _ _ rfl) (fun a' b' ha' hb' => ?_)
      rw [hstep]
      by_cases e : a' = p ∧ b' = q
      · rw [e.1, e.2, zw1_y, if_pos (by omega)]
      · rw [zw1_n _ _ (by omega), if_neg (by omega)]; exact hN a' b' ha' hb'
theorem m_pairs_go (sc : zSc) {n : Nat} {P : Nat → Nat → Nat} {cs : List Int32} {gap w : Nat} (hr : zPR n P) (hw : w < 3) (x2 : Int32) : ∀ (k l : Nat) (S : zS) (o4 o5 : Option Value), l + k = 10 → zME n P cs gap none S → zPO (prF (prG n P cs gap w) n l) S →
    ∃ S', zO zgI sc (zg1, (zm_X11_partners, 66), 42, S, [some (.ref 51), some (.int (nI w)), some (.int x2), some (.int (nI l)), o4, o5], []) = zO zgI sc (zg1, (zm_X11_partners, 66), 144, S', [some (.ref 51), some (.int (nI w)), some (.int x2), some (.int (-2 : Int32)), some (.int (0 : Int32)), some (.int (0 : Int32))], []) ∧ zPO (prF (prG n P cs gap w) n 10) S' ∧ zfr zkMq S S'
  | 0, l, S, o4, o5, hl, hM, hN => by
    have : l = 10 := by omega
    subst this
    refine ⟨S, ?_, hN, zfr_refl _ _⟩
    rw [e_X11_partners_42, if_pos (by decide)]
  | k + 1, l, S, o4, o5, hl, hM, hN => by
    have hn := hM.1.2.1
    obtain ⟨S1, a1, a2, a3, a4⟩ := m_run sc hM hr (show l < 10 by omega) hw (lk := 0) (by omega)
    have a1' : zcV sc zm_X11_calls [.ref 51, .int (nI l), .int (nI w), .int (0 : Int32)] S = some S1 := a1
    obtain ⟨S2, p4, p5, g1, g2, g3⟩ := m_addPairs sc (N0 := prF (prG n P cs gap w) n l) a4.1.1 hn (prG_h hn (P := P) (cs := cs) (gap := gap) (w := w) l) (fun p hp => (a2.1 p (by omega)).1) (nI w) x2 (nI l) n 0 S1 o5 (by omega) (zfr_refl _ _) (fun a b ha hb => by rw [a3.1 63 _ rfl]; exact hN a b ha hb)
    have f2 : zfr zkMq S S2 := zfr_tr (zfr_up _ _ a3 rfl) (zfr_up _ _ g2 rfl)
    have hM2 : zME n P cs gap none S2 := ⟨zPM_cg hM.1 (f2.1 51 6 rfl) (fun j => f2.1 52 j rfl), (f2.1 52 64 rfl).trans hM.2.1, zTX_cg hM.2.2.1 (f2.1 51 11 rfl) (fun j => f2.1 58 j rfl), zTD_cg hM.2.2.2 (f2.1 51 18 rfl)⟩
    obtain ⟨S', k1, k2, k3⟩ := m_pairs_go sc hr hw x2 k (l + 1) S2 p4 p5 (by omega) hM2 g3
    refine ⟨S', ?_, k2, zfr_tr f2 k3⟩
    rw [e_X11_partners_42, if_neg (by rw [show (10 : Int32) = nI 10 from rfl, n_le (by omega) (by omega)]; omega), a1', Option.bind_some]
    rw [n_s1] at g1
    exact g1.trans k1
theorem q_partners (sc : zSc) {n : Nat} {P : Nat → Nat → Nat} {cs : List Int32} {gap ver : Nat} {S : zS} (hC : zCE n P cs gap ver S) (hM : zME n P cs gap none S) (a1 a2 : Int32) :
    zQ n P cs gap ver (zcI sc zm_X10_partners [.ref 0, .int a1, .int a2] S) (fun S => zcI sc zm_X11_partners [.ref 51, .int a1, .int a2] S) S := by
  have hn := hC.1.2.1
  have hr := hC.2.1
  by_cases h1 : rg a1 2
  case neg =>
    refine ⟨-1, S, S, ?_, ?_, hC, zfr_refl _ _, zfr_refl _ _⟩
    · rw [c_X10_partners]; rw [s_isWay, Option.bind_some]; (try dsimp only); rw [zb_f h1]; exact if_pos rfl
    · show zcI sc zm_X11_partners [.ref 51, .int a1, .int a2] S = _
      rw [c_X11_partners]; rw [m_isWay', Option.bind_some]; (try dsimp only); rw [zb_f h1]; exact if_pos rfl
  by_cases h2 : rg a2 1
  case neg =>
    refine ⟨-1, S, S, ?_, ?_, hC, zfr_refl _ _, zfr_refl _ _⟩
    · rw [c_X10_partners]; rw [s_isWay, Option.bind_some]; (try dsimp only); rw [zb_t h1]; rw [if_neg (show ¬ ((1 : Int32) = 0) by decide)]; rw [s_w1, Option.bind_some]; (try dsimp only); rw [zb_f h2]; exact if_neg (fun q => q rfl)
    · show zcI sc zm_X11_partners [.ref 51, .int a1, .int a2] S = _
      rw [c_X11_partners]; rw [m_isWay', Option.bind_some]; (try dsimp only); rw [zb_t h1]; rw [if_neg (show ¬ ((1 : Int32) = 0) by decide)]; rw [m_w1, Option.bind_some]; (try dsimp only); rw [zb_f h2]; exact if_neg (fun q => q rfl)
  obtain ⟨w, rfl, hw⟩ := rg_n h1
  obtain ⟨S1, b1, b2, b3⟩ := s_fill22 sc S 0
  have hC1 : zCE n P cs gap ver S1 := zCE_cg hC (zfr_up _ _ b3 rfl)
  obtain ⟨S2, d1, d2, d3⟩ := c_load sc hC1 (show w < 3 by omega)
  have fl : zfr (zk [8, 10, 11, 13, 14, 15] [(6, 7), (12, 9)]) S1 S2 := by
    obtain ⟨S2', c1, _, _, _, c5⟩ := s_load sc hC1.1 hC1.2.1 hC1.2.2.1 hC1.2.2.2.1 hC1.2.2.2.2.1 (show w < 3 by omega)
    have : S2' = S2 := by rw [c1] at d1; exact Option.some.inj d1
    rw [← this]; exact c5
  obtain ⟨S3, g1, g2, g3, g4⟩ := c_pairs_go sc (w := w) (nI w) a2 10 0 S2 (by omega) d2 (fun a b ha hb => by rw [fl.1 22 _ rfl]; exact b2 _ (by omega))
  have f3 : zfr zkC S S3 := zfr_tr (zfr_up _ _ b3 rfl) (zfr_tr d3 g4)
  have hM3 := zME_C hM f3
  have hle : ∀ a b, prF (prG n P cs gap w) n 10 a b ≤ 80 := fun a b => prF_le _ hn a b 10
  have hz : ∀ a b, 8 ≤ b → prF (prG n P cs gap w) n 10 a b = 0 := fun a b hb => prF_z hn (prG_h hn) hb 10
  have hsc := scF_eq hz 8 (Nat.le_refl _)
  have sC := c_scan_go sc g2 hle (nI w) a2 80 0 (by omega)
  have mi : ∀ (k i : Nat) (S4 : zS), i + k = 64 → zfr (zx1 63) S3 S4 → (∀ j, j < i → S4.1 63 j = 0) → ∃ S5, zO zgI sc (zg1, (zm_X11_partners, 66), 21, S4, [some (.ref 51), some (.int (nI w)), some (.int a2), some (.int (nI i)), none, none], []) = zO zgI sc (zg1, (zm_X11_partners, 66), 42, S5, [some (.ref 51), some (.int (nI w)), some (.int a2), some (.int (0 : Int32)), none, none], []) ∧ zfr (zx1 63) S3 S5 ∧ ∀ j, j < 64 → S5.1 63 j = 0 := by
    intro k
    induction k with
    | zero =>
      intro i S4 hi f h0
      have : i = 64 := by omega
      subst this
      refine ⟨S4, ?_, f, h0⟩
      rw [e_X11_partners_21, if_pos (by decide)]
    | succ k ih =>
      intro i S4 hi f h0
      rw [e_X11_partners_21, if_neg (by rw [show (64 : Int32) = nI 64 from rfl, n_le (by omega) (by omega)]; omega), if_neg (by first | (rw [n_ob (by omega)]; omega) | (rw [n_obb (by omega)]; omega)), n_cl (by omega), n_s1]
      refine ih (i + 1) _ (by omega) (zfr_w f 63 i _ rfl) (fun j hj => ?_)
      by_cases e : j = i
      · rw [e, zw1_y]
      · rw [zw1_n _ _ (by omega)]; exact h0 j (by omega)
  obtain ⟨S5, k1, k2, k3⟩ := mi 64 0 S3 (by omega) (zfr_refl _ _) (fun j hj => by omega)
  have f5 : zfr zkMq S3 S5 := zfr_up _ _ k2 rfl
  have hM5 : zME n P cs gap none S5 := ⟨zPM_cg hM3.1 (f5.1 51 6 rfl) (fun j => f5.1 52 j rfl), (f5.1 52 64 rfl).trans hM3.2.1, zTX_cg hM3.2.2.1 (f5.1 51 11 rfl) (fun j => f5.1 58 j rfl), zTD_cg hM3.2.2.2 (f5.1 51 18 rfl)⟩
  obtain ⟨S6, l1, l2, l3⟩ := m_pairs_go sc hr (show w < 3 by omega) a2 10 0 S5 none none (by omega) hM5 (fun a b ha hb => k3 _ (by omega))
  have sM := m_scan_go sc l2 hle (nI w) a2 64 0 (by omega)
  refine ⟨if a2 ≠ 0 then nI (scF (fun i => prF (prG n P cs gap w) n 10 (i / 10) (i % 10)) (fun i => i) 80).2 else z2 (scF (fun i => prF (prG n P cs gap w) n 10 (i / 10) (i % 10)) (fun i => i) 80).1 ((scF (fun i => prF (prG n P cs gap w) n 10 (i / 10) (i % 10)) (fun i => i) 80).1 - 1), S3, S6, ?_, ?_, g3, f3, zfr_tr f5 l3⟩
  · rw [c_X10_partners]; rw [s_isWay, Option.bind_some]; (try dsimp only); rw [zb_t h1]; rw [if_neg (show ¬ ((1 : Int32) = 0) by decide)]; rw [s_w1, Option.bind_some]; (try dsimp only); rw [zb_t h2]; rw [if_pos (show (1 : Int32) ≠ 0 by decide)]
    have gg : zcI sc zm_X8_mostAnsweringPair [.ref 20, .int (nI w), .int a2] S = some (if a2 ≠ 0 then nI (scF (fun i => prF (prG n P cs gap w) n 10 (i / 10) (i % 10)) (fun i => i) 80).2 else z2 (scF (fun i => prF (prG n P cs gap w) n 10 (i / 10) (i % 10)) (fun i => i) 80).1 ((scF (fun i => prF (prG n P cs gap w) n 10 (i / 10) (i % 10)) (fun i => i) 80).1 - 1), S3) := by
      rw [c_X8_mostAnsweringPair, b1, Option.bind_some, d1, Option.bind_some]
      exact g1.trans sC
    rw [gg, Option.bind_some]
  · (try dsimp only); rw [c_X11_partners]; rw [m_isWay', Option.bind_some]; (try dsimp only); rw [zb_t h1]; rw [if_neg (show ¬ ((1 : Int32) = 0) by decide)]; rw [m_w1, Option.bind_some]; (try dsimp only); rw [zb_t h2]; rw [if_pos (show (1 : Int32) ≠ 0 by decide)]
    have e1 : scF (fun i => prF (prG n P cs gap w) n 10 (i / 10) (i % 10)) (fun i => i) 80 = scF (fun i => prF (prG n P cs gap w) n 10 (i / 8) (i % 8)) (fun i => 10 * (i / 8) + i % 8) 64 := hsc
    rw [e1]
    exact (k1.trans l1).trans sM
