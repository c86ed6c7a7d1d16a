/-! ===== a call, name by name, in pure words =====
K 0 p: who answers for p (0: nobody, q + 1: q); K 1 p: for how many p helped; K 2 p: at which tenth p's name comes;
K 3: 0 marked, 1 falsely, 2 helpers, 3 caught, 4 tenths -/
abbrev zkS := Nat → Nat → Nat
def khelp (bo fr : Nat → Nat) (th : Nat → Nat → Bool) (K : zkS) (p : Nat) : Nat → Nat → Nat
  | 0, _ => 0
  | k + 1, q => if ((fr q).testBit p && decide (K 1 q < bo q) && th q (K 3 4)) = true then q + 1 else khelp bo fr th K p k (q + 1)
def kup (p w tv : Nat) (K : zkS) : zkS := fun f i =>
  if f = 0 then (if i = p then w else K 0 i)
  else if f = 1 then (if w ≠ 0 ∧ w ≠ p + 1 ∧ i + 1 = w then K 1 i + 1 else K 1 i)
  else if f = 2 then (if i = p then K 3 4 else K 2 i)
  else if i = 0 then (if w ≠ 0 then K 3 0 ||| 2 ^ p else K 3 0)
  else if i = 1 then (if w ≠ 0 ∧ w ≠ p + 1 then K 3 1 ||| 2 ^ p else K 3 1)
  else if i = 2 then (if w ≠ 0 ∧ w ≠ p + 1 then K 3 2 ||| 2 ^ (w - 1) else K 3 2)
  else if i = 4 then K 3 4 + tv
  else K f i
def kca (K : zkS) : zkS := fun f i => if f = 3 ∧ i = 3 then K 3 3 + 1 else K f i
abbrev kbit (lk p : Nat) : Nat := if lk.testBit p = true then 1 else 0
def kst (n : Nat) (ord bo fr : Nat → Nat) (th : Nat → Nat → Bool) (lk : Nat) (T : Nat → Nat → Nat → Nat → Nat) (K : zkS) (pl : Nat) : zkS :=
  if th (ord pl) (K 3 4) = true then kup (ord pl) (ord pl + 1) (T pl (ord pl) (ord pl + 1) (kbit lk (ord pl))) K
  else if khelp bo fr th K (ord pl) n 0 ≠ 0 ∧ lk.testBit (ord pl) = true then kup (ord pl) 0 (T pl (ord pl) 0 (kbit lk (ord pl))) (kca K)
  else kup (ord pl) (khelp bo fr th K (ord pl) n 0) (T pl (ord pl) (khelp bo fr th K (ord pl) n 0) (kbit lk (ord pl))) K
def kcl (n : Nat) (ord bo fr : Nat → Nat) (th : Nat → Nat → Bool) (lk : Nat) (T : Nat → Nat → Nat → Nat → Nat) : Nat → zkS
  | 0 => fun _ _ => 0
  | m + 1 => kst n ord bo fr th lk T (kcl n ord bo fr th lk T m) m
abbrev kgood (n pl : Nat) (K : zkS) : Prop :=
  K 3 0 < 256 ∧ K 3 1 < 256 ∧ K 3 2 < 256 ∧ K 3 3 ≤ pl ∧ K 3 4 ≤ pl * 999 ∧ ∀ i, K 0 i ≤ n ∧ K 1 i ≤ pl ∧ K 2 i ≤ pl * 999
theorem khelp_le (bo fr : Nat → Nat) (th : Nat → Nat → Bool) (K : zkS) (p : Nat) : ∀ k q, khelp bo fr th K p k q ≤ q + k
  | 0, q => Nat.zero_le _
  | k + 1, q => by
    have := khelp_le bo fr th K p k (q + 1)
    unfold khelp
    split <;> omega
theorem kup_good {n pl p w tv : Nat} {K : zkS} (hn : n ≤ 8) (hp : p < n) (hw : w ≤ n) (ht : tv ≤ 999) (h : kgood n pl K) : kgood n (pl + 1) (kup p w tv K) := by
  obtain ⟨h0, h1, h2, h3, h4, hi⟩ := h
  have b0 : K 3 0 ||| 2 ^ p < 256 := n_orlt h0 (n_p2 (by omega))
  have b1 : K 3 1 ||| 2 ^ p < 256 := n_orlt h1 (n_p2 (by omega))
  refine ⟨?_, ?_, ?_, ?_, ?_, ?_⟩
  · show (if w ≠ 0 then K 3 0 ||| 2 ^ p else K 3 0) < 256
    split <;> assumption
  · show (if w ≠ 0 ∧ w ≠ p + 1 then K 3 1 ||| 2 ^ p else K 3 1) < 256
    split <;> assumption
  · show (if w ≠ 0 ∧ w ≠ p + 1 then K 3 2 ||| 2 ^ (w - 1) else K 3 2) < 256
    split
    · exact n_orlt h2 (n_p2 (by omega))
    · exact h2
  · show K 3 3 ≤ pl + 1
    omega
  · show K 3 4 + tv ≤ (pl + 1) * 999
    omega
  · intro i
    have := hi i
    refine ⟨?_, ?_, ?_⟩
    · show (if i = p then w else K 0 i) ≤ n
      split <;> omega
    · show (if w ≠ 0 ∧ w ≠ p + 1 ∧ i + 1 = w then K 1 i + 1 else K 1 i) ≤ pl + 1
      split <;> omega
    · show (if i = p then K 3 4 else K 2 i) ≤ (pl + 1) * 999
      have hl : pl * 999 ≤ (pl + 1) * 999 := Nat.mul_le_mul_right _ (Nat.le_succ pl)
      split
      · exact Nat.le_trans h4 hl
      · exact Nat.le_trans this.2.2 hl
theorem kst_good {n pl lk : Nat} {ord bo fr : Nat → Nat} {th : Nat → Nat → Bool} {T : Nat → Nat → Nat → Nat → Nat} {K : zkS} (hn : n ≤ 8) (hp : ord pl < n) (ht : ∀ a b c d, T a b c d ≤ 999) (h : kgood n pl K) : kgood n (pl + 1) (kst n ord bo fr th lk T K pl) := by
  have hk := khelp_le bo fr th K (ord pl) n 0
  unfold kst
  split
  · exact kup_good hn hp (by omega) (ht _ _ _ _) h
  · split
    · have h3 := h.2.2.2.1
      have : kgood n (pl + 1) (kup (ord pl) 0 (T pl (ord pl) 0 (kbit lk (ord pl))) K) := kup_good hn hp (by omega) (ht _ _ _ _) h
      refine ⟨this.1, this.2.1, this.2.2.1, ?_, this.2.2.2.2.1, this.2.2.2.2.2⟩
      show K 3 3 + 1 ≤ pl + 1
      omega
    · exact kup_good hn hp (by omega) (ht _ _ _ _) h
theorem kcl_good {n lk : Nat} {ord bo fr : Nat → Nat} {th : Nat → Nat → Bool} {T : Nat → Nat → Nat → Nat → Nat} (hn : n ≤ 8) (hp : ∀ i, i < n → ord i < n) (ht : ∀ a b c d, T a b c d ≤ 999) : ∀ m, m ≤ n → kgood n m (kcl n ord bo fr th lk T m)
  | 0, _ => ⟨by show 0 < 256; omega, by show 0 < 256; omega, by show 0 < 256; omega, Nat.le_refl 0, Nat.zero_le _, fun i => ⟨Nat.zero_le _, Nat.le_refl 0, Nat.zero_le _⟩⟩
  | m + 1, h => kst_good hn (hp m (by omega)) ht (kcl_good hn hp ht m (by omega))
/-! ===== the class's call ===== -/
abbrev zth (he : Nat) (la : Nat → Nat) : Nat → Nat → Bool := fun p t => he.testBit p && decide (la p ≤ t)
abbrev zEC (n way : Nat) (ord bo fr la : Nat → Nat) (he lk : Nat) (S : zS) : Prop :=
  S.1 1 1 = nI n ∧ S.1 12 9 = nI way ∧ S.1 12 10 = nI lk ∧ S.1 12 11 = nI he ∧ ∀ q, q < n → S.1 13 q = nI (ord q) ∧ S.1 14 q = nI (bo q) ∧ S.1 15 q = nI (fr q) ∧ S.1 16 q = nI (la q)
abbrev zEB (n way : Nat) (ord bo fr la : Nat → Nat) (he lk : Nat) : Prop :=
  n ≤ 8 ∧ way < 3 ∧ he < 256 ∧ lk < 256 ∧ ∀ q, q < n → ord q < n ∧ bo q ≤ 7 ∧ fr q < 256 ∧ la q ≤ 999
theorem zEC_cg {n way : Nat} {ord bo fr la : Nat → Nat} {he lk : Nat} {S S' : zS} (h : zEC n way ord bo fr la he lk S) (f1 : S'.1 1 1 = S.1 1 1) (f9 : S'.1 12 9 = S.1 12 9) (f10 : S'.1 12 10 = S.1 12 10) (f11 : S'.1 12 11 = S.1 12 11) (f : ∀ j, S'.1 13 j = S.1 13 j ∧ S'.1 14 j = S.1 14 j ∧ S'.1 15 j = S.1 15 j ∧ S'.1 16 j = S.1 16 j) : zEC n way ord bo fr la he lk S' :=
  ⟨f1.trans h.1, f9.trans h.2.1, f10.trans h.2.2.1, f11.trans h.2.2.2.1, fun q k => ⟨(f q).1.trans (h.2.2.2.2 q k).1, (f q).2.1.trans (h.2.2.2.2 q k).2.1, (f q).2.2.1.trans (h.2.2.2.2 q k).2.2.1, (f q).2.2.2.trans (h.2.2.2.2 q k).2.2.2⟩⟩
theorem s_isThere (sc : zSc) {n way : Nat} {ord bo fr la : Nat → Nat} {he lk : Nat} {S : zS} (h : zEC n way ord bo fr la he lk S) (b : zEB n way ord bo fr la he lk) {p t : Nat} (hp : p < n) (ht : t < 2147483648) :
    zcI sc zm_X0_isThere [.ref 12, .int (nI p), .int (nI t)] S = some (zb (zth he la p t = true), S) := by
  have hb := b.2.2.2.2 p hp
  have hn := b.1
  rw [c_X0_isThere, h.2.2.2.1, s_holds sc S b.2.2.1 (by omega), Option.bind_some]
  dsimp only
  by_cases c : he.testBit p = true
  · rw [zb_t c, if_neg (by decide), if_neg (by first | (rw [n_ob (by omega)]; omega) | (rw [n_obb (by omega)]; omega)), n_cl (by omega), (h.2.2.2.2 p hp).2.2.2, ifc (n_lt (a := t) (b := la p) ht (by omega))]
    by_cases d : t < la p
    · rw [if_pos d, zb_f (by simp [c]; omega)]
    · rw [if_neg d, zb_t (by simp [c]; omega)]
  · rw [zb_f c, if_pos rfl, zb_f (by simp [c])]
theorem s_helperOf_go (sc : zSc) {n way : Nat} {ord bo fr la : Nat → Nat} {he lk : Nat} {S : zS} (h : zEC n way ord bo fr la he lk S) (b : zEB n way ord bo fr la he lk) {K : zkS} (h1 : ∀ i, i < 8 → S.1 17 i = nI (K 1 i)) (h4 : S.1 12 15 = nI (K 3 4)) (g1 : ∀ i, K 1 i ≤ 8) (g4 : K 3 4 ≤ 8000) {p : Nat} (hp : p < n) :
    ∀ k q, q + k = n → zO zgI sc (zg1, (zm_X0_helperOf, 3), 2, S, [some (.ref 12), some (.int (nI p)), some (.int (nI q))], []) = some (zwho (khelp bo fr (zth he la) K p k q), S)
  | 0, q, hq => by
    have hn := b.1
    rw [e_X0_helperOf_2, h.1, if_pos (by rw [n_le (by omega) (by omega)]; omega)]
    show _ = some (zwho 0, S)
    rw [zwho0]
  | k + 1, q, hq => by
    have hn := b.1
    have hb := b.2.2.2.2 q (by omega)
    have hg := g1 q
    have IH := s_helperOf_go sc h b h1 h4 g1 g4 hp k (q + 1) (by omega)
    obtain ⟨e13, e14, e15, e16⟩ := h.2.2.2.2 q (by omega)
    rw [e_X0_helperOf_2, h.1, if_neg (by rw [n_le (by omega) (by omega)]; omega), if_neg (by first | (rw [n_ob (by omega)]; omega) | (rw [n_obb (by omega)]; omega)), n_cl (by omega), e15, s_holds sc S hb.2.2.1 (by omega), Option.bind_some]
    dsimp only
    unfold khelp
    by_cases c : (fr q).testBit p = true
    · rw [zb_t c, if_neg (by decide), if_neg (by first | (rw [n_ob (by omega)]; omega) | (rw [n_obb (by omega)]; omega)), if_neg (by first | (rw [n_ob (by omega)]; omega) | (rw [n_obb (by omega)]; omega)), e14, h1 q (by omega), ifc (n_le (a := bo q) (b := K 1 q) (by omega) (by omega))]
      by_cases d : bo q ≤ K 1 q
      · rw [if_pos d, n_s1, if_neg (by simp; omega)]; exact IH
      · rw [if_neg d, h4, s_isThere sc h b (by omega) (by omega), Option.bind_some]
        dsimp only
        by_cases e : zth he la q (K 3 4) = true
        · rw [zb_t e, if_neg (by decide), if_pos (by rw [c, e]; simp; omega), zwhoS]
        · rw [zb_f e, if_pos rfl, n_s1, if_neg (by rw [Bool.and_eq_true]; exact fun k => e k.2)]; exact IH
    · rw [zb_f c, if_pos rfl, n_s1, if_neg (by rw [Bool.and_eq_true, Bool.and_eq_true]; exact fun k => c k.1.1)]; exact IH
theorem s_helperOf (sc : zSc) {n way : Nat} {ord bo fr la : Nat → Nat} {he lk : Nat} {S : zS} (h : zEC n way ord bo fr la he lk S) (b : zEB n way ord bo fr la he lk) {K : zkS} (h1 : ∀ i, i < 8 → S.1 17 i = nI (K 1 i)) (h4 : S.1 12 15 = nI (K 3 4)) (g1 : ∀ i, K 1 i ≤ 8) (g4 : K 3 4 ≤ 8000) {p : Nat} (hp : p < n) :
    zcI sc zm_X0_helperOf [.ref 12, .int (nI p)] S = some (zwho (khelp bo fr (zth he la) K p n 0), S) :=
  (c_X0_helperOf sc S (nI p)).trans (s_helperOf_go sc h b h1 h4 g1 g4 hp n 0 (by omega))
abbrev zRC (ord : Nat → Nat) (pl : Nat) (K : zkS) (S : zS) : Prop :=
  (∀ i, i < 8 → S.1 17 i = nI (K 1 i)) ∧ S.1 12 12 = nI (K 3 0) ∧ S.1 12 13 = nI (K 3 1) ∧ S.1 12 14 = nI (K 3 2) ∧ S.1 12 16 = nI (K 3 3) ∧ S.1 12 15 = nI (K 3 4) ∧ ∀ j, j < pl → S.1 18 (ord j) = zwho (K 0 (ord j)) ∧ S.1 19 (ord j) = nI (K 2 (ord j))
abbrev zkCall : Nat → Nat → Bool := zk [8, 9, 11, 17, 18, 19] [(12, 12), (12, 13), (12, 14), (12, 15), (12, 16)]
theorem s_name54 (sc : zSc) {n way : Nat} {ord bo fr la : Nat → Nat} {he lk : Nat} {S : zS} {cs : List Int32} {sl : Nat → Nat} {gap : Nat} {ow : Nat → Nat → Nat} (h : zEC n way ord bo fr la he lk S) (b : zEB n way ord bo fr la he lk) (hC : zCL cs sl gap n ow S) {K : zkS} {pl w : Nat} (how : ow way pl = ord pl) (hR : zRC ord pl K S) (hpl : pl < n) (hw : w ≤ n) :
    ∃ S', zO zgV sc (zg1, (zm_X0_nameComes, 4), 54, S, [some (.ref 12), some (.int (nI pl)), some (.int (nI (ord pl))), some (.int (zb (lk.testBit (ord pl) = true))), some (.int (zwho w))], []) = some S' ∧
      zRC ord (pl + 1) (kup (ord pl) w (ttv cs sl gap way pl (ord pl) w (kbit lk (ord pl))) K) S' ∧ zCL cs sl gap n ow S' ∧ zfr zkCall S S' := by
  have hn := b.1
  have hp : ord pl < n := (b.2.2.2.2 pl hpl).1
  obtain ⟨r1, r2, r3, r4, r5, r6, r7⟩ := hR
  -- the last act
  have tail : ∀ S2 : zS, zfr (zk [17, 18, 19] [(12, 12), (12, 13), (12, 14)]) S S2 → 
      (∀ i, S2.1 18 i = if i = ord pl then zwho w else S.1 18 i) → (∀ i, S2.1 19 i = if i = ord pl then nI (K 3 4) else S.1 19 i) →
      (∀ i, i < 8 → S2.1 17 i = nI (kup (ord pl) w 0 K 1 i)) → S2.1 12 12 = nI (kup (ord pl) w 0 K 3 0) → S2.1 12 13 = nI (kup (ord pl) w 0 K 3 1) → S2.1 12 14 = nI (kup (ord pl) w 0 K 3 2) →
      ∃ S', (if zb (lk.testBit (ord pl) = true) = 0 then ((zcI sc zm_X3_tenths [.ref 6, .int (nI way), .int (nI pl), .int (nI (ord pl)), .int (zwho w), .int (0 : Int32)] S2).bind (fun q1 => some (zw1 q1.2 12 15 (nI (K 3 4) + q1.1)))) else ((zcI sc zm_X3_tenths [.ref 6, .int (nI way), .int (nI pl), .int (nI (ord pl)), .int (zwho w), .int (1 : Int32)] S2).bind (fun q1 => some (zw1 q1.2 12 15 (nI (K 3 4) + q1.1))))) = some S' ∧
      zRC ord (pl + 1) (kup (ord pl) w (ttv cs sl gap way pl (ord pl) w (kbit lk (ord pl))) K) S' ∧ zCL cs sl gap n ow S' ∧ zfr zkCall S S' := by
    intro S2 f2 t18 t19 t17 t12 t13 t14
    have hC2 : zCL cs sl gap n ow S2 := zCL_cg hC (f2.1 6 2 rfl) (fun j => f2.1 7 j rfl) (f2.1 8 1 rfl) (fun j => f2.1 10 j rfl) (fun j => f2.1 11 j rfl)
    have hk : kbit lk (ord pl) < 2 := by unfold kbit; split <;> omega
    obtain ⟨S3, a1, a2, a3⟩ := s_tenths sc hC2 hn b.2.1 hpl hw hk (by rw [how]; omega)
    rw [how] at a1
    refine ⟨zw1 S3 12 15 (nI (K 3 4) + nI (ttv cs sl gap way pl (ord pl) w (kbit lk (ord pl)))), ?_, ⟨?_, ?_, ?_, ?_, ?_, ?_, ?_⟩, ?_, ?_⟩
    · by_cases c : lk.testBit (ord pl) = true
      · have e : kbit lk (ord pl) = 1 := if_pos c
        rw [e] at a1 ⊢
        rw [zb_t c, if_neg (by decide), show (1 : Int32) = nI 1 from rfl, a1, Option.bind_some]
      · have e : kbit lk (ord pl) = 0 := if_neg c
        rw [e] at a1 ⊢
        rw [zb_f c, if_pos rfl, show (0 : Int32) = nI 0 from rfl, a1, Option.bind_some]
    · intro i hi
      rw [zw1_n _ _ (by omega), a3.1 17 i rfl, t17 i hi]; rfl
    · rw [zw1_n _ _ (by omega), a3.1 12 12 rfl, t12]; rfl
    · rw [zw1_n _ _ (by omega), a3.1 12 13 rfl, t13]; rfl
    · rw [zw1_n _ _ (by omega), a3.1 12 14 rfl, t14]; rfl
    · rw [zw1_n _ _ (by omega), a3.1 12 16 rfl, f2.1 12 16 rfl, r5]; rfl
    · rw [zw1_y, zn_add]; rfl
    · intro j hj
      rw [zw1_n _ _ (by omega), zw1_n _ _ (by omega), a3.1 18 _ rfl, a3.1 19 _ rfl, t18, t19]
      show _ = zwho (if ord j = ord pl then w else K 0 (ord j)) ∧ _ = nI (if ord j = ord pl then K 3 4 else K 2 (ord j))
      by_cases e : ord j = ord pl
      · rw [if_pos e, if_pos e, if_pos e, if_pos e]; exact ⟨rfl, rfl⟩
      · rw [if_neg e, if_neg e, if_neg e, if_neg e]
        have : j < pl := by
          by_cases g : j = pl
          · exact absurd (by rw [g]) e
          · omega
        exact r7 j this
    · exact zCL_cg a2 (zw1_n _ _ (by omega)) (fun j => zw1_n _ _ (by omega)) (zw1_n _ _ (by omega)) (fun j => zw1_n _ _ (by omega)) (fun j => zw1_n _ _ (by omega))
    · exact zfr_w (zfr_tr (zfr_up _ _ f2 rfl) (zfr_up _ _ a3 rfl)) 12 15 _ rfl
  rw [e_X0_nameComes_54]
  rw [if_neg (c := nI (ord pl) < 0 ∨ _) (by first | (rw [n_ob (by omega)]; omega) | (rw [n_obb (by omega)]; omega)), if_neg (c := nI (ord pl) < 0 ∨ _) (by first | (rw [n_ob (by omega)]; omega) | (rw [n_obb (by omega)]; omega))]
  simp only [n_cl (show ord pl < 2147483648 by omega), h.2.1, r6, n_sh (show ord pl < 8 by omega), zwho_m1 (show w < 2147483648 by omega), zwho_n (show w < 2147483648 by omega) (show ord pl < 2147483648 by omega)]
  by_cases w0 : w = 0
  · rw [if_pos w0]
    refine tail _ (zfr_w (zfr_w0 18 _ _ rfl) 19 _ _ rfl) ?_ ?_ ?_ ?_ ?_ ?_
    · intro i
      rw [zw1_n _ _ (by omega), zw1_r]
      by_cases e : i = ord pl
      · rw [if_pos ⟨rfl, e⟩, if_pos e]
      · rw [if_neg (fun q => e q.2), if_neg e]
    · intro i
      rw [zw1_r]
      by_cases e : i = ord pl
      · rw [if_pos ⟨rfl, e⟩, if_pos e]
      · rw [if_neg (fun q => e q.2), if_neg e, zw1_n _ _ (by omega)]
    · intro i hi
      rw [zw1_n _ _ (by omega), zw1_n _ _ (by omega), r1 i hi]
      show _ = nI (if w ≠ 0 ∧ w ≠ ord pl + 1 ∧ i + 1 = w then K 1 i + 1 else K 1 i)
      rw [if_neg (fun q => q.1 w0)]
    · rw [zw1_n _ _ (by omega), zw1_n _ _ (by omega), r2]
      show _ = nI (if w ≠ 0 then _ else _)
      rw [if_neg (fun q => q w0)]
    · rw [zw1_n _ _ (by omega), zw1_n _ _ (by omega), r3]
      show _ = nI (if w ≠ 0 ∧ w ≠ ord pl + 1 then _ else _)
      rw [if_neg (fun q => q.1 w0)]
    · rw [zw1_n _ _ (by omega), zw1_n _ _ (by omega), r4]
      show _ = nI (if w ≠ 0 ∧ w ≠ ord pl + 1 then _ else _)
      rw [if_neg (fun q => q.1 w0)]
  · rw [if_neg w0]
    by_cases w1 : w = ord pl + 1
    · rw [if_pos w1]
      refine tail _ (zfr_w (zfr_w (zfr_w0 18 _ _ rfl) 19 _ _ rfl) 12 12 _ rfl) ?_ ?_ ?_ ?_ ?_ ?_
      · intro i
        rw [zw1_n _ _ (by omega), zw1_n _ _ (by omega), zw1_r]
        by_cases e : i = ord pl
        · rw [if_pos ⟨rfl, e⟩, if_pos e]
        · rw [if_neg (fun q => e q.2), if_neg e]
      · intro i
        rw [zw1_n _ _ (by omega), zw1_r]
        by_cases e : i = ord pl
        · rw [if_pos ⟨rfl, e⟩, if_pos e]
        · rw [if_neg (fun q => e q.2), if_neg e, zw1_n _ _ (by omega)]
      · intro i hi
        rw [zw1_n _ _ (by omega), zw1_n _ _ (by omega), zw1_n _ _ (by omega), r1 i hi]
        show _ = nI (if w ≠ 0 ∧ w ≠ ord pl + 1 ∧ i + 1 = w then K 1 i + 1 else K 1 i)
        rw [if_neg (fun q => q.2.1 w1)]
      · rw [zw1_y, r2, n_or]
        show _ = nI (if w ≠ 0 then _ else _)
        rw [if_pos w0]
      · rw [zw1_n _ _ (by omega), zw1_n _ _ (by omega), zw1_n _ _ (by omega), r3]
        show _ = nI (if w ≠ 0 ∧ w ≠ ord pl + 1 then _ else _)
        rw [if_neg (fun q => q.2 w1)]
      · rw [zw1_n _ _ (by omega), zw1_n _ _ (by omega), zw1_n _ _ (by omega), r4]
        show _ = nI (if w ≠ 0 ∧ w ≠ ord pl + 1 then _ else _)
        rw [if_neg (fun q => q.2 w1)]
    · rw [if_neg w1]
      obtain ⟨q, rfl⟩ : ∃ q, w = q + 1 := ⟨w - 1, by omega⟩
      simp only [zwhoS] at tail ⊢
      rw [if_neg (c := nI q < 0 ∨ _) (by first | (rw [n_ob (by omega)]; omega) | (rw [n_obb (by omega)]; omega)), if_neg (c := nI q < 0 ∨ _) (by first | (rw [n_ob (by omega)]; omega) | (rw [n_obb (by omega)]; omega))]
      simp only [n_cl (show q < 2147483648 by omega), n_sh (show q < 8 by omega)]
      refine tail _ (zfr_w (zfr_w (zfr_w (zfr_w (zfr_w (zfr_w0 18 _ _ rfl) 19 _ _ rfl) 12 12 _ rfl) 12 13 _ rfl) 12 14 _ rfl) 17 _ _ rfl) ?_ ?_ ?_ ?_ ?_ ?_
      · intro i
        rw [zw1_n _ _ (by omega), zw1_n _ _ (by omega), zw1_n _ _ (by omega), zw1_n _ _ (by omega), zw1_n _ _ (by omega), zw1_r]
        by_cases e : i = ord pl
        · rw [if_pos ⟨rfl, e⟩, if_pos e]
        · rw [if_neg (fun q => e q.2), if_neg e]
      · intro i
        rw [zw1_n _ _ (by omega), zw1_n _ _ (by omega), zw1_n _ _ (by omega), zw1_n _ _ (by omega), zw1_r]
        by_cases e : i = ord pl
        · rw [if_pos ⟨rfl, e⟩, if_pos e]
        · rw [if_neg (fun q => e q.2), if_neg e, zw1_n _ _ (by omega)]
      · intro i hi
        show _ = nI (if q + 1 ≠ 0 ∧ q + 1 ≠ ord pl + 1 ∧ i + 1 = q + 1 then K 1 i + 1 else K 1 i)
        by_cases e : i = q
        · rw [e, zw1_y, if_pos ⟨w0, w1, rfl⟩, r1 q (by omega), n_s1]
        · rw [zw1_n _ _ (by omega), zw1_n _ _ (by omega), zw1_n _ _ (by omega), zw1_n _ _ (by omega), zw1_n _ _ (by omega), zw1_n _ _ (by omega), if_neg (fun k => e (by omega)), r1 i hi]
      · rw [zw1_n _ _ (by omega), zw1_n _ _ (by omega), zw1_n _ _ (by omega), zw1_y, r2, n_or]
        show _ = nI (if q + 1 ≠ 0 then K 3 0 ||| 2 ^ ord pl else K 3 0)
        rw [if_pos w0]
      · rw [zw1_n _ _ (by omega), zw1_n _ _ (by omega), zw1_y, r3, n_or]
        show _ = nI (if q + 1 ≠ 0 ∧ q + 1 ≠ ord pl + 1 then K 3 1 ||| 2 ^ ord pl else K 3 1)
        rw [if_pos ⟨w0, w1⟩]
      · rw [zw1_n _ _ (by omega), zw1_y, r4, n_or]
        show _ = nI (if q + 1 ≠ 0 ∧ q + 1 ≠ ord pl + 1 then K 3 2 ||| 2 ^ (q + 1 - 1) else K 3 2)
        rw [if_pos ⟨w0, w1⟩]; rfl
theorem zEC_call {n way : Nat} {ord bo fr la : Nat → Nat} {he lk : Nat} {S S' : zS} (h : zEC n way ord bo fr la he lk S) (f : zfr zkCall S S') : zEC n way ord bo fr la he lk S' :=
  zEC_cg h (f.1 1 1 rfl) (f.1 12 9 rfl) (f.1 12 10 rfl) (f.1 12 11 rfl) (fun j => ⟨f.1 13 j rfl, f.1 14 j rfl, f.1 15 j rfl, f.1 16 j rfl⟩)
theorem s_nameComes (sc : zSc) {n way : Nat} {ord bo fr la : Nat → Nat} {he lk : Nat} {S : zS} {cs : List Int32} {sl : Nat → Nat} {gap : Nat} {ow : Nat → Nat → Nat} (h : zEC n way ord bo fr la he lk S) (b : zEB n way ord bo fr la he lk) (hC : zCL cs sl gap n ow S) {K : zkS} {pl : Nat} (how : ow way pl = ord pl) (hR : zRC ord pl K S) (hg : kgood n pl K) (hpl : pl < n) :
    ∃ S', zcV sc zm_X0_nameComes [.ref 12, .int (nI pl), .int (nI (ord pl))] S = some S' ∧
      zRC ord (pl + 1) (kst n ord bo fr (zth he la) lk (ttv cs sl gap way) K pl) S' ∧ zCL cs sl gap n ow S' ∧ zfr zkCall S S' := by
  have hn := b.1
  have hp : ord pl < n := (b.2.2.2.2 pl hpl).1
  have hk := khelp_le bo fr (zth he la) K (ord pl) n 0
  have g4 := hg.2.2.2.2.1
  rw [c_X0_nameComes, h.2.2.1, s_holds sc S b.2.2.2.1 (by omega), Option.bind_some]
  dsimp only
  rw [hR.2.2.2.2.2.1, s_isThere sc h b hp (by omega), Option.bind_some]
  dsimp only
  unfold kst
  by_cases c : zth he la (ord pl) (K 3 4) = true
  · rw [zb_t c, if_pos (by decide), if_pos c]
    have := s_name54 sc h b hC (w := ord pl + 1) how hR hpl (by omega)
    rw [zwhoS] at this
    exact this
  · rw [zb_f c, if_neg (by decide), if_neg c, s_helperOf sc h b hR.1 hR.2.2.2.2.2.1 (fun i => by have := (hg.2.2.2.2.2 i).2.1; omega) (by omega) hp, Option.bind_some]
    dsimp only
    by_cases d : lk.testBit (ord pl) = true
    · rw [if_neg (by rw [zb_t d]; decide), ifc (zwho_m1 (w := khelp bo fr (zth he la) K (ord pl) n 0) (by omega))]
      by_cases e : khelp bo fr (zth he la) K (ord pl) n 0 = 0
      · rw [if_pos e, if_neg (fun q => q.1 e)]
        exact s_name54 sc h b hC how hR hpl (by omega)
      · rw [if_neg e, if_pos ⟨e, d⟩, ← zwho0]
        have f1 : zfr zkCall S (zw1 S 12 16 (S.1 12 16 + 1)) := zfr_w0 12 16 _ rfl
        obtain ⟨S', a1, a2, a3, a4⟩ := s_name54 sc (zEC_call h f1) b (zCL_cg hC (f1.1 6 2 rfl) (fun j => f1.1 7 j rfl) (zw1_n _ _ (by omega)) (fun j => f1.1 10 j rfl) (fun j => zw1_n _ _ (by omega))) (K := kca K) (w := 0) how
          ⟨fun i hi => by rw [zw1_n _ _ (by omega), hR.1 i hi]; rfl, by rw [zw1_n _ _ (by omega), hR.2.1]; rfl, by rw [zw1_n _ _ (by omega), hR.2.2.1]; rfl, by rw [zw1_n _ _ (by omega), hR.2.2.2.1]; rfl, by rw [zw1_y, hR.2.2.2.2.1, n_s1]; rfl, by rw [zw1_n _ _ (by omega), hR.2.2.2.2.2.1]; rfl, fun j hj => by
            rw [zw1_n _ _ (by omega), zw1_n _ _ (by omega)]; exact hR.2.2.2.2.2.2 j hj⟩ hpl (by omega)
        exact ⟨S', a1, a2, a3, zfr_tr f1 a4⟩
    · rw [if_pos (by rw [zb_f d]), if_neg (fun q => d q.2)]
      exact s_name54 sc h b hC how hR hpl (by omega)
theorem s_make_go (sc : zSc) {n way : Nat} {ord bo fr la : Nat → Nat} {he lk : Nat} {cs : List Int32} {sl : Nat → Nat} {gap : Nat} {ow : Nat → Nat → Nat} (b : zEB n way ord bo fr la he lk) (how : ∀ pl, pl < n → ow way pl = ord pl) (x1 : Int32) :
    ∀ (k pl : Nat) (S : zS), pl + k = n → zEC n way ord bo fr la he lk S → zCL cs sl gap n ow S → zRC ord pl (kcl n ord bo fr (zth he la) lk (ttv cs sl gap way) pl) S →
    ∃ S', zO zgV sc (zg1, (zm_X0_make, 5), 40, S, [some (.ref 12), some (.int x1), some (.int (nI pl))], []) = some S' ∧
      zRC ord n (kcl n ord bo fr (zth he la) lk (ttv cs sl gap way) n) S' ∧ zCL cs sl gap n ow S' ∧ zfr zkCall S S'
  | 0, pl, S, h1, h2, h3, h4 => by
    have hn := b.1
    have : pl = n := by omega
    subst this
    refine ⟨S, ?_, h4, h3, zfr_refl _ _⟩
    rw [e_X0_make_40, h2.1, if_pos (by rw [n_le (by omega) (by omega)]; omega)]
  | k + 1, pl, S, h1, h2, h3, h4 => by
    have hn := b.1
    obtain ⟨S1, a1, a2, a3, a4⟩ := s_nameComes sc h2 b h3 (how pl (by omega)) h4 (kcl_good hn (fun i hi => (b.2.2.2.2 i hi).1) (fun _ _ _ _ => (tcl_b _).2) pl (by omega)) (by omega)
    obtain ⟨S', e1, e2, e3, e4⟩ := s_make_go sc b how x1 k (pl + 1) S1 (by omega) (zEC_call h2 a4) a3 a2
    refine ⟨S', ?_, e2, e3, zfr_tr a4 e4⟩
    rw [e_X0_make_40, h2.1, if_neg (by rw [n_le (by omega) (by omega)]; omega), if_neg (by first | (rw [n_ob (by omega)]; omega) | (rw [n_obb (by omega)]; omega)), n_cl (by omega), (h2.2.2.2.2 pl (by omega)).1, a1, Option.bind_some, n_s1]
    exact e1
/-- what a call made has left -/
abbrev zRX (n : Nat) (K : zkS) (S : zS) : Prop :=
  S.1 12 12 = nI (K 3 0) ∧ S.1 12 13 = nI (K 3 1) ∧ S.1 12 14 = nI (K 3 2) ∧ S.1 12 16 = nI (K 3 3) ∧ S.1 12 15 = nI (K 3 4) ∧ ∀ p, p < n → S.1 18 p = zwho (K 0 p) ∧ S.1 19 p = nI (K 2 p)
theorem s_make (sc : zSc) {n way : Nat} {bo fr la : Nat → Nat} {he lk : Nat} {cs : List Int32} {sl : Nat → Nat} {gap : Nat} {P : Nat → Nat → Nat} {S : zS} (b : zEB n way (zowy P n way) bo fr la he lk) (h : S.1 1 1 = nI n ∧ S.1 12 9 = nI way ∧ S.1 12 11 = nI he ∧ ∀ q, q < n → S.1 13 q = nI (zowy P n way q) ∧ S.1 14 q = nI (bo q) ∧ S.1 15 q = nI (fr q) ∧ S.1 16 q = nI (la q)) (hC : zCL cs sl gap n (zowy P n) S) :
    ∃ S', zcV sc zm_X0_make [.ref 12, .int (nI lk)] S = some S' ∧ zRX n (kcl n (zowy P n way) bo fr (zth he la) lk (ttv cs sl gap way) n) S' ∧ zCL cs sl gap n (zowy P n) S' ∧ zfr (zk [8, 9, 11, 17, 18, 19] [(12, 10), (12, 12), (12, 13), (12, 14), (12, 15), (12, 16)]) S S' := by
  have f1 : zfr (zk [8, 9, 11, 17, 18, 19] [(12, 10), (12, 12), (12, 13), (12, 14), (12, 15), (12, 16)]) S (zw1 (zw1 (zw1 (zw1 (zw1 (zw1 S 12 10 (nI lk)) 12 12 0) 12 13 0) 12 14 0) 12 15 0) 12 16 0) :=
    zfr_w (zfr_w (zfr_w (zfr_w (zfr_w (zfr_w0 12 10 _ rfl) 12 12 _ rfl) 12 13 _ rfl) 12 14 _ rfl) 12 15 _ rfl) 12 16 _ rfl
  obtain ⟨S1, a1, a2, a3⟩ := s_fill17 sc (zw1 (zw1 (zw1 (zw1 (zw1 (zw1 S 12 10 (nI lk)) 12 12 0) 12 13 0) 12 14 0) 12 15 0) 12 16 0) 0
  have f2 := zfr_tr f1 (zfr_up [8, 9, 11, 17, 18, 19] [(12, 10), (12, 12), (12, 13), (12, 14), (12, 15), (12, 16)] a3 rfl)
  have hE : zEC n way (zowy P n way) bo fr la he lk S1 := by
    refine ⟨(f2.1 1 1 rfl).trans h.1, (f2.1 12 9 rfl).trans h.2.1, ?_, (f2.1 12 11 rfl).trans h.2.2.1, fun q hq => ?_⟩
    · rw [a3.1 12 10 rfl, zw1_n _ _ (by omega), zw1_n _ _ (by omega), zw1_n _ _ (by omega), zw1_n _ _ (by omega), zw1_n _ _ (by omega), zw1_y]
    · rw [f2.1 13 q rfl, f2.1 14 q rfl, f2.1 15 q rfl, f2.1 16 q rfl]; exact h.2.2.2 q hq
  have hC1 : zCL cs sl gap n (zowy P n) S1 := zCL_cg hC (f2.1 6 2 rfl) (fun j => f2.1 7 j rfl)
    (by rw [a3.1 8 1 rfl]; simp only [zw1_r]; rfl) (fun j => f2.1 10 j rfl) (fun j => by rw [a3.1 11 j rfl]; simp only [zw1_r]; rfl)
  have hR : zRC (zowy P n way) 0 (kcl n (zowy P n way) bo fr (zth he la) lk (ttv cs sl gap way) 0) S1 := by
    refine ⟨fun i hi => a2 i hi, ?_, ?_, ?_, ?_, ?_, fun j hj => by omega⟩
    · rw [a3.1 12 12 rfl, zw1_n _ _ (by omega), zw1_n _ _ (by omega), zw1_n _ _ (by omega), zw1_n _ _ (by omega), zw1_y]; rfl
    · rw [a3.1 12 13 rfl, zw1_n _ _ (by omega), zw1_n _ _ (by omega), zw1_n _ _ (by omega), zw1_y]; rfl
    · rw [a3.1 12 14 rfl, zw1_n _ _ (by omega), zw1_n _ _ (by omega), zw1_y]; rfl
    · rw [a3.1 12 16 rfl, zw1_y]; rfl
    · rw [a3.1 12 15 rfl, zw1_n _ _ (by omega), zw1_y]; rfl
  obtain ⟨S', e1, e2, e3, e4⟩ := s_make_go sc b (fun _ _ => rfl) (nI lk) n 0 S1 (by omega) hE hC1 hR
  refine ⟨S', ?_, ⟨e2.2.1, e2.2.2.1, e2.2.2.2.1, e2.2.2.2.2.1, e2.2.2.2.2.2.1, fun p hp => ?_⟩, e3, zfr_tr f2 (zfr_up _ _ e4 rfl)⟩
  · rw [c_X0_make, a1, Option.bind_some]; exact e1
  · have hq := (od_ok (ykey P way) n).1 p hp
    have := e2.2.2.2.2.2.2 (ocn (ykey P way) n p) hq.1
    rw [show zowy P n way (ocn (ykey P way) n p) = p from hq.2] at this
    exact this
