/-! ===== who is absent, whom to ask ===== -/
def orF (F : Nat → Bool) : Nat → Nat
  | 0 => 0
  | m + 1 => if F m = true then orF F m ||| m else orF F m
def fsF (F : Nat → Bool) : Nat → Nat
  | 0 => 0
  | m + 1 => if F m = true ∧ cnt F m = 0 then m else fsF F m
theorem cnt_ext {F : Nat → Bool} {a : Nat} : ∀ k, (∀ s, a ≤ s → s < a + k → F s = false) → cnt F (a + k) = cnt F a ∧ orF F (a + k) = orF F a ∧ fsF F (a + k) = fsF F a
  | 0, _ => ⟨rfl, rfl, rfl⟩
  | k + 1, h => by
    obtain ⟨i1, i2, i3⟩ := cnt_ext (F := F) k (fun s a b => h s a (by omega))
    have hk : ¬ F (a + k) = true := by rw [h (a + k) (by omega) (by omega)]; exact Bool.false_ne_true
    refine ⟨?_, ?_, ?_⟩
    · show cnt F (a + k) + (if F (a + k) = true then 1 else 0) = _
      rw [if_neg hk, i1]; rfl
    · show (if F (a + k) = true then orF F (a + k) ||| (a + k) else orF F (a + k)) = _
      rw [if_neg hk, i2]
    · show (if F (a + k) = true ∧ cnt F (a + k) = 0 then a + k else fsF F (a + k)) = _
      rw [if_neg (fun q => hk q.1), i3]
theorem orF_lt {F : Nat → Bool} : ∀ m, m ≤ 256 → orF F m < 256
  | 0, _ => by show 0 < 256; omega
  | m + 1, h => by
    have ih := orF_lt (F := F) m (by omega)
    unfold orF
    split
    · exact n_orlt ih (by omega)
    · exact ih
theorem fsF_lt {F : Nat → Bool} : ∀ m, fsF F m ≤ m
  | 0 => Nat.le_refl 0
  | m + 1 => by
    have := fsF_lt (F := F) m
    unfold fsF
    split <;> omega
def fitB (n : Nat) (P : Nat → Nat → Nat) (cs : List Int32) (gap w h told s : Nat) : Bool := decide (s < 2 ^ n) && decide (pcn s = h) && decide (kcm n P cs gap (some s) 0 w 0 n 3 0 = told)
theorem fitB_e {n : Nat} {P : Nat → Nat → Nat} {cs : List Int32} {gap w h told s : Nat} : fitB n P cs gap w h told s = true ↔ s < 2 ^ n ∧ pcn s = h ∧ kcm n P cs gap (some s) 0 w 0 n 3 0 = told := by
  unfold fitB
  rw [Bool.and_eq_true, Bool.and_eq_true, decide_eq_true_iff, decide_eq_true_iff, decide_eq_true_iff, and_assoc]
/-- what is found among the sets below i -/
abbrev zFS (n : Nat) (F : Nat → Bool) (i : Nat) (S : zS) : Prop := S.1 20 2 = nI (cnt F i) ∧ (cnt F i ≠ 0 → S.1 20 3 = nI (fsF F i)) ∧ S.1 20 4 = nI (orF F i) ∧ ∀ p, p < n → S.1 21 p = nI (cnt (fun s => F s && s.testBit p) i)
theorem zFS_cg {n : Nat} {F : Nat → Bool} {i : Nat} {S S' : zS} (h : zFS n F i S) (f2 : S'.1 20 2 = S.1 20 2) (f3 : S'.1 20 3 = S.1 20 3) (f4 : S'.1 20 4 = S.1 20 4) (f : ∀ j, S'.1 21 j = S.1 21 j) : zFS n F i S' :=
  ⟨f2.trans h.1, fun q => f3.trans (h.2.1 q), f4.trans h.2.2.1, fun p k => (f p).trans (h.2.2.2 p k)⟩
theorem zFS_no {n : Nat} {F : Nat → Bool} {i : Nat} {S : zS} (h : zFS n F i S) (e : F i = false) : zFS n F (i + 1) S := by
  have hk : ¬ F i = true := by rw [e]; exact Bool.false_ne_true
  have c1 : cnt F (i + 1) = cnt F i := by show cnt F i + (if F i = true then 1 else 0) = _; rw [if_neg hk]; rfl
  refine ⟨by rw [c1]; exact h.1, fun q => ?_, ?_, fun p k => ?_⟩
  · rw [c1] at q
    have : fsF F (i + 1) = fsF F i := if_neg (fun j => hk j.1)
    rw [this]; exact h.2.1 q
  · have : orF F (i + 1) = orF F i := if_neg hk
    rw [this]; exact h.2.2.1
  · have : cnt (fun s => F s && s.testBit p) (i + 1) = cnt (fun s => F s && s.testBit p) i := by
      show cnt (fun s => F s && s.testBit p) i + (if (F i && i.testBit p) = true then 1 else 0) = _
      rw [e, Bool.false_and, if_neg Bool.false_ne_true]; rfl
    rw [this]; exact h.2.2.2 p k
abbrev zkAd : Nat → Nat → Bool := zk [21] [(20, 2), (20, 3), (20, 4)]
theorem s_addSet (sc : zSc) {n : Nat} {F : Nat → Bool} {i : Nat} {S : zS} (hn1 : S.1 1 1 = nI n) (hn : n ≤ 8) (hi : i < 256) (h : zFS n F i S) (e : F i = true) :
    ∃ S', zcV sc zm_X8_addSet [.ref 20, .int (nI i)] S = some S' ∧ zFS n F (i + 1) S' ∧ zfr zkAd S S' := by
  have hc := cnt_le F i
  have go : ∀ (k p : Nat) (S1 : zS), p + k = n → zfr zkAd S S1 → S1.1 20 2 = nI (cnt F (i + 1)) → (cnt F (i + 1) ≠ 0 → S1.1 20 3 = nI (fsF F (i + 1))) → S1.1 20 4 = nI (orF F (i + 1)) →
      (∀ q, q < p → S1.1 21 q = nI (cnt (fun s => F s && s.testBit q) (i + 1))) → (∀ q, p ≤ q → q < n → S1.1 21 q = nI (cnt (fun s => F s && s.testBit q) i)) →
      ∃ S', zO zgV sc (zg1, (zm_X8_addSet, 2), 41, S1, [some (.ref 20), some (.int (nI i)), some (.int (nI p))], []) = some S' ∧ zFS n F (i + 1) S' ∧ zfr zkAd S S' := by
    intro k
    induction k with
    | zero =>
      intro p S1 hp f a b c d1 d2
      have : p = n := by omega
      subst this
      refine ⟨S1, ?_, ⟨a, b, c, d1⟩, f⟩
      rw [e_X8_addSet_41, f.1 1 1 rfl, hn1, if_pos (by rw [n_le (by omega) (by omega)]; omega)]
    | succ k ih =>
      intro p S1 hp f a b c d1 d2
      rw [e_X8_addSet_41, f.1 1 1 rfl, hn1, if_neg (by rw [n_le (by omega) (by omega)]; omega), if_neg (by first | (rw [n_ob (by omega)]; omega) | (rw [n_obb (by omega)]; omega)), s_holds sc S1 hi (by omega), Option.bind_some]
      dsimp only
      have ob : ¬ (nI p < 0 ∨ 8 ≤ (nI p).toNatClampNeg) := (by first | (rw [n_ob (by omega)]; omega) | (rw [n_obb (by omega)]; omega))
      rw [if_neg ob, if_neg ob, n_cl (by omega), d2 p (Nat.le_refl _) (by omega), n_s1]
      have es : cnt (fun s => F s && s.testBit p) (i + 1) = cnt (fun s => F s && s.testBit p) i + (if (F i && i.testBit p) = true then 1 else 0) := rfl
      rw [e, Bool.true_and] at es
      have nx : ∀ x, x = nI (cnt (fun s => F s && s.testBit p) (i + 1)) → ∃ S', zO zgV sc (zg1, (zm_X8_addSet, 2), 41, zw1 S1 21 p x, [some (.ref 20), some (.int (nI i)), some (.int (nI (p + 1)))], []) = some S' ∧ zFS n F (i + 1) S' ∧ zfr zkAd S S' := by
        intro x hx
        refine ih (p + 1) (zw1 S1 21 p x) (by omega) (zfr_w f 21 p _ rfl) (by rw [zw1_n _ _ (by omega)]; exact a) (fun q => by rw [zw1_n _ _ (by omega)]; exact b q) (by rw [zw1_n _ _ (by omega)]; exact c) (fun q hq => ?_) (fun q h1 h2 => by rw [zw1_n _ _ (by omega)]; exact d2 q (by omega) h2)
        by_cases e : q = p
        · rw [e, zw1_y, hx]
        · rw [zw1_n _ _ (by omega)]; exact d1 q (by omega)
      by_cases t : i.testBit p = true
      · rw [if_pos t] at es
        rw [zb_t t, if_neg (by decide)]
        exact nx _ (by rw [es, n_s1])
      · rw [if_neg t] at es
        rw [zb_f t, if_pos rfl]
        exact nx _ (by rw [es]; exact zn_add _ 0)
  have c1 : cnt F (i + 1) = cnt F i + 1 := by show cnt F i + (if F i = true then 1 else 0) = _; rw [if_pos e]
  have o1 : orF F (i + 1) = orF F i ||| i := if_pos e
  rw [c_X8_addSet, h.1, ifc (n_ne0 (a := cnt F i) (by omega)), n_s1, h.2.2.1, n_or]
  by_cases z : cnt F i = 0
  · rw [if_neg (fun q => q z)]
    have f1 : fsF F (i + 1) = i := if_pos ⟨e, z⟩
    refine go n 0 _ (by omega) (zfr_w (zfr_w (zfr_w0 20 3 _ rfl) 20 2 _ rfl) 20 4 _ rfl) ?_ (fun _ => ?_) ?_ (fun q k => by omega) (fun q _ k => ?_)
    · rw [zw1_n _ _ (by omega), zw1_y, c1]
    · rw [zw1_n _ _ (by omega), zw1_n _ _ (by omega), zw1_y, f1]
    · rw [zw1_y, o1]
    · rw [zw1_n _ _ (by omega), zw1_n _ _ (by omega), zw1_n _ _ (by omega)]; exact h.2.2.2 q k
  · rw [if_pos z]
    have f1 : fsF F (i + 1) = fsF F i := if_neg (fun q => z q.2)
    refine go n 0 _ (by omega) (zfr_w (zfr_w (zfr_w0 20 3 _ rfl) 20 2 _ rfl) 20 4 _ rfl) ?_ (fun _ => ?_) ?_ (fun q k => by omega) (fun q _ k => ?_)
    · rw [zw1_n _ _ (by omega), zw1_y, c1]
    · rw [zw1_n _ _ (by omega), zw1_n _ _ (by omega), zw1_y, f1]; exact h.2.1 z
    · rw [zw1_y, o1]
    · rw [zw1_n _ _ (by omega), zw1_n _ _ (by omega), zw1_n _ _ (by omega)]; exact h.2.2.2 q k
theorem c_findSets_go (sc : zSc) {n : Nat} {P : Nat → Nat → Nat} {cs : List Int32} {gap ver w h told : Nat} (hh : h < 10) (ht : told < 256) (x2 : Int32) : ∀ (k i : Nat) (S : zS), i + k = 2 ^ n → zRY n w P P cs gap ver S → zFS n (fitB n P cs gap w h told) i S →
    ∃ S', zO zgV sc (zg1, (zm_X8_findSets, 7), 29, S, [some (.ref 20), some (.int (nI told)), some (.int x2), some (.int (nI h)), some (.int (nI i))], []) = some S' ∧ zFS n (fitB n P cs gap w h told) (2 ^ n) S' ∧ zCE n P cs gap ver S' ∧ zfr zkC S S'
  | 0, i, S, hi, hC, hF => by
    have hn := hC.1.1.2.1
    have h2 := n_p2le hn
    have : i = 2 ^ n := by omega
    refine ⟨S, ?_, this ▸ hF, hC.1, zfr_refl _ _⟩
    rw [e_X8_findSets_29, s_everybody sc hC.1.1.1 hn, Option.bind_some]
    dsimp only
    rw [if_pos (by rw [n_lt (by omega) (by omega)]; omega)]
  | k + 1, i, S, hi, hC, hF => by
    have hn := hC.1.1.2.1
    have h2 := n_p2le hn
    have p1 := pcn_le i
    rw [e_X8_findSets_29, s_everybody sc hC.1.1.1 hn, Option.bind_some]
    dsimp only
    rw [if_neg (by rw [n_lt (by omega) (by omega)]; omega), s_bitCount sc S (show i < 256 by omega), Option.bind_some]
    dsimp only
    rw [ifc (n_ne (a := pcn i) (b := h) (by omega) (by omega)), n_s1]
    by_cases c : pcn i = h
    · rw [if_neg (fun q => q c)]
      obtain ⟨S1, a1, a2, a3, a4, a5⟩ := c_withOnly sc hC i
      have fs1 : zfr (zk [16] [(12, 11)]) S S1 := by
        obtain ⟨S1', b1, _, _, b4⟩ := s_withOnly sc S i
        have : S1' = S1 := by rw [b1] at a1; exact Option.some.inj a1
        rw [← this]; exact b4
      obtain ⟨S3, d1, d2, d3, d4, d5, d6, d7⟩ := c_make sc a2 (he := i) (lk := 0) (l := 0) (la := fun _ => 0) (o := some i) (by omega) a3 (fun q k => ⟨a4 q k, by omega⟩) (by omega) (fun p _ t => by
        show (i.testBit p && decide (0 ≤ t)) = i.testBit p
        rw [decide_eq_true (Nat.zero_le t), Bool.and_true])
      have d1' : zcV sc zm_X0_make [.ref 12, .int (0 : Int32)] S1 = some S3 := d1
      have hg := (kcm_good (P := P) (cs := cs) (gap := gap) (o := some i) (l := 0) (way := w) (lk := 0) hn).1
      have f3 : zfr zkC S S3 := zfr_tr a5 d6
      have hF3 : zFS n (fitB n P cs gap w h told) i S3 := zFS_cg hF (by rw [d7.1 20 2 rfl, fs1.1 20 2 rfl]) (by rw [d7.1 20 3 rfl, fs1.1 20 3 rfl]) (by rw [d7.1 20 4 rfl, fs1.1 20 4 rfl]) (fun j => by rw [d7.1 21 j rfl, fs1.1 21 j rfl])
      rw [a1, Option.bind_some, d1', Option.bind_some, d2.1, ifc (n_ne (a := kcm n P cs gap (some i) 0 w 0 n 3 0) (b := told) (by omega) (by omega))]
      by_cases d : kcm n P cs gap (some i) 0 w 0 n 3 0 = told
      · obtain ⟨S4, g1, g2, g3⟩ := s_addSet sc d3.1.1.1 hn (show i < 256 by omega) hF3 (fitB_e.mpr ⟨by omega, c, d⟩)
        rw [if_neg (fun q => q d), g1, Option.bind_some]
        obtain ⟨S', k1, k2, k3, k4⟩ := c_findSets_go sc hh ht x2 k (i + 1) S4 (by omega) (zRY_up d3 (zfr_up _ _ (zfr_up [20, 21] [] g3 rfl) rfl)) g2
        exact ⟨S', k1, k2, k3, zfr_tr f3 (zfr_tr (zfr_up _ _ g3 rfl) k4)⟩
      · rw [if_pos d]
        obtain ⟨S', k1, k2, k3, k4⟩ := c_findSets_go sc hh ht x2 k (i + 1) S3 (by omega) d3 (zFS_no hF3 (by
          cases q : fitB n P cs gap w h told i with
          | false => rfl
          | true => exact absurd (fitB_e.mp q).2.2 d))
        exact ⟨S', k1, k2, k3, zfr_tr f3 k4⟩
    · rw [if_pos c]
      exact c_findSets_go sc hh ht x2 k (i + 1) S (by omega) hC (zFS_no hF (by
        cases q : fitB n P cs gap w h told i with
        | false => rfl
        | true => exact absurd (fitB_e.mp q).2.1 c))
theorem c_findSets (sc : zSc) {n : Nat} {P : Nat → Nat → Nat} {cs : List Int32} {gap ver w h told : Nat} {S : zS} (hC : zCE n P cs gap ver S) (hw : w < 3) (hh : h < 10) (ht : told < 256) :
    ∃ S', zcV sc zm_X8_findSets [.ref 20, .int (nI told), .int (nI w), .int (nI h)] S = some S' ∧ zFS n (fitB n P cs gap w h told) (2 ^ n) S' ∧ zCE n P cs gap ver S' ∧ zfr zkC S S' := by
  have hn := hC.1.2.1
  obtain ⟨S1, a1, a2, a3⟩ := s_fill21 sc (zw1 (zw1 S 20 2 0) 20 4 0) 0
  have f1 : zfr (zk [20, 21] []) S S1 := zfr_tr (zfr_w (zfr_w0 20 2 _ rfl) 20 4 _ rfl) (zfr_up _ _ a3 rfl)
  have hC1 : zCE n P cs gap ver S1 := zCE_cg hC (zfr_up _ _ f1 rfl)
  obtain ⟨S2, b1, b2, b3⟩ := c_load sc hC1 hw
  have fl : zfr (zk [8, 10, 11, 13, 14, 15] [(6, 7), (12, 9)]) S1 S2 := by
    obtain ⟨S2', c1, _, _, _, c5⟩ := s_load sc hC1.1 hC1.2.1 hC1.2.2.1 hC1.2.2.2.1 hC1.2.2.2.2.1 hw
    have : S2' = S2 := by rw [c1] at b1; exact Option.some.inj b1
    rw [← this]; exact c5
  obtain ⟨S', k1, k2, k3, k4⟩ := c_findSets_go sc (w := w) hh ht (nI w) (2 ^ n) 0 S2 (by omega) b2 ⟨by rw [fl.1 20 2 rfl, a3.1 20 2 rfl, zw1_n _ _ (by omega), zw1_y]; rfl, fun q => absurd rfl q, by rw [fl.1 20 4 rfl, a3.1 20 4 rfl, zw1_y]; rfl, fun p hp => by rw [fl.1 21 p rfl]; exact a2 p (by omega)⟩
  refine ⟨S', ?_, k2, k3, zfr_tr (zfr_up _ _ f1 rfl) (zfr_tr b3 k4)⟩
  rw [c_X8_findSets, a1, Option.bind_some, b1, Option.bind_some]
  exact k1
set_option maxRecDepth 20000 in
theorem n_shr : ∀ s : Nat, s < 256 → ∀ n : Nat, n < 9 → (decide ((nI s >>> (nI n &&& 31)) ≠ (0 : Int32)) = decide (2 ^ n ≤ s)) := by decide +kernel
theorem n_shr' {s n : Nat} (hs : s < 256) (hn : n < 9) : ((nI s >>> (nI n &&& 31)) ≠ (0 : Int32)) = (2 ^ n ≤ s) := by
  have := n_shr s hs n hn
  exact propext (decide_eq_decide.mp this)
abbrev zkFt : Nat → Nat → Bool := zk [59, 60, 61, 62, 63] ([(51, 12), (51, 13), (51, 14), (51, 15), (51, 16), (51, 21), (51, 22), (51, 23), (51, 24), (51, 25)] ++ [(51, 18)])
theorem m_fits_go (sc : zSc) {n : Nat} {P : Nat → Nat → Nat} {cs : List Int32} {gap w h told : Nat} (hr : zPR n P) (hw : w < 3) (hh : h < 10) (ht : told < 256) (x2 : Int32) (e1 : x2 / 10 = nI w) (e2 : x2 - x2 / 10 * 10 = nI h) {S0 : zS} (hM : zME n P cs gap none S0) :
    ∀ (k i : Nat) (S : zS), i + k = 256 → zfr zkFt S0 S → S.1 51 18 = -1 → (∀ s, s < i → S.1 62 s = zb (fitB n P cs gap w h told s = true)) →
    ∃ S', zO zgI sc (zg1, (zm_X11_fits, 66), 5, S, [some (.ref 51), some (.int (nI told)), some (.int x2), some (.int (nI (cnt (fitB n P cs gap w h told) i))), some (.int (nI i))], []) = some (nI (cnt (fitB n P cs gap w h told) 256), S') ∧ zfr zkMq S0 S' ∧ ∀ s, s < 256 → S'.1 62 s = zb (fitB n P cs gap w h told s = true)
  | 0, i, S, hi, f, h18, hF => by
    have : i = 256 := by omega
    subst this
    have hm1 : S0.1 51 18 = -1 := by
      rcases hM.2.2.2 with ⟨_, b⟩ | ⟨m, a, _⟩
      · exact b
      · exact absurd a (by simp)
    refine ⟨S, ?_, zfr_fix f (by rw [h18, hm1]), hF⟩
    rw [e_X11_fits_5, if_pos (by decide)]
  | k + 1, i, S, hi, f, h18, hF => by
    have hn := hM.1.2.1
    have h2 := n_p2le hn
    have p1 := pcn_le i
    have cl := cnt_le (fitB n P cs gap w h told) i
    have n0 : vp_nar .boolean (0 : Int32) = 0 := by decide
    have n1 : vp_nar .boolean (1 : Int32) = 1 := by decide
    have ob2 : ¬ (nI i < 0 ∨ 256 ≤ i) := (by first | (rw [n_ob (by omega)]; omega) | (rw [n_obb (by omega)]; omega))
    have ob : ¬ (nI i < 0 ∨ 256 ≤ (nI i).toNatClampNeg) := (by first | (rw [n_ob (by omega)]; omega) | (rw [n_obb (by omega)]; omega))
    have z0 : nI (cnt (fitB n P cs gap w h told) i) + (0 : Int32) = nI (cnt (fitB n P cs gap w h told) i) := zn_add _ 0
    have h6 : S.1 51 6 = nI n := (f.1 51 6 rfl).trans hM.1.1
    have es : cnt (fitB n P cs gap w h told) (i + 1) = cnt (fitB n P cs gap w h told) i + (if fitB n P cs gap w h told i = true then 1 else 0) := rfl
    -- the set i does not fit
    have no : ∀ S1 : zS, fitB n P cs gap w h told i = false → zfr zkFt S0 S1 → S1.1 51 18 = -1 → (∀ s, s < i → S1.1 62 s = S.1 62 s) → S1.1 62 i = 0 →
        ∃ S', zO zgI sc (zg1, (zm_X11_fits, 66), 5, S1, [some (.ref 51), some (.int (nI told)), some (.int x2), some (.int (nI (cnt (fitB n P cs gap w h told) i))), some (.int (nI (i + 1)))], []) = some (nI (cnt (fitB n P cs gap w h told) 256), S') ∧ zfr zkMq S0 S' ∧ ∀ s, s < 256 → S'.1 62 s = zb (fitB n P cs gap w h told s = true) := by
      intro S1 e g1 g2 g3 g4
      have es' : cnt (fitB n P cs gap w h told) (i + 1) = cnt (fitB n P cs gap w h told) i := by rw [es, e]; rfl
      rw [← es']
      refine m_fits_go sc hr hw hh ht x2 e1 e2 hM k (i + 1) S1 (by omega) g1 g2 (fun s hs => ?_)
      by_cases q : s = i
      · rw [q, g4, zb_f (by rw [e]; exact Bool.false_ne_true)]
      · rw [g3 s (by omega)]; exact hF s (by omega)
    rw [e_X11_fits_5, if_neg (by rw [show (256 : Int32) = nI 256 from rfl, n_le (by omega) (by omega)]; omega), if_neg ob, n_cl (by omega), n0, n1, h6, ifc (n_shr' (s := i) (n := n) (by omega) (by omega)), n_s1, n_s1, z0]
    by_cases c0 : 2 ^ n ≤ i
    · rw [if_pos c0]
      exact no _ (by
        cases q : fitB n P cs gap w h told i with
        | false => rfl
        | true => exact absurd (fitB_e.mp q).1 (by omega)) (zfr_w f 62 i _ rfl) (by rw [zw1_n _ _ (by omega)]; exact h18) (fun s hs => zw1_n _ _ (by omega)) (zw1_y _ _ _ _)
    · rw [if_neg c0, m_bitsOf sc _ (show i < 256 by omega), Option.bind_some]
      dsimp only
      rw [e2, ifc (n_ne (a := pcn i) (b := h) (by omega) (by omega))]
      by_cases c1 : pcn i = h
      · rw [if_neg (fun q => q c1), e1]
        have f2 : zfr zkFt S0 (zw1 (zw1 S 62 i 0) 51 18 (nI i)) := zfr_w (zfr_w f 62 i _ rfl) 51 18 _ rfl
        have hM2 : zME n P cs gap (some i) (zw1 (zw1 S 62 i 0) 51 18 (nI i)) :=
          ⟨zPM_cg hM.1 (f2.1 51 6 rfl) (fun j => f2.1 52 j rfl), (f2.1 52 64 rfl).trans hM.2.1, zTX_cg hM.2.2.1 (f2.1 51 11 rfl) (fun j => f2.1 58 j rfl), Or.inr ⟨i, rfl, by omega, zw1_y _ _ _ _⟩⟩
        obtain ⟨S3, a1, a2, a3, a4⟩ := m_run sc hM2 hr (l := 0) (by omega) hw (lk := 0) (by omega)
        have a1' : zcV sc zm_X11_calls [.ref 51, .int (0 : Int32), .int (nI w), .int (0 : Int32)] (zw1 (zw1 S 62 i 0) 51 18 (nI i)) = some S3 := a1
        have hg := (kcm_good (P := P) (cs := cs) (gap := gap) (o := some i) (l := 0) (way := w) (lk := 0) hn).1
        have f3 : zfr zkFt S0 S3 := zfr_tr f2 (zfr_up _ _ a3 rfl)
        rw [a1', Option.bind_some, a2.2.1, ifc (n_ne (a := kcm n P cs gap (some i) 0 w 0 n 3 0) (b := told) (by omega) (by omega))]
        by_cases d : kcm n P cs gap (some i) 0 w 0 n 3 0 = told
        · have hf : fitB n P cs gap w h told i = true := fitB_e.mpr ⟨by omega, c1, d⟩
          rw [hf, if_pos rfl] at es
          rw [if_neg (fun q => q d), if_neg ob2, if_neg ob2, zw1_y, if_neg (show ¬ ((1 : Int32) = 0) by decide), ← es]
          refine m_fits_go sc hr hw hh ht x2 e1 e2 hM k (i + 1) _ (by omega) (zfr_w (zfr_w f3 51 18 _ rfl) 62 i _ rfl) (by rw [zw1_n _ _ (by omega), zw1_y]) (fun s hs => ?_)
          by_cases q : s = i
          · rw [q, zw1_y, zb_t hf]
          · rw [zw1_n _ _ (by omega), zw1_n _ _ (by omega), a3.1 62 s rfl, zw1_n _ _ (by omega), zw1_n _ _ (by omega)]; exact hF s (by omega)
        · rw [if_pos d, if_neg ob2, if_neg ob2, zw1_y, if_pos rfl]
          exact no _ (by
            cases q : fitB n P cs gap w h told i with
            | false => rfl
            | true => exact absurd (fitB_e.mp q).2.2 d) (zfr_w (zfr_w f3 51 18 _ rfl) 62 i _ rfl) (by rw [zw1_n _ _ (by omega), zw1_y]) (fun s hs => by rw [zw1_n _ _ (by omega), zw1_n _ _ (by omega), a3.1 62 s rfl, zw1_n _ _ (by omega), zw1_n _ _ (by omega)]) (zw1_y _ _ _ _)
      · rw [if_pos c1]
        exact no _ (by
          cases q : fitB n P cs gap w h told i with
          | false => rfl
          | true => exact absurd (fitB_e.mp q).2.1 c1) (zfr_w f 62 i _ rfl) (by rw [zw1_n _ _ (by omega)]; exact h18) (fun s hs => zw1_n _ _ (by omega)) (zw1_y _ _ _ _)
theorem m_fits (sc : zSc) {n : Nat} {P : Nat → Nat → Nat} {cs : List Int32} {gap w h told : Nat} (hr : zPR n P) (hw : w < 3) (hh : h < 10) (ht : told < 256) (x2 : Int32) (e1 : x2 / 10 = nI w) (e2 : x2 - x2 / 10 * 10 = nI h) {S0 : zS} (hM : zME n P cs gap none S0) :
    ∃ S', zcI sc zm_X11_fits [.ref 51, .int (nI told), .int x2] S0 = some (nI (cnt (fitB n P cs gap w h told) (2 ^ n)), S') ∧ zfr zkMq S0 S' ∧ ∀ s, s < 256 → S'.1 62 s = zb (fitB n P cs gap w h told s = true) := by
  have hn := hM.1.2.1
  have h2 := n_p2le hn
  have hm1 : S0.1 51 18 = -1 := by
    rcases hM.2.2.2 with ⟨_, b⟩ | ⟨m, a, _⟩
    · exact b
    · exact absurd a (by simp)
  obtain ⟨S', a1, a2, a3⟩ := m_fits_go sc hr hw hh ht x2 e1 e2 hM 256 0 S0 (by omega) (zfr_refl _ _) hm1 (fun s hs => by omega)
  have ex := (cnt_ext (F := fitB n P cs gap w h told) (a := 2 ^ n) (256 - 2 ^ n) (fun s k1 k2 => by
    cases q : fitB n P cs gap w h told s with
    | false => rfl
    | true => exact absurd (fitB_e.mp q).1 (by omega))).1
  rw [show 2 ^ n + (256 - 2 ^ n) = 256 by omega] at ex
  rw [ex] at a1
  exact ⟨S', (c_X11_fits sc S0 (nI told) x2).trans a1, a2, a3⟩
theorem m_isWm (sc : zSc) (S : zS) (a : Int32) : zcI sc zm_X11_isWm [.int a] S = some (zb (rg a 29), S) := by
  rw [c_X11_isWm]
  by_cases h : a < 0
  · rw [if_pos h, zb_f]
    rw [zi_lt, show (0 : Int32).toInt = 0 from rfl] at h
    unfold rg; omega
  · have h0 : 0 ≤ a.toInt := by rw [zi_lt, show (0 : Int32).toInt = 0 from rfl] at h; omega
    obtain ⟨e1, e2⟩ := zi_div10 h0
    rw [if_neg h, m_isWay, Option.bind_some]
    dsimp only
    by_cases g : 0 ≤ (a / 10).toInt ∧ (a / 10).toInt ≤ 2
    · rw [zb_t g, if_neg (by decide), zb_t]
      unfold rg; omega
    · rw [zb_f g, if_pos rfl, zb_f]
      unfold rg; omega
theorem wm_n {a : Int32} (h : rg a 29) : ∃ t : Nat, a = nI t ∧ t / 10 < 3 ∧ t % 10 < 10 ∧ a / 10 = nI (t / 10) ∧ a - a / 10 * 10 = nI (t % 10) := by
  obtain ⟨t, e, h2⟩ := rg_n h
  exact ⟨t, e, by omega, by omega, by rw [e]; exact n_div (by omega), by rw [e]; exact n_mod (by omega)⟩
theorem m_absent_go (sc : zSc) {n : Nat} {F : Nat → Bool} {S : zS} (h6 : S.1 51 6 = nI n) (hn : n ≤ 8) (hF : ∀ s, s < 256 → S.1 62 s = zb (F s = true)) (x1 x2 x3 x4 : Int32) : ∀ (k i : Nat), i + k = 256 →
    zO zgI sc (zg1, (zm_X11_absent, 67), 60, S, [some (.ref 51), some (.int x1), some (.int x2), some (.int x3), some (.int x4), some (.int (if cnt F i = 0 then -1 else nI (fsF F i))), some (.int (nI (orF F i))), some (.int (nI i))], [])
    = some (if x3 ≠ 1 then nI (2 ^ n - 1) &&& (nI (orF F 256) ^^^ (-1 : Int32)) else (if cnt F 256 = 0 then -1 else nI (fsF F 256)), S)
  | 0, i, hi => by
    have : i = 256 := by omega
    subst this
    have h2 := n_p2le hn
    rw [e_X11_absent_60, if_pos (by decide), h6, n_sh9 n (by omega), n_p1 (by omega), sif]
  | k + 1, i, hi => by
    have ob : ¬ (nI i < 0 ∨ 256 ≤ (nI i).toNatClampNeg) := (by first | (rw [n_ob (by omega)]; omega) | (rw [n_obb (by omega)]; omega))
    have IH := m_absent_go sc h6 hn hF x1 x2 x3 x4 k (i + 1) (by omega)
    have hl := fsF_lt (F := F) i
    have e1 : cnt F (i + 1) = cnt F i + (if F i = true then 1 else 0) := rfl
    have e2 : orF F (i + 1) = if F i = true then orF F i ||| i else orF F i := rfl
    have e3 : fsF F (i + 1) = if F i = true ∧ cnt F i = 0 then i else fsF F i := rfl
    rw [e_X11_absent_60, if_neg (by rw [show (256 : Int32) = nI 256 from rfl, n_le (by omega) (by omega)]; omega), if_neg ob, n_cl (by omega), hF i (by omega), n_s1, n_or]
    by_cases c : F i = true
    · rw [if_pos c] at e1 e2
      rw [zb_t c, if_neg (by decide)]
      rw [e2, if_neg (show ¬ cnt F (i + 1) = 0 by omega)] at IH
      by_cases z : cnt F i = 0
      · rw [if_pos ⟨c, z⟩] at e3
        rw [e3] at IH
        have nz : ¬ ((0 : Int32) ≤ (if cnt F i = 0 then -1 else nI (fsF F i))) := by rw [if_pos z]; decide
        rw [if_neg nz]
        exact IH
      · rw [if_neg (fun q => z q.2)] at e3
        rw [e3] at IH
        have nz : (0 : Int32) ≤ (if cnt F i = 0 then -1 else nI (fsF F i)) := by rw [if_neg z, n_0le (by omega)]; trivial
        rw [if_pos nz, if_neg z]
        exact IH
    · rw [if_neg c] at e1 e2
      rw [if_neg (fun q => c q.1)] at e3
      rw [zb_f c, if_pos rfl]
      rw [e2, e1, e3, Nat.add_zero] at IH
      exact IH
theorem fit_ext {n : Nat} (hn : n ≤ 8) {P : Nat → Nat → Nat} {cs : List Int32} {gap w h told : Nat} : cnt (fitB n P cs gap w h told) 256 = cnt (fitB n P cs gap w h told) (2 ^ n) ∧ orF (fitB n P cs gap w h told) 256 = orF (fitB n P cs gap w h told) (2 ^ n) ∧ fsF (fitB n P cs gap w h told) 256 = fsF (fitB n P cs gap w h told) (2 ^ n) := by
  have h2 := n_p2le hn
  have ex := cnt_ext (F := fitB n P cs gap w h told) (a := 2 ^ n) (256 - 2 ^ n) (fun s k1 k2 => by
    cases q : fitB n P cs gap w h told s with
    | false => rfl
    | true => exact absurd (fitB_e.mp q).1 (by omega))
  rw [show 2 ^ n + (256 - 2 ^ n) = 256 by omega] at ex
  exact ex
theorem q_absent (sc : zSc) {n : Nat} {P : Nat → Nat → Nat} {cs : List Int32} {gap ver : Nat} {S : zS} (hC : zCE n P cs gap ver S) (hM : zME n P cs gap none S) (a1 a2 a3 : Int32) :
    zQ n P cs gap ver (zcI sc zm_X10_absent [.ref 0, .int a1, .int a2, .int a3] S) (fun S => zcI sc zm_X11_absent [.ref 51, .int a1, .int a2, .int a3] S) S := by
  have hn := hC.1.2.1
  have hr := hC.2.1
  by_cases h1 : rg a1 255
  case neg =>
    refine ⟨-1, S, S, ?_, ?_, hC, zfr_refl _ _, zfr_refl _ _⟩
    · rw [c_X10_absent]; rw [s_isBits, Option.bind_some]; (try dsimp only); rw [zb_f h1]; exact if_pos rfl
    · show zcI sc zm_X11_absent [.ref 51, .int a1, .int a2, .int a3] S = _
      rw [c_X11_absent]; rw [m_isSet', Option.bind_some]; (try dsimp only); rw [zb_f h1]; exact if_pos rfl
  by_cases h2 : rg a2 29
  case neg =>
    refine ⟨-1, S, S, ?_, ?_, hC, zfr_refl _ _, zfr_refl _ _⟩
    · rw [c_X10_absent]; rw [s_isBits, Option.bind_some]; (try dsimp only); rw [zb_t h1]; rw [if_neg (show ¬ ((1 : Int32) = 0) by decide)]; rw [s_w29, Option.bind_some]; (try dsimp only); rw [zb_f h2]; exact if_pos rfl
    · show zcI sc zm_X11_absent [.ref 51, .int a1, .int a2, .int a3] S = _
      rw [c_X11_absent]; rw [m_isSet', Option.bind_some]; (try dsimp only); rw [zb_t h1]; rw [if_neg (show ¬ ((1 : Int32) = 0) by decide)]; rw [m_isWm, Option.bind_some]; (try dsimp only); rw [zb_f h2]; exact if_pos rfl
  by_cases h3 : rg a3 2
  case neg =>
    refine ⟨-1, S, S, ?_, ?_, hC, zfr_refl _ _, zfr_refl _ _⟩
    · rw [c_X10_absent]; rw [s_isBits, Option.bind_some]; (try dsimp only); rw [zb_t h1]; rw [if_neg (show ¬ ((1 : Int32) = 0) by decide)]; rw [s_w29, Option.bind_some]; (try dsimp only); rw [zb_t h2]; rw [if_neg (show ¬ ((1 : Int32) = 0) by decide)]; rw [s_w2, Option.bind_some]; (try dsimp only); rw [zb_f h3]; exact if_neg (fun q => q rfl)
    · show zcI sc zm_X11_absent [.ref 51, .int a1, .int a2, .int a3] S = _
      rw [c_X11_absent]; rw [m_isSet', Option.bind_some]; (try dsimp only); rw [zb_t h1]; rw [if_neg (show ¬ ((1 : Int32) = 0) by decide)]; rw [m_isWm, Option.bind_some]; (try dsimp only); rw [zb_t h2]; rw [if_neg (show ¬ ((1 : Int32) = 0) by decide)]; rw [m_w2, Option.bind_some]; (try dsimp only); rw [zb_f h3]; exact if_neg (fun q => q rfl)
  obtain ⟨told, rfl, htl⟩ := rg_n h1
  obtain ⟨t, rfl, ht1, ht2, e1, e2⟩ := wm_n h2
  obtain ⟨S1, b1, b2, b3, b4⟩ := c_findSets sc hC ht1 ht2 (show told < 256 by omega)
  have hM1 := zME_C hM b4
  obtain ⟨S2, d1, d2, d3⟩ := m_fits sc hr ht1 ht2 (show told < 256 by omega) (nI t) e1 e2 hM1
  have hcl := cnt_le (fitB n P cs gap (t / 10) (t % 10) told) (2 ^ n)
  have h2n := n_p2le hn
  have fx := fit_ext hn (P := P) (cs := cs) (gap := gap) (w := t / 10) (h := t % 10) (told := told)
  refine ⟨if a3 ≠ 0 then (if cnt (fitB n P cs gap (t / 10) (t % 10) told) (2 ^ n) ≠ 0 then (if a3 ≠ 1 then nI (2 ^ n - 1) &&& (nI (orF (fitB n P cs gap (t / 10) (t % 10) told) (2 ^ n)) ^^^ (-1 : Int32)) else nI (fsF (fitB n P cs gap (t / 10) (t % 10) told) (2 ^ n))) else -2) else nI (cnt (fitB n P cs gap (t / 10) (t % 10) told) (2 ^ n)), S1, S2, ?_, ?_, b3, b4, d2⟩
  · rw [c_X10_absent]; rw [s_isBits, Option.bind_some]; (try dsimp only); rw [zb_t h1]; rw [if_neg (show ¬ ((1 : Int32) = 0) by decide)]; rw [s_w29, Option.bind_some]; (try dsimp only); rw [zb_t h2]; rw [if_neg (show ¬ ((1 : Int32) = 0) by decide)]; rw [s_w2, Option.bind_some]; (try dsimp only); rw [zb_t h3]; rw [if_pos (show (1 : Int32) ≠ 0 by decide)]
    rw [e2, e1, b1, Option.bind_some, b2.1, ifc (n_ne0 (a := cnt (fitB n P cs gap (t / 10) (t % 10) told) (2 ^ n)) (by omega)), c_X8_inNoSet, s_everybody sc b3.1.1 hn, Option.bind_some, Option.bind_some, b2.2.2.1]
    by_cases c : cnt (fitB n P cs gap (t / 10) (t % 10) told) (2 ^ n) = 0
    · rw [if_neg (c := cnt (fitB n P cs gap (t / 10) (t % 10) told) (2 ^ n) ≠ 0) (fun q => q c), if_neg (c := cnt (fitB n P cs gap (t / 10) (t % 10) told) (2 ^ n) ≠ 0) (fun q => q c), sif]
    · rw [if_pos (c := cnt (fitB n P cs gap (t / 10) (t % 10) told) (2 ^ n) ≠ 0) c, if_pos (c := cnt (fitB n P cs gap (t / 10) (t % 10) told) (2 ^ n) ≠ 0) c, b2.2.1 c, sif, sif]
  · (try dsimp only); rw [c_X11_absent]; rw [m_isSet', Option.bind_some]; (try dsimp only); rw [zb_t h1]; rw [if_neg (show ¬ ((1 : Int32) = 0) by decide)]; rw [m_isWm, Option.bind_some]; (try dsimp only); rw [zb_t h2]; rw [if_neg (show ¬ ((1 : Int32) = 0) by decide)]; rw [m_w2, Option.bind_some]; (try dsimp only); rw [zb_t h3]; rw [if_pos (show (1 : Int32) ≠ 0 by decide)]
    rw [d1, Option.bind_some]
    dsimp only
    rw [ifc (n_ne0 (a := cnt (fitB n P cs gap (t / 10) (t % 10) told) (2 ^ n)) (by omega))]
    have gm := m_absent_go sc ((d2.1 51 6 rfl).trans hM1.1.1) hn d3 (nI told) (nI t) a3 (nI (cnt (fitB n P cs gap (t / 10) (t % 10) told) (2 ^ n))) 256 0 (by omega)
    have gm' : zO zgI sc (zg1, (zm_X11_absent, 67), 60, S2, [some (.ref 51), some (.int (nI told)), some (.int (nI t)), some (.int a3), some (.int (nI (cnt (fitB n P cs gap (t / 10) (t % 10) told) (2 ^ n)))), some (.int (-1 : Int32)), some (.int (0 : Int32)), some (.int (0 : Int32))], []) = some (if a3 ≠ 1 then nI (2 ^ n - 1) &&& (nI (orF (fitB n P cs gap (t / 10) (t % 10) told) 256) ^^^ (-1 : Int32)) else (if cnt (fitB n P cs gap (t / 10) (t % 10) told) 256 = 0 then -1 else nI (fsF (fitB n P cs gap (t / 10) (t % 10) told) 256)), S2) := gm
    rw [gm', fx.1, fx.2.1, fx.2.2]
    by_cases c : cnt (fitB n P cs gap (t / 10) (t % 10) told) (2 ^ n) = 0
    · rw [if_neg (c := cnt (fitB n P cs gap (t / 10) (t % 10) told) (2 ^ n) ≠ 0) (fun q => q c), if_neg (c := cnt (fitB n P cs gap (t / 10) (t % 10) told) (2 ^ n) ≠ 0) (fun q => q c), sif]
    · rw [if_pos (c := cnt (fitB n P cs gap (t / 10) (t % 10) told) (2 ^ n) ≠ 0) c, if_pos (c := cnt (fitB n P cs gap (t / 10) (t % 10) told) (2 ^ n) ≠ 0) c, if_neg c, sif]
