def lowV (s : Nat) (x : Int64) : Int64 := if s = 0 then x.toInt32.toInt8.toInt32.toInt64 else if s = 1 then x.toInt32.toInt16.toInt32.toInt64 else if s = 2 then x.toInt32.toInt64 else if s = 3 then x else if lg_cmp x (Int64.ofNat 0) = 0 then Int64.ofNat 0 else Int64.ofNat 1
theorem lowV_rg {s : Nat} (h : s < 2) (x : Int64) : -32768 ≤ (lowV s x).toInt ∧ (lowV s x).toInt ≤ 32767 := by
  rcases (by omega : s = 0 ∨ s = 1) with rfl | rfl
  · rw [show lowV 0 x = x.toInt32.toInt8.toInt32.toInt64 from rfl, l32, Int8.toInt_toInt32]
    have h1 := Int8.le_toInt x.toInt32.toInt8
    have h2 := Int8.toInt_lt x.toInt32.toInt8
    have h1' : -128 ≤ x.toInt32.toInt8.toInt := by simpa using h1
    have h2' : x.toInt32.toInt8.toInt < 128 := by simpa using h2
    omega
  · rw [show lowV 1 x = x.toInt32.toInt16.toInt32.toInt64 from rfl, l32, Int16.toInt_toInt32]
    have h1 := Int16.le_toInt x.toInt32.toInt16
    have h2 := Int16.toInt_lt x.toInt32.toInt16
    have h1' : -32768 ≤ x.toInt32.toInt16.toInt := by simpa using h1
    have h2' : x.toInt32.toInt16.toInt < 32768 := by simpa using h2
    omega
theorem g_low (sc : zSc) {S : zS} {d s m : Nat} (hd : d < 6) (hs : s < 5) (h : shW d s m S) (x : Int64) : zcL sc zm_X6_lowestBits [.ref (39 + 2 * d), .long x] S = some (lowV s x, S) := by
  rw [g_lowestBits sc S x hd, h.1]
  rcases (by omega : s = 0 ∨ s = 1 ∨ s = 2 ∨ s = 3 ∨ s = 4) with rfl | rfl | rfl | rfl | rfl
  · rw [if_pos (by decide)]; rfl
  · rw [if_neg (by decide), if_pos (by decide)]; rfl
  · rw [if_neg (by decide), if_neg (by decide), if_pos (by decide)]; rfl
  · rw [if_neg (by decide), if_neg (by decide), if_neg (by decide), if_pos (by decide)]; rfl
  · rw [if_neg (by decide), if_neg (by decide), if_neg (by decide), if_neg (by decide), if_pos (by decide)]
    show _ = some (if lg_cmp x (Int64.ofNat 0) = 0 then Int64.ofNat 0 else Int64.ofNat 1, S)
    by_cases q : lg_cmp x (Int64.ofNat 0) = 0
    · rw [if_pos q, if_pos q]
    · rw [if_neg q, if_neg q]
theorem m_asSort (sc : zSc) (S : zS) {s : Nat} (hs : s < 5) (x : Int64) : zcL sc zm_X11_asSort [.int (nI s), .long x] S = some (lowV s x, S) := by
  rw [c_X11_asSort]
  rcases (by omega : s = 0 ∨ s = 1 ∨ s = 2 ∨ s = 3 ∨ s = 4) with rfl | rfl | rfl | rfl | rfl
  · rw [if_neg (by decide)]; rfl
  · rw [if_pos (by decide), if_neg (by decide)]; rfl
  · rw [if_pos (by decide), if_pos (by decide), if_neg (by decide)]; rfl
  · rw [if_pos (by decide), if_pos (by decide), if_pos (by decide), if_pos (by decide)]; rfl
  · rw [if_pos (by decide), if_pos (by decide), if_pos (by decide), if_neg (by decide)]
    show _ = some (if lg_cmp x (Int64.ofNat 0) = 0 then Int64.ofNat 0 else Int64.ofNat 1, S)
    by_cases q : lg_cmp x (Int64.ofNat 0) = 0
    · rw [if_pos q, if_pos q]
    · rw [if_neg q, if_neg q]
theorem zSh_long {C E d vs : Nat} {S S' : zS} (h : zSh C E d vs S) (f1 : ∀ i, S'.1 C i = S.1 C i) (f2 : S'.1 71 d = S.1 71 d) (f3 : S'.1 70 d = S.1 70 d) (g : ∀ i, i < 60 → S'.2 72 (60 * d + i) = S'.2 E i) (k : ∀ s, s < 2 → S.1 C 1 = nI s → ∀ i, i < 60 → -32768 ≤ (S'.2 E i).toInt ∧ (S'.2 E i).toInt ≤ 32767) : zSh C E d vs S' := by
  unfold zSh
  rw [f1, f1, f1, f2, f3]
  refine ⟨h.1, g, ?_⟩
  rcases h.2.2 with e | e | ⟨s, m, e1, e2, e3, e4, e5, e6, e7⟩
  · exact Or.inl e
  · exact Or.inr (Or.inl e)
  · exact Or.inr (Or.inr ⟨s, m, e1, e2, e3, e4, e5, e6, fun q => k s q e3⟩)
/-- the range of what a shelf of bytes or shorts holds -/
theorem zSh_rg {C E d vs : Nat} {S : zS} (h : zSh C E d vs S) {s : Nat} (hs : s < 2) (e : S.1 C 1 = nI s) : ∀ i, i < 60 → -32768 ≤ (S.2 E i).toInt ∧ (S.2 E i).toInt ≤ 32767 := by
  rcases h.2.2 with q | ⟨_, _, q⟩ | ⟨s', m, e1, e2, e3, e4, e5, e6, e7⟩
  · rw [q.1] at e; exact absurd e.symm (nI_m1 (by omega))
  · rw [q.1] at e; exact absurd e.symm (nI_m1 (by omega))
  · rw [e3, n_eq (by omega) (by omega)] at e
    exact e7 (by omega)
theorem o_put (sc : zSc) {t : Nat} {S : zS} (h : zInv t S) (a1 a2 : Int32) (a3 : Int64) : zOp t (zcI sc zm_X10_put [.ref 0, .int a1, .int a2, .long a3] S) (fun S => zcI sc zm_X11_put [.ref 51, .int a1, .int a2, .long a3] S) := by
  have h0 := h
  obtain ⟨n, P, cs, gap, cn, ver, vs, ht, h1, h2, h3, h4, h5, h6⟩ := h
  have m1 : ¬ ((0 : Int32) ≠ 0) := fun q => q rfl
  by_cases c : rg a1 5
  case neg =>
    refine zInv_self h0 (v := -1) ?_ ?_
    · rw [c_X10_put, s_isShelf, Option.bind_some]
      dsimp only
      rw [zb_f c, if_neg m1]
    · show zcI sc zm_X11_put [.ref 51, .int a1, .int a2, .long a3] S = _
      have : zcI sc zm_X11_refusal [.ref 51, .int a1, .int a2] S = some (-1, S) := by
        rw [c_X11_refusal, m_isShelf', Option.bind_some]
        dsimp only
        rw [zb_f c]; exact if_neg (fun q => q rfl)
      rw [c_X11_put, this, Option.bind_some]
      dsimp only
      rw [if_pos (by decide), if_pos (by decide)]
  obtain ⟨d, rfl, hd'⟩ := rg_n c
  have hd : d < 6 := by omega
  have hS := zSHs_d h6 hd
  obtain ⟨r, r1, r2, r3⟩ := g_ref sc hd hS h5.1 a2
  have hC : zcI sc zm_X10_put [.ref 0, .int (nI d), .int a2, .long a3] S = (if r = 0 then ((zcV sc zm_X6_set [.ref (39 + 2 * d), .int a2, .long a3] S).bind (fun q3 => some ((1 : Int32), q3))) else some (r, S)) := by
    rw [g_put sc S a2 a3 hd, s_isShelf, Option.bind_some]
    dsimp only
    rw [zb_t c, if_pos (by decide), r1, Option.bind_some]
  by_cases e : r = 0
  case neg =>
    refine zInv_self h0 (v := r) ?_ ?_
    · rw [hC, if_neg e]
    · show zcI sc zm_X11_put [.ref 51, .int (nI d), .int a2, .long a3] S = _
      rw [c_X11_put, r2 S rfl rfl, Option.bind_some]
      dsimp only
      rw [if_pos e, if_pos e]
  obtain ⟨i, s, m, rfl, hi, hm, hs, ew⟩ := r3 e
  have e60 : ((60 : Int32) * nI d) + nI i = nI (60 * d + i) := by rw [show (60 : Int32) * nI d = nI (60 * d) from zn_mul 60 d, zn_add]
  obtain ⟨T, hT⟩ : ∃ T, T = zw2 S (40 + 2 * d) i (lowV s a3) := ⟨_, rfl⟩
  obtain ⟨U, hU⟩ : ∃ U, U = zw2 T 72 (60 * d + i) (lowV s a3) := ⟨_, rfl⟩
  have fT : T.1 = S.1 := by rw [hT]; rfl
  have fU : U.1 = S.1 := by rw [hU]; exact fT
  have u2 : ∀ e j, U.2 e j = if e = 72 ∧ j = 60 * d + i then lowV s a3 else if e = 40 + 2 * d ∧ j = i then lowV s a3 else S.2 e j := fun e j => by rw [hU, zw2_r, hT, zw2_r]
  refine ⟨1, T, U, ?_, ?_, zInv_sh ht h1 h2 h3 h4 h5 (fun c i _ => by rw [fU]) (fun d2 hd2 => ?_)⟩
  · rw [hC, if_pos e, g_set sc S (nI i) a3 hd, g_hasI sc hd ew.2.1 hm, Option.bind_some]
    dsimp only
    rw [zb_t (by rw [z1i, zi_nI (by omega)]; omega), if_neg (by decide), g_low sc hd hs ew, Option.bind_some]
    dsimp only
    rw [if_neg (by first | (rw [n_ob (by omega)]; omega) | (rw [n_obb (by omega)]; omega)), n_cl (by omega), hT]; rfl
  · show zcI sc zm_X11_put [.ref 51, .int (nI d), .int (nI i), .long a3] T = _
    have ob : ¬ (nI d < 0 ∨ 6 ≤ (nI d).toNatClampNeg) := (by first | (rw [n_ob (by omega)]; omega) | (rw [n_obb (by omega)]; omega))
    have t70 : T.1 70 d - (50 : Int32) = nI s := by rw [fT, ew.2.2.2, show (50 : Int32) = nI 50 from rfl, zn_sub (by omega)]; congr 1; omega
    rw [c_X11_put, r2 T (by rw [fT]) (by rw [fT]), Option.bind_some]
    dsimp only
    rw [if_neg (c := r ≠ 0) (fun q => q e), if_neg ob, n_cl (a := d) (by omega), t70, m_asSort sc T hs, Option.bind_some]
    dsimp only
    rw [e60, if_neg (by first | (rw [n_ob (by omega)]; omega) | (rw [n_obb (by omega)]; omega)), n_cl (by omega), if_neg (c := r ≠ 0) (fun q => q e), hU]
  · have hS2 := zSHs_d h6 hd2
    refine zSh_long hS2 (fun i => by rw [fU]) (by rw [fU]) (by rw [fU]) (fun j hj => ?_) (fun s' hs' e' j hj => ?_)
    · rw [u2, u2]
      by_cases k : d2 = d ∧ j = i
      · rw [if_pos (by omega), if_neg (by omega), if_pos (by omega)]
      · rw [if_neg (by omega), if_neg (by omega), if_neg (by omega), if_neg (by omega)]
        exact hS2.2.1 j hj
    · rw [u2, if_neg (by omega)]
      by_cases k : 40 + 2 * d2 = 40 + 2 * d ∧ j = i
      · have : d2 = d := by omega
        subst this
        rw [ew.1, n_eq (by omega) (by omega)] at e'
        rw [if_pos k]; exact lowV_rg (by omega) a3
      · rw [if_neg k]; exact zSh_rg hS2 hs' e' j hj
/-- a loop that sets a row of longs -/
theorem fillL {α : Type} (F : zS → Int32 → Option α) (R : zS → Option α) (c lo hi : Nat) (v : Int64) (eq : ∀ S i, lo ≤ i → i ≤ hi → F S (nI i) = if i = hi then R S else F (zw2 S c i v) (nI (i + 1))) :
    ∀ (k i : Nat) (S : zS), i + k = hi → lo ≤ i → ∃ S', F S (nI i) = R S' ∧ S'.1 = S.1 ∧ ∀ e j, S'.2 e j = if e = c ∧ i ≤ j ∧ j < hi then v else S.2 e j
  | 0, i, S, h, hl => by
    refine ⟨S, ?_, rfl, fun e j => ?_⟩
    · rw [eq S i hl (by omega), if_pos (by omega)]
    · rw [if_neg (by omega)]
  | k + 1, i, S, h, hl => by
    obtain ⟨S', a, b, g⟩ := fillL F R c lo hi v eq k (i + 1) (zw2 S c i v) (by omega) (by omega)
    refine ⟨S', ?_, b, fun e j => ?_⟩
    · rw [eq S i hl (by omega), if_neg (by omega), a]
    · rw [g, zw2_r]
      by_cases q : e = c ∧ i ≤ j ∧ j < hi
      · rw [if_pos q]
        by_cases w : i + 1 ≤ j
        · rw [if_pos (by omega)]
        · rw [if_neg (by omega), if_pos (by omega)]
      · rw [if_neg (by omega), if_neg (by omega), if_neg (by omega)]
theorem g_fill0 (sc : zSc) (S : zS) {d : Nat} (hd : d < 6) : ∃ S', zcV sc zm_J7_fill_d0a16 [.ref (40 + 2 * d), .long (Int64.ofNat 0)] S = some S' ∧ S'.1 = S.1 ∧ ∀ e j, S'.2 e j = if e = 40 + 2 * d ∧ j < 60 then Int64.ofNat 0 else S.2 e j := by
  obtain ⟨S', a, b, g⟩ := fillL (fun S i => zO zgV sc (zg1, (zm_J7_fill_d0a16, 1), 6, S, [some (.ref (40 + 2 * d)), some (.long (Int64.ofNat 0)), none, some (.int i), some (.int (nI 60))], [])) (fun S => some S) (40 + 2 * d) 0 60 (Int64.ofNat 0) (fun S i hl hi => by
    rw [g_fill6 sc S (Int64.ofNat 0) (nI i) (nI 60) hd]
    by_cases q : i = 60
    · rw [if_pos (by rw [n_le (by omega) (by omega)]; omega), if_pos q]
    · rw [if_neg (by rw [n_le (by omega) (by omega)]; omega), if_neg q, if_neg (by first | (rw [n_ob (by omega)]; omega) | (rw [n_obb (by omega)]; omega)), n_cl (by omega), n_s1]) 60 0 S (by omega) (by omega)
  refine ⟨S', (g_fill sc S (Int64.ofNat 0) hd).trans a, b, fun e j => ?_⟩
  rw [g]
  by_cases q : e = 40 + 2 * d ∧ j < 60
  · rw [if_pos (by omega), if_pos q]
  · rw [if_neg (by omega), if_neg q]
theorem m_rowLoop (sc : zSc) (S : zS) {d : Nat} (hd : d < 6) (x2 x3 : Int32) : ∃ S', zO zgI sc (zg1, (zm_X11_row, 3), 57, S, [some (.ref 51), some (.int (nI d)), some (.int x2), some (.int x3), some (.int (nI (60 * d)))], []) = some (1, S') ∧ S'.1 = S.1 ∧ ∀ e j, S'.2 e j = if e = 72 ∧ 60 * d ≤ j ∧ j < 60 * d + 60 then Int64.ofNat 0 else S.2 e j :=
  fillL (fun S i => zO zgI sc (zg1, (zm_X11_row, 3), 57, S, [some (.ref 51), some (.int (nI d)), some (.int x2), some (.int x3), some (.int i)], [])) (fun S => some (1, S)) 72 (60 * d) (60 * d + 60) (Int64.ofNat 0) (fun S i hl hi => by
    have e60 : ((60 : Int32) * nI d) + (60 : Int32) = nI (60 * d + 60) := by rw [show (60 : Int32) * nI d = nI (60 * d) from zn_mul 60 d, show (60 : Int32) = nI 60 from rfl, zn_add]
    rw [e_X11_row_57, e60]
    by_cases q : i = 60 * d + 60
    · rw [if_pos (by rw [n_le (by omega) (by omega)]; omega), if_pos q]
    · rw [if_neg (by rw [n_le (by omega) (by omega)]; omega), if_neg q, if_neg (by first | (rw [n_ob (by omega)]; omega) | (rw [n_obb (by omega)]; omega)), n_cl (by omega), n_s1]) 60 (60 * d) S (by omega) (by omega)
