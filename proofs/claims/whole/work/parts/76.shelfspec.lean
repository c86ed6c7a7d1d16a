theorem zSHs_d {vs : Nat} {S : zS} (h : zSHs vs S) {d : Nat} (hd : d < 6) : zSh (39 + 2 * d) (40 + 2 * d) d vs S := by
  rcases hd6 hd with rfl | rfl | rfl | rfl | rfl | rfl
  · exact h.1
  · exact h.2.1
  · exact h.2.2.1
  · exact h.2.2.2.1
  · exact h.2.2.2.2.1
  · exact h.2.2.2.2.2
theorem zSHs_of {vs : Nat} {S : zS} (h : ∀ d, d < 6 → zSh (39 + 2 * d) (40 + 2 * d) d vs S) : zSHs vs S := ⟨h 0 (by omega), h 1 (by omega), h 2 (by omega), h 3 (by omega), h 4 (by omega), h 5 (by omega)⟩
/-- shelves alone are touched -/
abbrev zfs (S S' : zS) : Prop := ∀ c i, (c < 39 ∨ (50 < c ∧ c < 70) ∨ 71 < c) → S'.1 c i = S.1 c i
theorem zInv_sh {t n : Nat} {P : Nat → Nat → Nat} {cs : List Int32} {gap cn ver vs : Nat} {S S' : zS} (ht : ver ≤ t) (h1 : zV1 n P cs gap cn ver S) (h2 : zV2 S) (h3 : zV3 n S) (h4 : zV4 n S) (h5 : zV5 vs S) (f : zfs S S') (h6 : ∀ d, d < 6 → zSh (39 + 2 * d) (40 + 2 * d) d vs S') : zInv (t + 32) S' :=
  ⟨n, P, cs, gap, cn, ver, vs, by omega, zV1_cg h1 (fun c i h => f c i (by omega)) (f _ _ (by omega)) (f _ _ (by omega)) (f _ _ (by omega)), zV2_cg h2 (f _ _ (by omega)) (f _ _ (by omega)) (fun i => f _ _ (by omega)) (fun i => f _ _ (by omega)), zV3_cg h3 (f _ _ (by omega)) (f _ _ (by omega)) (f _ _ (by omega)) (f _ _ (by omega)) (fun c i h => f c i (by omega)) (fun c i h => f c i (by omega)), zV4_cg h4 (f _ _ (by omega)) (f _ _ (by omega)) (f _ _ (by omega)) (f _ _ (by omega)) (fun c i h => f c i (by omega)), zV5_cg h5 (f _ _ (by omega)) (f _ _ (by omega)) (f _ _ (by omega)) (f _ _ (by omega)) (fun c i h => f c i (by omega)), zSHs_of h6⟩
/-! what a shelf holds: nothing, a voice, a row -/
abbrev shE (d : Nat) (S : zS) : Prop := S.1 (39 + 2 * d) 1 = -1 ∧ S.1 (39 + 2 * d) 2 = nI 0 ∧ S.1 (39 + 2 * d) 3 = -1 ∧ S.1 70 d = -1
abbrev shV (d b : Nat) (S : zS) : Prop := S.1 (39 + 2 * d) 1 = -1 ∧ S.1 (39 + 2 * d) 2 = nI 0 ∧ S.1 (39 + 2 * d) 3 = nI b ∧ S.1 70 d = nI b
abbrev shW (d s m : Nat) (S : zS) : Prop := S.1 (39 + 2 * d) 1 = nI s ∧ S.1 (39 + 2 * d) 2 = nI m ∧ S.1 (39 + 2 * d) 3 = -1 ∧ S.1 70 d = nI (50 + s)
theorem m1n : ¬ ((-1 : Int32) ≠ -1) := fun q => q rfl
theorem e_isEmpty (sc : zSc) {S : zS} {d : Nat} (hd : d < 6) (h : shE d S) : zcI sc zm_X6_isEmpty [.ref (39 + 2 * d)] S = some (1, S) := by
  rw [g_isEmpty sc S hd, h.1, h.2.2.1, if_neg m1n, if_neg m1n]
theorem v_isEmpty (sc : zSc) {S : zS} {d b : Nat} (hd : d < 6) (hb : b < 50) (h : shV d b S) : zcI sc zm_X6_isEmpty [.ref (39 + 2 * d)] S = some (0, S) := by
  rw [g_isEmpty sc S hd, h.1, h.2.2.1, if_neg m1n, if_pos (nI_m1 (by omega))]
theorem w_isEmpty (sc : zSc) {S : zS} {d s m : Nat} (hd : d < 6) (hs : s < 5) (h : shW d s m S) : zcI sc zm_X6_isEmpty [.ref (39 + 2 * d)] S = some (0, S) := by
  rw [g_isEmpty sc S hd, h.1, if_pos (nI_m1 (by omega))]
theorem v_isRow (sc : zSc) {S : zS} {d b : Nat} (hd : d < 6) (h : shV d b S) : zcI sc zm_X6_isRow [.ref (39 + 2 * d)] S = some (0, S) := by
  rw [g_isRow sc S hd, h.1, if_pos rfl]
theorem w_isRow (sc : zSc) {S : zS} {d s m : Nat} (hd : d < 6) (hs : s < 5) (h : shW d s m S) : zcI sc zm_X6_isRow [.ref (39 + 2 * d)] S = some (1, S) := by
  rw [g_isRow sc S hd, h.1, if_neg (nI_m1 (by omega))]
theorem v_isRowOf (sc : zSc) {S : zS} {d b : Nat} (hd : d < 6) (h : shV d b S) (a : Int32) : zcI sc zm_X6_isRowOf [.ref (39 + 2 * d), .int a] S = some (0, S) := by
  rw [g_isRowOf sc S a hd, v_isRow sc hd h, Option.bind_some]
  dsimp only
  rw [if_pos rfl]
theorem w_isRowOf (sc : zSc) {S : zS} {d s m : Nat} (hd : d < 6) (hs : s < 5) (h : shW d s m S) {k : Nat} (hk : k < 2147483648) : zcI sc zm_X6_isRowOf [.ref (39 + 2 * d), .int (nI k)] S = some (zb (s = k), S) := by
  rw [g_isRowOf sc S (nI k) hd, w_isRow sc hd hs h, Option.bind_some]
  dsimp only
  rw [if_neg (show ¬ ((1 : Int32) = 0) by decide), h.1, ifc (n_ne (a := s) (b := k) (by omega) hk)]
  by_cases q : s = k
  · rw [if_neg (fun j => j q), zb_t q]
  · rw [if_pos q, zb_f q]
theorem g_hasI (sc : zSc) {S : zS} {d m : Nat} (hd : d < 6) (h : S.1 (39 + 2 * d) 2 = nI m) (hm : m ≤ 60) (a b : Int32) : zcI sc zm_X6_has [.ref (39 + 2 * d), .int a, .int b] S = some (zb (0 ≤ a.toInt ∧ 0 ≤ b.toInt ∧ a.toInt + b.toInt ≤ m), S) := by
  have z0 : (0 : Int32).toInt = 0 := rfl
  have hmi : (nI m).toInt = m := zi_nI (by omega)
  have ub := zi_ub b
  rw [g_has sc S a b hd, h]
  by_cases c1 : a.toInt < 0
  · rw [if_pos (by rw [zi_lt, z0]; exact c1), zb_f (by omega)]
  rw [if_neg (by rw [zi_lt, z0]; exact c1)]
  by_cases c2 : b.toInt < 0
  · rw [if_pos (by rw [zi_lt, z0]; exact c2), zb_f (by omega)]
  rw [if_neg (by rw [zi_lt, z0]; exact c2)]
  by_cases c3 : (m : Int) < b.toInt
  · rw [if_pos (by rw [zi_lt, hmi]; exact c3), zb_f (by omega)]
  rw [if_neg (by rw [zi_lt, hmi]; exact c3)]
  have hs : (nI m - b).toInt = (m : Int) - b.toInt := by rw [zi_sub (by omega) (by omega), hmi]
  by_cases c4 : (m : Int) - b.toInt < a.toInt
  · rw [if_pos (by rw [zi_lt, hs]; exact c4), zb_f (by omega)]
  · rw [if_neg (by rw [zi_lt, hs]; exact c4), zb_t (by omega)]
theorem z1i : (1 : Int32).toInt = 1 := rfl
theorem z0i : (0 : Int32).toInt = 0 := rfl
/-- how a place is refused, by both -/
theorem g_ref (sc : zSc) {S : zS} {d vs : Nat} (hd : d < 6) (h : zSh (39 + 2 * d) (40 + 2 * d) d vs S) (hv : vs ≤ 50) (a : Int32) : ∃ r : Int32, zcI sc zm_X6_refusalAt [.ref (39 + 2 * d), .int a] S = some (r, S) ∧
    (∀ S' : zS, S'.1 70 d = S.1 70 d → S'.1 71 d = S.1 71 d → zcI sc zm_X11_refusal [.ref 51, .int (nI d), .int a] S' = some (r, S')) ∧
    (r = 0 → ∃ i s m : Nat, a = nI i ∧ i < m ∧ m ≤ 60 ∧ s < 5 ∧ shW d s m S) := by
  have ob : ¬ (nI d < 0 ∨ 6 ≤ (nI d).toNatClampNeg) := (by first | (rw [n_ob (by omega)]; omega) | (rw [n_obb (by omega)]; omega))
  have hM : ∀ S' : zS, zcI sc zm_X11_refusal [.ref 51, .int (nI d), .int a] S' = (if 0 ≤ S'.1 70 d then (if (50 : Int32) ≤ S'.1 70 d then (if a < 0 then some ((-13 : Int32), S') else (if S'.1 71 d ≤ a then some ((-13 : Int32), S') else some ((0 : Int32), S'))) else some ((-12 : Int32), S')) else some ((-11 : Int32), S')) := fun S' => by
    rw [c_X11_refusal, m_isShelf', Option.bind_some]
    dsimp only
    rw [zb_t (by unfold rg; rw [zi_nI (by omega)]; omega), if_pos (by decide), if_neg ob, if_neg ob, if_neg ob, n_cl (by omega)]
  have n50 : (50 : Int32) = nI 50 := rfl
  rcases h.2.2 with e | ⟨b, hb, e⟩ | ⟨s, m, hs, hm, e1, e2, e3, e4, -⟩
  · refine ⟨-11, ?_, fun S' q1 q2 => ?_, fun q => absurd q (by decide)⟩
    · rw [g_refusalAt sc S a hd, e_isEmpty sc hd e, Option.bind_some]
      dsimp only
      rw [if_neg (by decide)]
    · rw [hM, q1, e.2.2.2, if_neg (by decide)]
  · refine ⟨-12, ?_, fun S' q1 q2 => ?_, fun q => absurd q (by decide)⟩
    · rw [g_refusalAt sc S a hd, v_isEmpty sc hd (by omega) e, Option.bind_some]
      dsimp only
      rw [if_pos rfl, v_isRow sc hd e, Option.bind_some]
      dsimp only
      rw [if_neg (by decide)]
    · rw [hM, q1, e.2.2.2, if_pos (by rw [n_0le (by omega)]; trivial), if_neg (by rw [n50, n_le (by omega) (by omega)]; omega)]
  · have ew : shW d s m S := ⟨e1, e2, e3, e4⟩
    have hC : zcI sc zm_X6_refusalAt [.ref (39 + 2 * d), .int a] S = (if zb (0 ≤ a.toInt ∧ 0 ≤ (1 : Int32).toInt ∧ a.toInt + (1 : Int32).toInt ≤ m) = 0 then some ((-13 : Int32), S) else some ((0 : Int32), S)) := by
      rw [g_refusalAt sc S a hd, w_isEmpty sc hd hs ew, Option.bind_some]
      dsimp only
      rw [if_pos rfl, w_isRow sc hd hs ew, Option.bind_some]
      dsimp only
      rw [if_pos (show (1 : Int32) ≠ 0 by decide), g_hasI sc hd e2 hm, Option.bind_some]
    have hM2 : ∀ S' : zS, S'.1 70 d = S.1 70 d → S'.1 71 d = S.1 71 d → zcI sc zm_X11_refusal [.ref 51, .int (nI d), .int a] S' = (if a < 0 then some ((-13 : Int32), S') else (if nI m ≤ a then some ((-13 : Int32), S') else some ((0 : Int32), S'))) := fun S' q1 q2 => by
      rw [hM, q1, e4, q2, h.1.trans e2, if_pos (by rw [n_0le (by omega)]; trivial), if_pos (by rw [n50, n_le (by omega) (by omega)]; omega)]
    rw [z1i] at hC
    by_cases c : 0 ≤ a.toInt ∧ a.toInt + 1 ≤ m
    · refine ⟨0, ?_, fun S' q1 q2 => ?_, fun _ => ?_⟩
      · rw [hC, zb_t ⟨c.1, by omega, c.2⟩, if_neg (by decide)]
      · rw [hM2 S' q1 q2, if_neg (by rw [zi_lt, z0i]; omega), if_neg (by rw [zi_le, zi_nI (by omega)]; omega)]
      · obtain ⟨i, hi, rfl⟩ := zi_of c.1
        rw [zi_nI hi] at c
        exact ⟨i, s, m, rfl, by omega, hm, hs, ew⟩
    · refine ⟨-13, ?_, fun S' q1 q2 => ?_, fun q => absurd q (by decide)⟩
      · rw [hC, zb_f (fun q => c ⟨q.1, q.2.2⟩), if_pos rfl]
      · rw [hM2 S' q1 q2]
        by_cases c1 : a.toInt < 0
        · rw [if_pos (by rw [zi_lt, z0i]; exact c1)]
        · rw [if_neg (by rw [zi_lt, z0i]; exact c1), if_pos (by rw [zi_le, zi_nI (by omega)]; omega)]
/-- a call of both that answers a long -/
abbrev zOpL (t : Nat) (C : Option (Int64 × zS)) (M : zS → Option (Int64 × zS)) : Prop := ∃ v S1 S2, C = some (v, S1) ∧ M S1 = some (v, S2) ∧ zInv (t + 32) S2
theorem o_element (sc : zSc) {t : Nat} {S : zS} (h : zInv t S) (a1 a2 : Int32) : zOpL t (zcL sc zm_X10_element [.ref 0, .int a1, .int a2] S) (fun S => zcL sc zm_X11_element [.ref 51, .int a1, .int a2] S) := by
  have h0 := zInv_up h (show t ≤ t + 32 by omega)
  obtain ⟨n, P, cs, gap, cn, ver, vs, ht, h1, h2, h3, h4, h5, h6⟩ := h
  by_cases c : rg a1 5
  case neg =>
    refine ⟨(-9223372036854775808 : Int64), S, S, ?_, ?_, h0⟩
    · rw [c_X10_element, s_isShelf, Option.bind_some]
      dsimp only
      rw [zb_f c, if_pos rfl]
    · show zcL sc zm_X11_element [.ref 51, .int a1, .int a2] S = _
      have : zcI sc zm_X11_refusal [.ref 51, .int a1, .int a2] S = some (-1, S) := by
        rw [c_X11_refusal, m_isShelf', Option.bind_some]
        dsimp only
        rw [zb_f c]; exact if_neg (fun q => q rfl)
      rw [c_X11_element, this, Option.bind_some]
      exact if_neg (show ¬ ((-1 : Int32) = 0) by decide)
  obtain ⟨d, rfl, hd'⟩ := rg_n c
  have hd : d < 6 := by omega
  have hS := zSHs_d h6 hd
  obtain ⟨r, r1, r2, r3⟩ := g_ref sc hd hS h5.1 a2
  have hC : zcL sc zm_X10_element [.ref 0, .int (nI d), .int a2] S = (if r = 0 then ((zcL sc zm_X6_get [.ref (39 + 2 * d), .int a2] S).bind (fun q3 => some (q3.1, q3.2))) else some ((-9223372036854775808 : Int64), S)) := by
    rw [g_element sc S a2 hd, s_isShelf, Option.bind_some]
    dsimp only
    rw [zb_t c, if_neg (by decide), r1, Option.bind_some]
  by_cases e : r = 0
  · obtain ⟨i, s, m, rfl, hi, hm, hs, ew⟩ := r3 e
    refine ⟨S.2 (40 + 2 * d) i, S, S, ?_, ?_, h0⟩
    · rw [hC, if_pos e, g_get sc S (nI i) hd, g_hasI sc hd ew.2.1 hm, Option.bind_some]
      dsimp only
      rw [zb_t (by rw [z1i, zi_nI (by omega)]; omega), if_neg (by decide), if_neg (by first | (rw [n_ob (by omega)]; omega) | (rw [n_obb (by omega)]; omega)), n_cl (by omega)]; rfl
    · show zcL sc zm_X11_element [.ref 51, .int (nI d), .int (nI i)] S = _
      have e60 : ((60 : Int32) * nI d) + nI i = nI (60 * d + i) := by rw [show (60 : Int32) * nI d = nI (60 * d) from zn_mul 60 d, zn_add]
      rw [c_X11_element, r2 S rfl rfl, Option.bind_some]
      dsimp only
      rw [if_pos e, e60, if_neg (by first | (rw [n_ob (by omega)]; omega) | (rw [n_obb (by omega)]; omega)), n_cl (by omega), hS.2.1 i (by omega)]
  · refine ⟨(-9223372036854775808 : Int64), S, S, ?_, ?_, h0⟩
    · rw [hC, if_neg e]
    · show zcL sc zm_X11_element [.ref 51, .int (nI d), .int a2] S = _
      rw [c_X11_element, r2 S rfl rfl, Option.bind_some]
      exact if_neg e
