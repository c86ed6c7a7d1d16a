/-! ===== registers ===== -/
def zQs (P : Nat → Nat → Nat) (p w v : Nat) : Nat → Nat → Nat := fun q u => if q = p ∧ u = w then v else P q u
theorem zQs_o (P : Nat → Nat → Nat) (p w v : Nat) {q u : Nat} (h : ¬ (q = p ∧ u = w)) : zQs P p w v q u = P q u := if_neg h
theorem zQs_y (P : Nat → Nat → Nat) (p w v : Nat) : zQs P p w v p w = v := if_pos ⟨rfl, rfl⟩
theorem zQs_id (P : Nat → Nat → Nat) (p w : Nat) : zQs P p w (P p w) = P := by
  funext q u
  unfold zQs
  by_cases e : q = p ∧ u = w
  · rw [if_pos e, e.1, e.2]
  · rw [if_neg e]
theorem zQs_QP (P : Nat → Nat → Nat) (p v : Nat) {w : Nat} (hw : w = 3 ∨ w = 4) : zQP (zQs P p w v) P := fun q u _ _ _ => if_neg (fun k => by omega)
theorem zQs_PR {n : Nat} {P : Nat → Nat → Nat} (h : zPR n P) (p : Nat) {w v : Nat} (hv : (w = 3 ∧ v ≤ 7) ∨ (w = 4 ∧ v ≤ 255)) : zPR n (zQs P p w v) := by
  intro q hq
  have := h q hq
  have e : ∀ u, u ≠ w → zQs P p w v q u = P q u := fun u k => if_neg (fun j => k j.2)
  have e3 : zQs P p w v q 3 ≤ 7 := by
    unfold zQs
    split
    · omega
    · exact this.2.2.2.2.1
  have e4 : zQs P p w v q 4 ≤ 255 := by
    unfold zQs
    split
    · omega
    · exact this.2.2.2.2.2.1
  rw [e 0 (by omega), e 1 (by omega), e 2 (by omega), e 5 (by omega), e 6 (by omega), e 7 (by omega)]
  exact ⟨this.1, this.2.1, this.2.2.1, this.2.2.2.1, e3, e4, this.2.2.2.2.2.2.1, this.2.2.2.2.2.2.2.1, this.2.2.2.2.2.2.2.2⟩
theorem zRY_s3 {n w : Nat} {P Q : Nat → Nat → Nat} {cs : List Int32} {gap ver p v : Nat} {S : zS} (h : zRY n w P Q cs gap ver S) (hv : v ≤ 7) (hQ : ∀ q, q ≠ p → Q q 3 = P q 3) (hQ4 : ∀ q, Q q 4 = P q 4) : zRY n w P (zQs P p 3 v) cs gap ver (zw1 S 14 p (nI v)) := by
  have f : zfr (zk [14] []) S (zw1 S 14 p (nI v)) := zfr_w0 14 p _ rfl
  refine ⟨zCE_cg h.1 (zfr_up _ _ f rfl), ⟨zCL_cg h.2.1.1 (f.1 6 2 rfl) (fun j => f.1 7 j rfl) (f.1 8 1 rfl) (fun j => f.1 10 j rfl) (fun j => f.1 11 j rfl), by rw [f.1 6 7 rfl, f.1 1 2 rfl]; exact h.2.1.2⟩, (f.1 12 9 rfl).trans h.2.2.1, h.2.2.2.1, zQs_QP P p v (Or.inl rfl), zQs_PR h.1.2.1 p (Or.inl ⟨rfl, hv⟩), fun q k => ⟨?_, ?_, ?_⟩⟩
  · by_cases e : q = p
    · rw [e, zw1_y, zQs_y]
    · rw [zw1_n _ _ (by omega), zQs_o _ _ _ _ (by omega), ← hQ q e]; exact (h.2.2.2.2.2.2 q k).1
  · rw [f.1 15 q rfl, zQs_o _ _ _ _ (by omega), ← hQ4 q]; exact (h.2.2.2.2.2.2 q k).2.1
  · rw [f.1 13 q rfl]; exact (h.2.2.2.2.2.2 q k).2.2
theorem zRY_s4 {n w : Nat} {P Q : Nat → Nat → Nat} {cs : List Int32} {gap ver p v : Nat} {S : zS} (h : zRY n w P Q cs gap ver S) (hv : v ≤ 255) (hQ : ∀ q, q ≠ p → Q q 4 = P q 4) (hQ3 : ∀ q, Q q 3 = P q 3) : zRY n w P (zQs P p 4 v) cs gap ver (zw1 S 15 p (nI v)) := by
  have f : zfr (zk [15] []) S (zw1 S 15 p (nI v)) := zfr_w0 15 p _ rfl
  refine ⟨zCE_cg h.1 (zfr_up _ _ f rfl), ⟨zCL_cg h.2.1.1 (f.1 6 2 rfl) (fun j => f.1 7 j rfl) (f.1 8 1 rfl) (fun j => f.1 10 j rfl) (fun j => f.1 11 j rfl), by rw [f.1 6 7 rfl, f.1 1 2 rfl]; exact h.2.1.2⟩, (f.1 12 9 rfl).trans h.2.2.1, h.2.2.2.1, zQs_QP P p v (Or.inr rfl), zQs_PR h.1.2.1 p (Or.inr ⟨rfl, hv⟩), fun q k => ⟨?_, ?_, ?_⟩⟩
  · rw [f.1 14 q rfl, zQs_o _ _ _ _ (by omega), ← hQ3 q]; exact (h.2.2.2.2.2.2 q k).1
  · by_cases e : q = p
    · rw [e, zw1_y, zQs_y]
    · rw [zw1_n _ _ (by omega), zQs_o _ _ _ _ (by omega), ← hQ q e]; exact (h.2.2.2.2.2.2 q k).2.1
  · rw [f.1 13 q rfl]; exact (h.2.2.2.2.2.2 q k).2.2
theorem zME_s {n : Nat} {P : Nat → Nat → Nat} {cs : List Int32} {gap p v w : Nat} {S0 S : zS} (hw : w = 3 ∨ w = 4) (h : zME n P cs gap none S0) (hp : p < n) (f : zfr (zkIt (8 * w + p)) S0 S) : zME n (zQs P p w v) cs gap none (zw1 S 52 (8 * w + p) (nI v)) := by
  have hn := h.1.2.1
  refine ⟨⟨by rw [zw1_n _ _ (by omega)]; exact (f.1 51 6 rfl).trans h.1.1, hn, fun q u hq hu => ?_⟩, ?_, zTX_cg h.2.2.1 (by rw [zw1_n _ _ (by omega)]; exact f.1 51 11 rfl) (fun j => by rw [zw1_n _ _ (by omega)]; exact f.1 58 j rfl), zTD_cg h.2.2.2 (by rw [zw1_n _ _ (by omega)]; exact f.1 51 18 rfl)⟩
  · unfold zQs
    by_cases e : q = p ∧ u = w
    · rw [if_pos e, e.1, e.2, zw1_y]
      show nI v = (if w = 2 then zwho v else nI v)
      rw [if_neg (by omega)]
    · rw [if_neg e, zw1_n _ _ (by omega), f.1 52 (8 * u + q) (by simp [zk]; omega)]
      exact h.1.2.2 q u hq hu
  · rw [zw1_n _ _ (by omega), f.1 52 64 (by simp [zk]; omega)]
    exact h.2.1
theorem m_shortsIs (sc : zSc) {S : zS} {d : Nat} (hd : d < 6) : zcI sc zm_X11_shortsIs [.ref 51, .int (nI d)] S = some (if 0 ≤ S.1 70 d then (if S.1 70 d ≠ 51 then -12 else 1) else -11, S) := by
  have ob : ¬ (nI d < 0 ∨ 6 ≤ (nI d).toNatClampNeg) := (by first | (rw [n_ob (by omega)]; omega) | (rw [n_obb (by omega)]; omega))
  rw [c_X11_shortsIs, m_isShelf', Option.bind_some]
  dsimp only
  rw [zb_t (by unfold rg; rw [zi_nI (by omega)]; omega), if_pos (by decide), if_neg ob, if_neg ob, n_cl (by omega), sif, sif]
theorem sh_ref_0 (sc : zSc) {S : zS} {vs : Nat} (h : zSh 39 40 0 vs S) (hv : vs ≤ 50) : ∃ c : Nat, c < 3 ∧
    (∀ a2 x : Int32, zcI sc zm_X10_registerRefusal [.ref 0, .int (0 : Int32), .int a2, .int x] S = some (if rg a2 2 ∧ x ≠ 0 then shR c else -1, S)) ∧
    (∀ S' : zS, S'.1 70 0 = S.1 70 0 → zcI sc zm_X11_shortsIs [.ref 51, .int (nI 0)] S' = some (if c = 0 then 1 else shR c, S')) ∧
    (c = 0 → ∃ m e, zRc 39 40 m e S ∧ zRm 0 m e S) := by
  have key : ∀ c : Nat, zcI sc zm_X6_refusalAsRowOf [.ref 39, .int (1 : Int32)] S = some (shR c, S) → ∀ a2 x : Int32, zcI sc zm_X10_registerRefusal [.ref 0, .int (0 : Int32), .int a2, .int x] S = some (if rg a2 2 ∧ x ≠ 0 then shR c else -1, S) := by
    intro c hc a2 x
    rw [c_X10_registerRefusal_L0, s_isShelf, Option.bind_some]
    dsimp only
    rw [zb_t (show rg (0 : Int32) 5 by decide), if_neg (by decide), s_isWay, Option.bind_some]
    dsimp only
    by_cases h2 : rg a2 2
    · rw [zb_t h2, if_neg (by decide)]
      by_cases hx : x = 0
      · rw [if_neg (c := x ≠ 0) (fun q => q hx), if_neg (c := rg a2 2 ∧ x ≠ 0) (fun q => q.2 hx)]
      · rw [if_pos (c := x ≠ 0) hx, if_pos (c := rg a2 2 ∧ x ≠ 0) ⟨h2, hx⟩, hc, Option.bind_some]
    · rw [zb_f h2, if_pos rfl, if_neg (c := rg a2 2 ∧ x ≠ 0) (fun q => h2 q.1)]
  have m1 : ¬ ((-1 : Int32) ≠ -1) := fun q => q rfl
  rcases h.2.2 with ⟨a, b, c, e⟩ | ⟨v, hvv, a, b, c, e⟩ | ⟨s, m, hs, hm, a, b, c, e, g⟩
  · refine ⟨1, by omega, key 1 ?_, fun S' q => ?_, fun q => absurd q (by omega)⟩
    · rw [c_X6_refusalAsRowOf_39, c_X6_isEmpty_39, a, c, if_neg m1, if_neg m1, Option.bind_some]; rfl
    · rw [m_shortsIs sc (by omega), q, e, if_neg (show ¬ ((0 : Int32) ≤ -1) by decide)]; rfl
  · refine ⟨2, by omega, key 2 ?_, fun S' q => ?_, fun q => absurd q (by omega)⟩
    · rw [c_X6_refusalAsRowOf_39, c_X6_isEmpty_39, a, c, if_neg m1, if_pos (nI_m1 (by omega)), Option.bind_some]
      dsimp only
      rw [if_pos rfl, c_X6_isRowOf_39, c_X6_isRow_39, a, if_pos rfl, Option.bind_some]; rfl
    · rw [m_shortsIs sc (by omega), q, e, if_pos (by rw [n_0le (by omega)]; trivial), if_pos (by rw [show (51 : Int32) = nI 51 from rfl, n_ne (by omega) (by omega)]; omega)]; rfl
  · have e0 : zcI sc zm_X6_isEmpty [.ref 39] S = some (0, S) := by rw [c_X6_isEmpty_39, a, if_pos (nI_m1 (by omega))]
    have e1 : zcI sc zm_X6_isRowOf [.ref 39, .int (1 : Int32)] S = some (zb (s = 1), S) := by
      rw [c_X6_isRowOf_39, c_X6_isRow_39, a, if_neg (nI_m1 (by omega)), Option.bind_some]
      dsimp only
      rw [if_neg (show ¬ ((1 : Int32) = 0) by decide), a, show (1 : Int32) = nI 1 from rfl, ifc (n_ne (a := s) (b := 1) (by omega) (by omega))]
      by_cases q : s = 1
      · rw [if_neg (fun k => k q), zb_t q]; rfl
      · rw [if_pos q, zb_f q]
    by_cases s1 : s = 1
    · refine ⟨0, by omega, key 0 ?_, fun S' q => ?_, fun _ => ⟨m, fun i => S.2 40 i, ⟨hm, b, fun i hi => ⟨rfl, g (by omega) i hi⟩⟩, ⟨hm, h.1.trans b, fun i hi => ⟨h.2.1 i hi, g (by omega) i hi⟩⟩⟩⟩
      · rw [c_X6_refusalAsRowOf_39, e0, Option.bind_some]
        dsimp only
        rw [if_pos rfl, e1, Option.bind_some, zb_t s1]; rfl
      · rw [m_shortsIs sc (by omega), q, e, s1, if_pos (by decide), if_neg (by decide)]; rfl
    · refine ⟨2, by omega, key 2 ?_, fun S' q => ?_, fun q => absurd q (by omega)⟩
      · rw [c_X6_refusalAsRowOf_39, e0, Option.bind_some]
        dsimp only
        rw [if_pos rfl, e1, Option.bind_some, zb_f s1]; rfl
      · rw [m_shortsIs sc (by omega), q, e, if_pos (by rw [n_0le (by omega)]; trivial), if_pos (by rw [show (51 : Int32) = nI 51 from rfl, n_ne (by omega) (by omega)]; omega)]; rfl
theorem q_judge_0 (sc : zSc) {n : Nat} {P : Nat → Nat → Nat} {cs : List Int32} {gap ver : Nat} {S : zS} (hC : zCE n P cs gap ver S) (hM : zME n P cs gap none S) {vs : Nat} (hS : zSh 39 40 0 vs S) (hv : vs ≤ 50) (a2 : Int32) :
    zQ n P cs gap ver (zcI sc zm_X10_judge [.ref 0, .int (0 : Int32), .int a2] S) (fun S => zcI sc zm_X11_judge [.ref 51, .int (nI 0), .int a2] S) S := by
  have hr := hC.2.1
  obtain ⟨c, hc, r1, r2, r3⟩ := sh_ref_0 sc hS hv
  have sne : ¬ ((if c = 0 then 1 else shR c) = (-1 : Int32)) := by
    rcases (by omega : c = 0 ∨ c = 1 ∨ c = 2) with rfl | rfl | rfl <;> decide
  by_cases h2 : rg a2 2
  case neg =>
    refine ⟨-1, S, S, ?_, ?_, hC, zfr_refl _ _, zfr_refl _ _⟩
    · rw [c_X10_judge_L0, r1, Option.bind_some]
      dsimp only
      rw [if_neg (c := rg a2 2 ∧ _) (fun q => h2 q.1), if_neg (by decide)]
    · show zcI sc zm_X11_judge [.ref 51, .int (nI 0), .int a2] S = _
      rw [c_X11_judge, r2 S rfl, Option.bind_some]
      dsimp only
      rw [if_neg sne, m_isWay', Option.bind_some]
      dsimp only
      rw [zb_f h2]; exact if_neg (fun q => q rfl)
  have t2 : rg a2 2 ∧ (1 : Int32) ≠ 0 := ⟨h2, by decide⟩
  by_cases hc0 : c = 0
  · obtain ⟨w, rfl, hw⟩ := rg_n h2
    obtain ⟨m, e, g1, g2⟩ := r3 hc0
    obtain ⟨S1, b1, b2, b3⟩ := c_load sc hC (show w < 3 by omega)
    obtain ⟨S2, d1, d2, d3⟩ := c_firstWrong_39 sc (fun _ => rfl) b2 (m := m) (e := e) ⟨g1.1, (b3.1 39 2 rfl).trans g1.2.1, fun i hi => by rw [b3.2]; exact g1.2.2 i hi⟩
    have f2 : zfr zkC S S2 := zfr_tr b3 d3
    obtain ⟨S3, k1, k2, k3⟩ := m_firstFalse sc hr (show w < 3 by omega) (show 0 < 6 by omega) (zME_C hM f2) (m := m) (e := e) ⟨g2.1, (f2.1 71 0 rfl).trans g2.2.1, fun i hi => by rw [f2.2]; exact g2.2.2 i hi⟩
    refine ⟨z2 (fwV m e (fwM n P cs gap w) 31 0) (fwV m e (fwM n P cs gap w) 31 0 - 1), S2, S3, ?_, ?_, d2.1, f2, k2⟩
    · rw [c_X10_judge_L0, r1, Option.bind_some]
      dsimp only
      rw [if_pos t2, hc0, if_pos (show shR 0 = 0 from rfl), b1, Option.bind_some, d1, Option.bind_some]
    · show zcI sc zm_X11_judge [.ref 51, .int (nI 0), .int (nI w)] S2 = _
      rw [c_X11_judge, r2 S2 (f2.1 70 0 rfl), Option.bind_some]
      dsimp only
      rw [if_neg sne, m_isWay', Option.bind_some]
      dsimp only
      rw [zb_t h2, if_pos (show (1 : Int32) ≠ 0 by decide), r2 S2 (f2.1 70 0 rfl), Option.bind_some]
      dsimp only
      rw [hc0, if_pos (show (0 : Int32) ≤ (if (0 : Nat) = 0 then 1 else shR 0) by decide), k1, Option.bind_some]
  · have s0 : ¬ (shR c = 0) := by
      rcases (by omega : c = 1 ∨ c = 2) with rfl | rfl <;> decide
    have s1 : ¬ ((0 : Int32) ≤ (if c = 0 then 1 else shR c)) := by
      rcases (by omega : c = 1 ∨ c = 2) with rfl | rfl <;> decide
    refine ⟨shR c, S, S, ?_, ?_, hC, zfr_refl _ _, zfr_refl _ _⟩
    · rw [c_X10_judge_L0, r1, Option.bind_some]
      dsimp only
      rw [if_pos t2, if_neg s0]
    · show zcI sc zm_X11_judge [.ref 51, .int (nI 0), .int a2] S = _
      rw [c_X11_judge, r2 S rfl, Option.bind_some]
      dsimp only
      rw [if_neg sne, m_isWay', Option.bind_some]
      dsimp only
      rw [zb_t h2, if_pos (show (1 : Int32) ≠ 0 by decide), r2 S rfl, Option.bind_some]
      dsimp only
      rw [if_neg s1, r2 S rfl, Option.bind_some, if_neg hc0]
theorem sh_ref_1 (sc : zSc) {S : zS} {vs : Nat} (h : zSh 41 42 1 vs S) (hv : vs ≤ 50) : ∃ c : Nat, c < 3 ∧
    (∀ a2 x : Int32, zcI sc zm_X10_registerRefusal [.ref 0, .int (1 : Int32), .int a2, .int x] S = some (if rg a2 2 ∧ x ≠ 0 then shR c else -1, S)) ∧
    (∀ S' : zS, S'.1 70 1 = S.1 70 1 → zcI sc zm_X11_shortsIs [.ref 51, .int (nI 1)] S' = some (if c = 0 then 1 else shR c, S')) ∧
    (c = 0 → ∃ m e, zRc 41 42 m e S ∧ zRm 1 m e S) := by
  have key : ∀ c : Nat, zcI sc zm_X6_refusalAsRowOf [.ref 41, .int (1 : Int32)] S = some (shR c, S) → ∀ a2 x : Int32, zcI sc zm_X10_registerRefusal [.ref 0, .int (1 : Int32), .int a2, .int x] S = some (if rg a2 2 ∧ x ≠ 0 then shR c else -1, S) := by
    intro c hc a2 x
    rw [c_X10_registerRefusal_L1, s_isShelf, Option.bind_some]
    dsimp only
    rw [zb_t (show rg (1 : Int32) 5 by decide), if_neg (by decide), s_isWay, Option.bind_some]
    dsimp only
    by_cases h2 : rg a2 2
    · rw [zb_t h2, if_neg (by decide)]
      by_cases hx : x = 0
      · rw [if_neg (c := x ≠ 0) (fun q => q hx), if_neg (c := rg a2 2 ∧ x ≠ 0) (fun q => q.2 hx)]
      · rw [if_pos (c := x ≠ 0) hx, if_pos (c := rg a2 2 ∧ x ≠ 0) ⟨h2, hx⟩, hc, Option.bind_some]
    · rw [zb_f h2, if_pos rfl, if_neg (c := rg a2 2 ∧ x ≠ 0) (fun q => h2 q.1)]
  have m1 : ¬ ((-1 : Int32) ≠ -1) := fun q => q rfl
  rcases h.2.2 with ⟨a, b, c, e⟩ | ⟨v, hvv, a, b, c, e⟩ | ⟨s, m, hs, hm, a, b, c, e, g⟩
  · refine ⟨1, by omega, key 1 ?_, fun S' q => ?_, fun q => absurd q (by omega)⟩
    · rw [c_X6_refusalAsRowOf_41, c_X6_isEmpty_41, a, c, if_neg m1, if_neg m1, Option.bind_some]; rfl
    · rw [m_shortsIs sc (by omega), q, e, if_neg (show ¬ ((0 : Int32) ≤ -1) by decide)]; rfl
  · refine ⟨2, by omega, key 2 ?_, fun S' q => ?_, fun q => absurd q (by omega)⟩
    · rw [c_X6_refusalAsRowOf_41, c_X6_isEmpty_41, a, c, if_neg m1, if_pos (nI_m1 (by omega)), Option.bind_some]
      dsimp only
      rw [if_pos rfl, c_X6_isRowOf_41, c_X6_isRow_41, a, if_pos rfl, Option.bind_some]; rfl
    · rw [m_shortsIs sc (by omega), q, e, if_pos (by rw [n_0le (by omega)]; trivial), if_pos (by rw [show (51 : Int32) = nI 51 from rfl, n_ne (by omega) (by omega)]; omega)]; rfl
  · have e0 : zcI sc zm_X6_isEmpty [.ref 41] S = some (0, S) := by rw [c_X6_isEmpty_41, a, if_pos (nI_m1 (by omega))]
    have e1 : zcI sc zm_X6_isRowOf [.ref 41, .int (1 : Int32)] S = some (zb (s = 1), S) := by
      rw [c_X6_isRowOf_41, c_X6_isRow_41, a, if_neg (nI_m1 (by omega)), Option.bind_some]
      dsimp only
      rw [if_neg (show ¬ ((1 : Int32) = 0) by decide), a, show (1 : Int32) = nI 1 from rfl, ifc (n_ne (a := s) (b := 1) (by omega) (by omega))]
      by_cases q : s = 1
      · rw [if_neg (fun k => k q), zb_t q]; rfl
      · rw [if_pos q, zb_f q]
    by_cases s1 : s = 1
    · refine ⟨0, by omega, key 0 ?_, fun S' q => ?_, fun _ => ⟨m, fun i => S.2 42 i, ⟨hm, b, fun i hi => ⟨rfl, g (by omega) i hi⟩⟩, ⟨hm, h.1.trans b, fun i hi => ⟨h.2.1 i hi, g (by omega) i hi⟩⟩⟩⟩
      · rw [c_X6_refusalAsRowOf_41, e0, Option.bind_some]
        dsimp only
        rw [if_pos rfl, e1, Option.bind_some, zb_t s1]; rfl
      · rw [m_shortsIs sc (by omega), q, e, s1, if_pos (by decide), if_neg (by decide)]; rfl
    · refine ⟨2, by omega, key 2 ?_, fun S' q => ?_, fun q => absurd q (by omega)⟩
      · rw [c_X6_refusalAsRowOf_41, e0, Option.bind_some]
        dsimp only
        rw [if_pos rfl, e1, Option.bind_some, zb_f s1]; rfl
      · rw [m_shortsIs sc (by omega), q, e, if_pos (by rw [n_0le (by omega)]; trivial), if_pos (by rw [show (51 : Int32) = nI 51 from rfl, n_ne (by omega) (by omega)]; omega)]; rfl
theorem q_judge_1 (sc : zSc) {n : Nat} {P : Nat → Nat → Nat} {cs : List Int32} {gap ver : Nat} {S : zS} (hC : zCE n P cs gap ver S) (hM : zME n P cs gap none S) {vs : Nat} (hS : zSh 41 42 1 vs S) (hv : vs ≤ 50) (a2 : Int32) :
    zQ n P cs gap ver (zcI sc zm_X10_judge [.ref 0, .int (1 : Int32), .int a2] S) (fun S => zcI sc zm_X11_judge [.ref 51, .int (nI 1), .int a2] S) S := by
  have hr := hC.2.1
  obtain ⟨c, hc, r1, r2, r3⟩ := sh_ref_1 sc hS hv
  have sne : ¬ ((if c = 0 then 1 else shR c) = (-1 : Int32)) := by
    rcases (by omega : c = 0 ∨ c = 1 ∨ c = 2) with rfl | rfl | rfl <;> decide
  by_cases h2 : rg a2 2
  case neg =>
    refine ⟨-1, S, S, ?_, ?_, hC, zfr_refl _ _, zfr_refl _ _⟩
    · rw [c_X10_judge_L1, r1, Option.bind_some]
      dsimp only
      rw [if_neg (c := rg a2 2 ∧ _) (fun q => h2 q.1), if_neg (by decide)]
    · show zcI sc zm_X11_judge [.ref 51, .int (nI 1), .int a2] S = _
      rw [c_X11_judge, r2 S rfl, Option.bind_some]
      dsimp only
      rw [if_neg sne, m_isWay', Option.bind_some]
      dsimp only
      rw [zb_f h2]; exact if_neg (fun q => q rfl)
  have t2 : rg a2 2 ∧ (1 : Int32) ≠ 0 := ⟨h2, by decide⟩
  by_cases hc0 : c = 0
  · obtain ⟨w, rfl, hw⟩ := rg_n h2
    obtain ⟨m, e, g1, g2⟩ := r3 hc0
    obtain ⟨S1, b1, b2, b3⟩ := c_load sc hC (show w < 3 by omega)
    obtain ⟨S2, d1, d2, d3⟩ := c_firstWrong_41 sc (fun _ => rfl) b2 (m := m) (e := e) ⟨g1.1, (b3.1 41 2 rfl).trans g1.2.1, fun i hi => by rw [b3.2]; exact g1.2.2 i hi⟩
    have f2 : zfr zkC S S2 := zfr_tr b3 d3
    obtain ⟨S3, k1, k2, k3⟩ := m_firstFalse sc hr (show w < 3 by omega) (show 1 < 6 by omega) (zME_C hM f2) (m := m) (e := e) ⟨g2.1, (f2.1 71 1 rfl).trans g2.2.1, fun i hi => by rw [f2.2]; exact g2.2.2 i hi⟩
    refine ⟨z2 (fwV m e (fwM n P cs gap w) 31 0) (fwV m e (fwM n P cs gap w) 31 0 - 1), S2, S3, ?_, ?_, d2.1, f2, k2⟩
    · rw [c_X10_judge_L1, r1, Option.bind_some]
      dsimp only
      rw [if_pos t2, hc0, if_pos (show shR 0 = 0 from rfl), b1, Option.bind_some, d1, Option.bind_some]
    · show zcI sc zm_X11_judge [.ref 51, .int (nI 1), .int (nI w)] S2 = _
      rw [c_X11_judge, r2 S2 (f2.1 70 1 rfl), Option.bind_some]
      dsimp only
      rw [if_neg sne, m_isWay', Option.bind_some]
      dsimp only
      rw [zb_t h2, if_pos (show (1 : Int32) ≠ 0 by decide), r2 S2 (f2.1 70 1 rfl), Option.bind_some]
      dsimp only
      rw [hc0, if_pos (show (0 : Int32) ≤ (if (0 : Nat) = 0 then 1 else shR 0) by decide), k1, Option.bind_some]
  · have s0 : ¬ (shR c = 0) := by
      rcases (by omega : c = 1 ∨ c = 2) with rfl | rfl <;> decide
    have s1 : ¬ ((0 : Int32) ≤ (if c = 0 then 1 else shR c)) := by
      rcases (by omega : c = 1 ∨ c = 2) with rfl | rfl <;> decide
    refine ⟨shR c, S, S, ?_, ?_, hC, zfr_refl _ _, zfr_refl _ _⟩
    · rw [c_X10_judge_L1, r1, Option.bind_some]
      dsimp only
      rw [if_pos t2, if_neg s0]
    · show zcI sc zm_X11_judge [.ref 51, .int (nI 1), .int a2] S = _
      rw [c_X11_judge, r2 S rfl, Option.bind_some]
      dsimp only
      rw [if_neg sne, m_isWay', Option.bind_some]
      dsimp only
      rw [zb_t h2, if_pos (show (1 : Int32) ≠ 0 by decide), r2 S rfl, Option.bind_some]
      dsimp only
      rw [if_neg s1, r2 S rfl, Option.bind_some, if_neg hc0]
theorem sh_ref_2 (sc : zSc) {S : zS} {vs : Nat} (h : zSh 43 44 2 vs S) (hv : vs ≤ 50) : ∃ c : Nat, c < 3 ∧
    (∀ a2 x : Int32, zcI sc zm_X10_registerRefusal [.ref 0, .int (2 : Int32), .int a2, .int x] S = some (if rg a2 2 ∧ x ≠ 0 then shR c else -1, S)) ∧
    (∀ S' : zS, S'.1 70 2 = S.1 70 2 → zcI sc zm_X11_shortsIs [.ref 51, .int (nI 2)] S' = some (if c = 0 then 1 else shR c, S')) ∧
    (c = 0 → ∃ m e, zRc 43 44 m e S ∧ zRm 2 m e S) := by
  have key : ∀ c : Nat, zcI sc zm_X6_refusalAsRowOf [.ref 43, .int (1 : Int32)] S = some (shR c, S) → ∀ a2 x : Int32, zcI sc zm_X10_registerRefusal [.ref 0, .int (2 : Int32), .int a2, .int x] S = some (if rg a2 2 ∧ x ≠ 0 then shR c else -1, S) := by
    intro c hc a2 x
    rw [c_X10_registerRefusal_L2, s_isShelf, Option.bind_some]
    dsimp only
    rw [zb_t (show rg (2 : Int32) 5 by decide), if_neg (by decide), s_isWay, Option.bind_some]
    dsimp only
    by_cases h2 : rg a2 2
    · rw [zb_t h2, if_neg (by decide)]
      by_cases hx : x = 0
      · rw [if_neg (c := x ≠ 0) (fun q => q hx), if_neg (c := rg a2 2 ∧ x ≠ 0) (fun q => q.2 hx)]
      · rw [if_pos (c := x ≠ 0) hx, if_pos (c := rg a2 2 ∧ x ≠ 0) ⟨h2, hx⟩, hc, Option.bind_some]
    · rw [zb_f h2, if_pos rfl, if_neg (c := rg a2 2 ∧ x ≠ 0) (fun q => h2 q.1)]
  have m1 : ¬ ((-1 : Int32) ≠ -1) := fun q => q rfl
  rcases h.2.2 with ⟨a, b, c, e⟩ | ⟨v, hvv, a, b, c, e⟩ | ⟨s, m, hs, hm, a, b, c, e, g⟩
  · refine ⟨1, by omega, key 1 ?_, fun S' q => ?_, fun q => absurd q (by omega)⟩
    · rw [c_X6_refusalAsRowOf_43, c_X6_isEmpty_43, a, c, if_neg m1, if_neg m1, Option.bind_some]; rfl
    · rw [m_shortsIs sc (by omega), q, e, if_neg (show ¬ ((0 : Int32) ≤ -1) by decide)]; rfl
  · refine ⟨2, by omega, key 2 ?_, fun S' q => ?_, fun q => absurd q (by omega)⟩
    · rw [c_X6_refusalAsRowOf_43, c_X6_isEmpty_43, a, c, if_neg m1, if_pos (nI_m1 (by omega)), Option.bind_some]
      dsimp only
      rw [if_pos rfl, c_X6_isRowOf_43, c_X6_isRow_43, a, if_pos rfl, Option.bind_some]; rfl
    · rw [m_shortsIs sc (by omega), q, e, if_pos (by rw [n_0le (by omega)]; trivial), if_pos (by rw [show (51 : Int32) = nI 51 from rfl, n_ne (by omega) (by omega)]; omega)]; rfl
  · have e0 : zcI sc zm_X6_isEmpty [.ref 43] S = some (0, S) := by rw [c_X6_isEmpty_43, a, if_pos (nI_m1 (by omega))]
    have e1 : zcI sc zm_X6_isRowOf [.ref 43, .int (1 : Int32)] S = some (zb (s = 1), S) := by
      rw [c_X6_isRowOf_43, c_X6_isRow_43, a, if_neg (nI_m1 (by omega)), Option.bind_some]
      dsimp only
      rw [if_neg (show ¬ ((1 : Int32) = 0) by decide), a, show (1 : Int32) = nI 1 from rfl, ifc (n_ne (a := s) (b := 1) (by omega) (by omega))]
      by_cases q : s = 1
      · rw [if_neg (fun k => k q), zb_t q]; rfl
      · rw [if_pos q, zb_f q]
    by_cases s1 : s = 1
    · refine ⟨0, by omega, key 0 ?_, fun S' q => ?_, fun _ => ⟨m, fun i => S.2 44 i, ⟨hm, b, fun i hi => ⟨rfl, g (by omega) i hi⟩⟩, ⟨hm, h.1.trans b, fun i hi => ⟨h.2.1 i hi, g (by omega) i hi⟩⟩⟩⟩
      · rw [c_X6_refusalAsRowOf_43, e0, Option.bind_some]
        dsimp only
        rw [if_pos rfl, e1, Option.bind_some, zb_t s1]; rfl
      · rw [m_shortsIs sc (by omega), q, e, s1, if_pos (by decide), if_neg (by decide)]; rfl
    · refine ⟨2, by omega, key 2 ?_, fun S' q => ?_, fun q => absurd q (by omega)⟩
      · rw [c_X6_refusalAsRowOf_43, e0, Option.bind_some]
        dsimp only
        rw [if_pos rfl, e1, Option.bind_some, zb_f s1]; rfl
      · rw [m_shortsIs sc (by omega), q, e, if_pos (by rw [n_0le (by omega)]; trivial), if_pos (by rw [show (51 : Int32) = nI 51 from rfl, n_ne (by omega) (by omega)]; omega)]; rfl
theorem q_judge_2 (sc : zSc) {n : Nat} {P : Nat → Nat → Nat} {cs : List Int32} {gap ver : Nat} {S : zS} (hC : zCE n P cs gap ver S) (hM : zME n P cs gap none S) {vs : Nat} (hS : zSh 43 44 2 vs S) (hv : vs ≤ 50) (a2 : Int32) :
    zQ n P cs gap ver (zcI sc zm_X10_judge [.ref 0, .int (2 : Int32), .int a2] S) (fun S => zcI sc zm_X11_judge [.ref 51, .int (nI 2), .int a2] S) S := by
  have hr := hC.2.1
  obtain ⟨c, hc, r1, r2, r3⟩ := sh_ref_2 sc hS hv
  have sne : ¬ ((if c = 0 then 1 else shR c) = (-1 : Int32)) := by
    rcases (by omega : c = 0 ∨ c = 1 ∨ c = 2) with rfl | rfl | rfl <;> decide
  by_cases h2 : rg a2 2
  case neg =>
    refine ⟨-1, S, S, ?_, ?_, hC, zfr_refl _ _, zfr_refl _ _⟩
    · rw [c_X10_judge_L2, r1, Option.bind_some]
      dsimp only
      rw [if_neg (c := rg a2 2 ∧ _) (fun q => h2 q.1), if_neg (by decide)]
    · show zcI sc zm_X11_judge [.ref 51, .int (nI 2), .int a2] S = _
      rw [c_X11_judge, r2 S rfl, Option.bind_some]
      dsimp only
      rw [if_neg sne, m_isWay', Option.bind_some]
      dsimp only
      rw [zb_f h2]; exact if_neg (fun q => q rfl)
  have t2 : rg a2 2 ∧ (1 : Int32) ≠ 0 := ⟨h2, by decide⟩
  by_cases hc0 : c = 0
  · obtain ⟨w, rfl, hw⟩ := rg_n h2
    obtain ⟨m, e, g1, g2⟩ := r3 hc0
    obtain ⟨S1, b1, b2, b3⟩ := c_load sc hC (show w < 3 by omega)
    obtain ⟨S2, d1, d2, d3⟩ := c_firstWrong_43 sc (fun _ => rfl) b2 (m := m) (e := e) ⟨g1.1, (b3.1 43 2 rfl).trans g1.2.1, fun i hi => by rw [b3.2]; exact g1.2.2 i hi⟩
    have f2 : zfr zkC S S2 := zfr_tr b3 d3
    obtain ⟨S3, k1, k2, k3⟩ := m_firstFalse sc hr (show w < 3 by omega) (show 2 < 6 by omega) (zME_C hM f2) (m := m) (e := e) ⟨g2.1, (f2.1 71 2 rfl).trans g2.2.1, fun i hi => by rw [f2.2]; exact g2.2.2 i hi⟩
    refine ⟨z2 (fwV m e (fwM n P cs gap w) 31 0) (fwV m e (fwM n P cs gap w) 31 0 - 1), S2, S3, ?_, ?_, d2.1, f2, k2⟩
    · rw [c_X10_judge_L2, r1, Option.bind_some]
      dsimp only
      rw [if_pos t2, hc0, if_pos (show shR 0 = 0 from rfl), b1, Option.bind_some, d1, Option.bind_some]
    · show zcI sc zm_X11_judge [.ref 51, .int (nI 2), .int (nI w)] S2 = _
      rw [c_X11_judge, r2 S2 (f2.1 70 2 rfl), Option.bind_some]
      dsimp only
      rw [if_neg sne, m_isWay', Option.bind_some]
      dsimp only
      rw [zb_t h2, if_pos (show (1 : Int32) ≠ 0 by decide), r2 S2 (f2.1 70 2 rfl), Option.bind_some]
      dsimp only
      rw [hc0, if_pos (show (0 : Int32) ≤ (if (0 : Nat) = 0 then 1 else shR 0) by decide), k1, Option.bind_some]
  · have s0 : ¬ (shR c = 0) := by
      rcases (by omega : c = 1 ∨ c = 2) with rfl | rfl <;> decide
    have s1 : ¬ ((0 : Int32) ≤ (if c = 0 then 1 else shR c)) := by
      rcases (by omega : c = 1 ∨ c = 2) with rfl | rfl <;> decide
    refine ⟨shR c, S, S, ?_, ?_, hC, zfr_refl _ _, zfr_refl _ _⟩
    · rw [c_X10_judge_L2, r1, Option.bind_some]
      dsimp only
      rw [if_pos t2, if_neg s0]
    · show zcI sc zm_X11_judge [.ref 51, .int (nI 2), .int a2] S = _
      rw [c_X11_judge, r2 S rfl, Option.bind_some]
      dsimp only
      rw [if_neg sne, m_isWay', Option.bind_some]
      dsimp only
      rw [zb_t h2, if_pos (show (1 : Int32) ≠ 0 by decide), r2 S rfl, Option.bind_some]
      dsimp only
      rw [if_neg s1, r2 S rfl, Option.bind_some, if_neg hc0]
theorem sh_ref_3 (sc : zSc) {S : zS} {vs : Nat} (h : zSh 45 46 3 vs S) (hv : vs ≤ 50) : ∃ c : Nat, c < 3 ∧
    (∀ a2 x : Int32, zcI sc zm_X10_registerRefusal [.ref 0, .int (3 : Int32), .int a2, .int x] S = some (if rg a2 2 ∧ x ≠ 0 then shR c else -1, S)) ∧
    (∀ S' : zS, S'.1 70 3 = S.1 70 3 → zcI sc zm_X11_shortsIs [.ref 51, .int (nI 3)] S' = some (if c = 0 then 1 else shR c, S')) ∧
    (c = 0 → ∃ m e, zRc 45 46 m e S ∧ zRm 3 m e S) := by
  have key : ∀ c : Nat, zcI sc zm_X6_refusalAsRowOf [.ref 45, .int (1 : Int32)] S = some (shR c, S) → ∀ a2 x : Int32, zcI sc zm_X10_registerRefusal [.ref 0, .int (3 : Int32), .int a2, .int x] S = some (if rg a2 2 ∧ x ≠ 0 then shR c else -1, S) := by
    intro c hc a2 x
    rw [c_X10_registerRefusal_L3, s_isShelf, Option.bind_some]
    dsimp only
    rw [zb_t (show rg (3 : Int32) 5 by decide), if_neg (by decide), s_isWay, Option.bind_some]
    dsimp only
    by_cases h2 : rg a2 2
    · rw [zb_t h2, if_neg (by decide)]
      by_cases hx : x = 0
      · rw [if_neg (c := x ≠ 0) (fun q => q hx), if_neg (c := rg a2 2 ∧ x ≠ 0) (fun q => q.2 hx)]
      · rw [if_pos (c := x ≠ 0) hx, if_pos (c := rg a2 2 ∧ x ≠ 0) ⟨h2, hx⟩, hc, Option.bind_some]
    · rw [zb_f h2, if_pos rfl, if_neg (c := rg a2 2 ∧ x ≠ 0) (fun q => h2 q.1)]
  have m1 : ¬ ((-1 : Int32) ≠ -1) := fun q => q rfl
  rcases h.2.2 with ⟨a, b, c, e⟩ | ⟨v, hvv, a, b, c, e⟩ | ⟨s, m, hs, hm, a, b, c, e, g⟩
  · refine ⟨1, by omega, key 1 ?_, fun S' q => ?_, fun q => absurd q (by omega)⟩
    · rw [c_X6_refusalAsRowOf_45, c_X6_isEmpty_45, a, c, if_neg m1, if_neg m1, Option.bind_some]; rfl
    · rw [m_shortsIs sc (by omega), q, e, if_neg (show ¬ ((0 : Int32) ≤ -1) by decide)]; rfl
  · refine ⟨2, by omega, key 2 ?_, fun S' q => ?_, fun q => absurd q (by omega)⟩
    · rw [c_X6_refusalAsRowOf_45, c_X6_isEmpty_45, a, c, if_neg m1, if_pos (nI_m1 (by omega)), Option.bind_some]
      dsimp only
      rw [if_pos rfl, c_X6_isRowOf_45, c_X6_isRow_45, a, if_pos rfl, Option.bind_some]; rfl
    · rw [m_shortsIs sc (by omega), q, e, if_pos (by rw [n_0le (by omega)]; trivial), if_pos (by rw [show (51 : Int32) = nI 51 from rfl, n_ne (by omega) (by omega)]; omega)]; rfl
  · have e0 : zcI sc zm_X6_isEmpty [.ref 45] S = some (0, S) := by rw [c_X6_isEmpty_45, a, if_pos (nI_m1 (by omega))]
    have e1 : zcI sc zm_X6_isRowOf [.ref 45, .int (1 : Int32)] S = some (zb (s = 1), S) := by
      rw [c_X6_isRowOf_45, c_X6_isRow_45, a, if_neg (nI_m1 (by omega)), Option.bind_some]
      dsimp only
      rw [if_neg (show ¬ ((1 : Int32) = 0) by decide), a, show (1 : Int32) = nI 1 from rfl, ifc (n_ne (a := s) (b := 1) (by omega) (by omega))]
      by_cases q : s = 1
      · rw [if_neg (fun k => k q), zb_t q]; rfl
      · rw [if_pos q, zb_f q]
    by_cases s1 : s = 1
    · refine ⟨0, by omega, key 0 ?_, fun S' q => ?_, fun _ => ⟨m, fun i => S.2 46 i, ⟨hm, b, fun i hi => ⟨rfl, g (by omega) i hi⟩⟩, ⟨hm, h.1.trans b, fun i hi => ⟨h.2.1 i hi, g (by omega) i hi⟩⟩⟩⟩
      · rw [c_X6_refusalAsRowOf_45, e0, Option.bind_some]
        dsimp only
        rw [if_pos rfl, e1, Option.bind_some, zb_t s1]; rfl
      · rw [m_shortsIs sc (by omega), q, e, s1, if_pos (by decide), if_neg (by decide)]; rfl
    · refine ⟨2, by omega, key 2 ?_, fun S' q => ?_, fun q => absurd q (by omega)⟩
      · rw [c_X6_refusalAsRowOf_45, e0, Option.bind_some]
        dsimp only
        rw [if_pos rfl, e1, Option.bind_some, zb_f s1]; rfl
      · rw [m_shortsIs sc (by omega), q, e, if_pos (by rw [n_0le (by omega)]; trivial), if_pos (by rw [show (51 : Int32) = nI 51 from rfl, n_ne (by omega) (by omega)]; omega)]; rfl
theorem q_judge_3 (sc : zSc) {n : Nat} {P : Nat → Nat → Nat} {cs : List Int32} {gap ver : Nat} {S : zS} (hC : zCE n P cs gap ver S) (hM : zME n P cs gap none S) {vs : Nat} (hS : zSh 45 46 3 vs S) (hv : vs ≤ 50) (a2 : Int32) :
    zQ n P cs gap ver (zcI sc zm_X10_judge [.ref 0, .int (3 : Int32), .int a2] S) (fun S => zcI sc zm_X11_judge [.ref 51, .int (nI 3), .int a2] S) S := by
  have hr := hC.2.1
  obtain ⟨c, hc, r1, r2, r3⟩ := sh_ref_3 sc hS hv
  have sne : ¬ ((if c = 0 then 1 else shR c) = (-1 : Int32)) := by
    rcases (by omega : c = 0 ∨ c = 1 ∨ c = 2) with rfl | rfl | rfl <;> decide
  by_cases h2 : rg a2 2
  case neg =>
    refine ⟨-1, S, S, ?_, ?_, hC, zfr_refl _ _, zfr_refl _ _⟩
    · rw [c_X10_judge_L3, r1, Option.bind_some]
      dsimp only
      rw [if_neg (c := rg a2 2 ∧ _) (fun q => h2 q.1), if_neg (by decide)]
    · show zcI sc zm_X11_judge [.ref 51, .int (nI 3), .int a2] S = _
      rw [c_X11_judge, r2 S rfl, Option.bind_some]
      dsimp only
      rw [if_neg sne, m_isWay', Option.bind_some]
      dsimp only
      rw [zb_f h2]; exact if_neg (fun q => q rfl)
  have t2 : rg a2 2 ∧ (1 : Int32) ≠ 0 := ⟨h2, by decide⟩
  by_cases hc0 : c = 0
  · obtain ⟨w, rfl, hw⟩ := rg_n h2
    obtain ⟨m, e, g1, g2⟩ := r3 hc0
    obtain ⟨S1, b1, b2, b3⟩ := c_load sc hC (show w < 3 by omega)
    obtain ⟨S2, d1, d2, d3⟩ := c_firstWrong_45 sc (fun _ => rfl) b2 (m := m) (e := e) ⟨g1.1, (b3.1 45 2 rfl).trans g1.2.1, fun i hi => by rw [b3.2]; exact g1.2.2 i hi⟩
    have f2 : zfr zkC S S2 := zfr_tr b3 d3
    obtain ⟨S3, k1, k2, k3⟩ := m_firstFalse sc hr (show w < 3 by omega) (show 3 < 6 by omega) (zME_C hM f2) (m := m) (e := e) ⟨g2.1, (f2.1 71 3 rfl).trans g2.2.1, fun i hi => by rw [f2.2]; exact g2.2.2 i hi⟩
    refine ⟨z2 (fwV m e (fwM n P cs gap w) 31 0) (fwV m e (fwM n P cs gap w) 31 0 - 1), S2, S3, ?_, ?_, d2.1, f2, k2⟩
    · rw [c_X10_judge_L3, r1, Option.bind_some]
      dsimp only
      rw [if_pos t2, hc0, if_pos (show shR 0 = 0 from rfl), b1, Option.bind_some, d1, Option.bind_some]
    · show zcI sc zm_X11_judge [.ref 51, .int (nI 3), .int (nI w)] S2 = _
      rw [c_X11_judge, r2 S2 (f2.1 70 3 rfl), Option.bind_some]
      dsimp only
      rw [if_neg sne, m_isWay', Option.bind_some]
      dsimp only
      rw [zb_t h2, if_pos (show (1 : Int32) ≠ 0 by decide), r2 S2 (f2.1 70 3 rfl), Option.bind_some]
      dsimp only
      rw [hc0, if_pos (show (0 : Int32) ≤ (if (0 : Nat) = 0 then 1 else shR 0) by decide), k1, Option.bind_some]
  · have s0 : ¬ (shR c = 0) := by
      rcases (by omega : c = 1 ∨ c = 2) with rfl | rfl <;> decide
    have s1 : ¬ ((0 : Int32) ≤ (if c = 0 then 1 else shR c)) := by
      rcases (by omega : c = 1 ∨ c = 2) with rfl | rfl <;> decide
    refine ⟨shR c, S, S, ?_, ?_, hC, zfr_refl _ _, zfr_refl _ _⟩
    · rw [c_X10_judge_L3, r1, Option.bind_some]
      dsimp only
      rw [if_pos t2, if_neg s0]
    · show zcI sc zm_X11_judge [.ref 51, .int (nI 3), .int a2] S = _
      rw [c_X11_judge, r2 S rfl, Option.bind_some]
      dsimp only
      rw [if_neg sne, m_isWay', Option.bind_some]
      dsimp only
      rw [zb_t h2, if_pos (show (1 : Int32) ≠ 0 by decide), r2 S rfl, Option.bind_some]
      dsimp only
      rw [if_neg s1, r2 S rfl, Option.bind_some, if_neg hc0]
theorem sh_ref_4 (sc : zSc) {S : zS} {vs : Nat} (h : zSh 47 48 4 vs S) (hv : vs ≤ 50) : ∃ c : Nat, c < 3 ∧
    (∀ a2 x : Int32, zcI sc zm_X10_registerRefusal [.ref 0, .int (4 : Int32), .int a2, .int x] S = some (if rg a2 2 ∧ x ≠ 0 then shR c else -1, S)) ∧
    (∀ S' : zS, S'.1 70 4 = S.1 70 4 → zcI sc zm_X11_shortsIs [.ref 51, .int (nI 4)] S' = some (if c = 0 then 1 else shR c, S')) ∧
    (c = 0 → ∃ m e, zRc 47 48 m e S ∧ zRm 4 m e S) := by
  have key : ∀ c : Nat, zcI sc zm_X6_refusalAsRowOf [.ref 47, .int (1 : Int32)] S = some (shR c, S) → ∀ a2 x : Int32, zcI sc zm_X10_registerRefusal [.ref 0, .int (4 : Int32), .int a2, .int x] S = some (if rg a2 2 ∧ x ≠ 0 then shR c else -1, S) := by
    intro c hc a2 x
    rw [c_X10_registerRefusal_L4, s_isShelf, Option.bind_some]
    dsimp only
    rw [zb_t (show rg (4 : Int32) 5 by decide), if_neg (by decide), s_isWay, Option.bind_some]
    dsimp only
    by_cases h2 : rg a2 2
    · rw [zb_t h2, if_neg (by decide)]
      by_cases hx : x = 0
      · rw [if_neg (c := x ≠ 0) (fun q => q hx), if_neg (c := rg a2 2 ∧ x ≠ 0) (fun q => q.2 hx)]
      · rw [if_pos (c := x ≠ 0) hx, if_pos (c := rg a2 2 ∧ x ≠ 0) ⟨h2, hx⟩, hc, Option.bind_some]
    · rw [zb_f h2, if_pos rfl, if_neg (c := rg a2 2 ∧ x ≠ 0) (fun q => h2 q.1)]
  have m1 : ¬ ((-1 : Int32) ≠ -1) := fun q => q rfl
  rcases h.2.2 with ⟨a, b, c, e⟩ | ⟨v, hvv, a, b, c, e⟩ | ⟨s, m, hs, hm, a, b, c, e, g⟩
  · refine ⟨1, by omega, key 1 ?_, fun S' q => ?_, fun q => absurd q (by omega)⟩
    · rw [c_X6_refusalAsRowOf_47, c_X6_isEmpty_47, a, c, if_neg m1, if_neg m1, Option.bind_some]; rfl
    · rw [m_shortsIs sc (by omega), q, e, if_neg (show ¬ ((0 : Int32) ≤ -1) by decide)]; rfl
  · refine ⟨2, by omega, key 2 ?_, fun S' q => ?_, fun q => absurd q (by omega)⟩
    · rw [c_X6_refusalAsRowOf_47, c_X6_isEmpty_47, a, c, if_neg m1, if_pos (nI_m1 (by omega)), Option.bind_some]
      dsimp only
      rw [if_pos rfl, c_X6_isRowOf_47, c_X6_isRow_47, a, if_pos rfl, Option.bind_some]; rfl
    · rw [m_shortsIs sc (by omega), q, e, if_pos (by rw [n_0le (by omega)]; trivial), if_pos (by rw [show (51 : Int32) = nI 51 from rfl, n_ne (by omega) (by omega)]; omega)]; rfl
  · have e0 : zcI sc zm_X6_isEmpty [.ref 47] S = some (0, S) := by rw [c_X6_isEmpty_47, a, if_pos (nI_m1 (by omega))]
    have e1 : zcI sc zm_X6_isRowOf [.ref 47, .int (1 : Int32)] S = some (zb (s = 1), S) := by
      rw [c_X6_isRowOf_47, c_X6_isRow_47, a, if_neg (nI_m1 (by omega)), Option.bind_some]
      dsimp only
      rw [if_neg (show ¬ ((1 : Int32) = 0) by decide), a, show (1 : Int32) = nI 1 from rfl, ifc (n_ne (a := s) (b := 1) (by omega) (by omega))]
      by_cases q : s = 1
      · rw [if_neg (fun k => k q), zb_t q]; rfl
      · rw [if_pos q, zb_f q]
    by_cases s1 : s = 1
    · refine ⟨0, by omega, key 0 ?_, fun S' q => ?_, fun _ => ⟨m, fun i => S.2 48 i, ⟨hm, b, fun i hi => ⟨rfl, g (by omega) i hi⟩⟩, ⟨hm, h.1.trans b, fun i hi => ⟨h.2.1 i hi, g (by omega) i hi⟩⟩⟩⟩
      · rw [c_X6_refusalAsRowOf_47, e0, Option.bind_some]
        dsimp only
        rw [if_pos rfl, e1, Option.bind_some, zb_t s1]; rfl
      · rw [m_shortsIs sc (by omega), q, e, s1, if_pos (by decide), if_neg (by decide)]; rfl
    · refine ⟨2, by omega, key 2 ?_, fun S' q => ?_, fun q => absurd q (by omega)⟩
      · rw [c_X6_refusalAsRowOf_47, e0, Option.bind_some]
        dsimp only
        rw [if_pos rfl, e1, Option.bind_some, zb_f s1]; rfl
      · rw [m_shortsIs sc (by omega), q, e, if_pos (by rw [n_0le (by omega)]; trivial), if_pos (by rw [show (51 : Int32) = nI 51 from rfl, n_ne (by omega) (by omega)]; omega)]; rfl
theorem q_judge_4 (sc : zSc) {n : Nat} {P : Nat → Nat → Nat} {cs : List Int32} {gap ver : Nat} {S : zS} (hC : zCE n P cs gap ver S) (hM : zME n P cs gap none S) {vs : Nat} (hS : zSh 47 48 4 vs S) (hv : vs ≤ 50) (a2 : Int32) :
    zQ n P cs gap ver (zcI sc zm_X10_judge [.ref 0, .int (4 : Int32), .int a2] S) (fun S => zcI sc zm_X11_judge [.ref 51, .int (nI 4), .int a2] S) S := by
  have hr := hC.2.1
  obtain ⟨c, hc, r1, r2, r3⟩ := sh_ref_4 sc hS hv
  have sne : ¬ ((if c = 0 then 1 else shR c) = (-1 : Int32)) := by
    rcases (by omega : c = 0 ∨ c = 1 ∨ c = 2) with rfl | rfl | rfl <;> decide
  by_cases h2 : rg a2 2
  case neg =>
    refine ⟨-1, S, S, ?_, ?_, hC, zfr_refl _ _, zfr_refl _ _⟩
    · rw [c_X10_judge_L4, r1, Option.bind_some]
      dsimp only
      rw [if_neg (c := rg a2 2 ∧ _) (fun q => h2 q.1), if_neg (by decide)]
    · show zcI sc zm_X11_judge [.ref 51, .int (nI 4), .int a2] S = _
      rw [c_X11_judge, r2 S rfl, Option.bind_some]
      dsimp only
      rw [if_neg sne, m_isWay', Option.bind_some]
      dsimp only
      rw [zb_f h2]; exact if_neg (fun q => q rfl)
  have t2 : rg a2 2 ∧ (1 : Int32) ≠ 0 := ⟨h2, by decide⟩
  by_cases hc0 : c = 0
  · obtain ⟨w, rfl, hw⟩ := rg_n h2
    obtain ⟨m, e, g1, g2⟩ := r3 hc0
    obtain ⟨S1, b1, b2, b3⟩ := c_load sc hC (show w < 3 by omega)
    obtain ⟨S2, d1, d2, d3⟩ := c_firstWrong_47 sc (fun _ => rfl) b2 (m := m) (e := e) ⟨g1.1, (b3.1 47 2 rfl).trans g1.2.1, fun i hi => by rw [b3.2]; exact g1.2.2 i hi⟩
    have f2 : zfr zkC S S2 := zfr_tr b3 d3
    obtain ⟨S3, k1, k2, k3⟩ := m_firstFalse sc hr (show w < 3 by omega) (show 4 < 6 by omega) (zME_C hM f2) (m := m) (e := e) ⟨g2.1, (f2.1 71 4 rfl).trans g2.2.1, fun i hi => by rw [f2.2]; exact g2.2.2 i hi⟩
    refine ⟨z2 (fwV m e (fwM n P cs gap w) 31 0) (fwV m e (fwM n P cs gap w) 31 0 - 1), S2, S3, ?_, ?_, d2.1, f2, k2⟩
    · rw [c_X10_judge_L4, r1, Option.bind_some]
      dsimp only
      rw [if_pos t2, hc0, if_pos (show shR 0 = 0 from rfl), b1, Option.bind_some, d1, Option.bind_some]
    · show zcI sc zm_X11_judge [.ref 51, .int (nI 4), .int (nI w)] S2 = _
      rw [c_X11_judge, r2 S2 (f2.1 70 4 rfl), Option.bind_some]
      dsimp only
      rw [if_neg sne, m_isWay', Option.bind_some]
      dsimp only
      rw [zb_t h2, if_pos (show (1 : Int32) ≠ 0 by decide), r2 S2 (f2.1 70 4 rfl), Option.bind_some]
      dsimp only
      rw [hc0, if_pos (show (0 : Int32) ≤ (if (0 : Nat) = 0 then 1 else shR 0) by decide), k1, Option.bind_some]
  · have s0 : ¬ (shR c = 0) := by
      rcases (by omega : c = 1 ∨ c = 2) with rfl | rfl <;> decide
    have s1 : ¬ ((0 : Int32) ≤ (if c = 0 then 1 else shR c)) := by
      rcases (by omega : c = 1 ∨ c = 2) with rfl | rfl <;> decide
    refine ⟨shR c, S, S, ?_, ?_, hC, zfr_refl _ _, zfr_refl _ _⟩
    · rw [c_X10_judge_L4, r1, Option.bind_some]
      dsimp only
      rw [if_pos t2, if_neg s0]
    · show zcI sc zm_X11_judge [.ref 51, .int (nI 4), .int a2] S = _
      rw [c_X11_judge, r2 S rfl, Option.bind_some]
      dsimp only
      rw [if_neg sne, m_isWay', Option.bind_some]
      dsimp only
      rw [zb_t h2, if_pos (show (1 : Int32) ≠ 0 by decide), r2 S rfl, Option.bind_some]
      dsimp only
      rw [if_neg s1, r2 S rfl, Option.bind_some, if_neg hc0]
theorem sh_ref_5 (sc : zSc) {S : zS} {vs : Nat} (h : zSh 49 50 5 vs S) (hv : vs ≤ 50) : ∃ c : Nat, c < 3 ∧
    (∀ a2 x : Int32, zcI sc zm_X10_registerRefusal [.ref 0, .int (5 : Int32), .int a2, .int x] S = some (if rg a2 2 ∧ x ≠ 0 then shR c else -1, S)) ∧
    (∀ S' : zS, S'.1 70 5 = S.1 70 5 → zcI sc zm_X11_shortsIs [.ref 51, .int (nI 5)] S' = some (if c = 0 then 1 else shR c, S')) ∧
    (c = 0 → ∃ m e, zRc 49 50 m e S ∧ zRm 5 m e S) := by
  have key : ∀ c : Nat, zcI sc zm_X6_refusalAsRowOf [.ref 49, .int (1 : Int32)] S = some (shR c, S) → ∀ a2 x : Int32, zcI sc zm_X10_registerRefusal [.ref 0, .int (5 : Int32), .int a2, .int x] S = some (if rg a2 2 ∧ x ≠ 0 then shR c else -1, S) := by
    intro c hc a2 x
    rw [c_X10_registerRefusal_L5, s_isShelf, Option.bind_some]
    dsimp only
    rw [zb_t (show rg (5 : Int32) 5 by decide), if_neg (by decide), s_isWay, Option.bind_some]
    dsimp only
    by_cases h2 : rg a2 2
    · rw [zb_t h2, if_neg (by decide)]
      by_cases hx : x = 0
      · rw [if_neg (c := x ≠ 0) (fun q => q hx), if_neg (c := rg a2 2 ∧ x ≠ 0) (fun q => q.2 hx)]
      · rw [if_pos (c := x ≠ 0) hx, if_pos (c := rg a2 2 ∧ x ≠ 0) ⟨h2, hx⟩, hc, Option.bind_some]
    · rw [zb_f h2, if_pos rfl, if_neg (c := rg a2 2 ∧ x ≠ 0) (fun q => h2 q.1)]
  have m1 : ¬ ((-1 : Int32) ≠ -1) := fun q => q rfl
  rcases h.2.2 with ⟨a, b, c, e⟩ | ⟨v, hvv, a, b, c, e⟩ | ⟨s, m, hs, hm, a, b, c, e, g⟩
  · refine ⟨1, by omega, key 1 ?_, fun S' q => ?_, fun q => absurd q (by omega)⟩
    · rw [c_X6_refusalAsRowOf_49, c_X6_isEmpty_49, a, c, if_neg m1, if_neg m1, Option.bind_some]; rfl
    · rw [m_shortsIs sc (by omega), q, e, if_neg (show ¬ ((0 : Int32) ≤ -1) by decide)]; rfl
  · refine ⟨2, by omega, key 2 ?_, fun S' q => ?_, fun q => absurd q (by omega)⟩
    · rw [c_X6_refusalAsRowOf_49, c_X6_isEmpty_49, a, c, if_neg m1, if_pos (nI_m1 (by omega)), Option.bind_some]
      dsimp only
      rw [if_pos rfl, c_X6_isRowOf_49, c_X6_isRow_49, a, if_pos rfl, Option.bind_some]; rfl
    · rw [m_shortsIs sc (by omega), q, e, if_pos (by rw [n_0le (by omega)]; trivial), if_pos (by rw [show (51 : Int32) = nI 51 from rfl, n_ne (by omega) (by omega)]; omega)]; rfl
  · have e0 : zcI sc zm_X6_isEmpty [.ref 49] S = some (0, S) := by rw [c_X6_isEmpty_49, a, if_pos (nI_m1 (by omega))]
    have e1 : zcI sc zm_X6_isRowOf [.ref 49, .int (1 : Int32)] S = some (zb (s = 1), S) := by
      rw [c_X6_isRowOf_49, c_X6_isRow_49, a, if_neg (nI_m1 (by omega)), Option.bind_some]
      dsimp only
      rw [if_neg (show ¬ ((1 : Int32) = 0) by decide), a, show (1 : Int32) = nI 1 from rfl, ifc (n_ne (a := s) (b := 1) (by omega) (by omega))]
      by_cases q : s = 1
      · rw [if_neg (fun k => k q), zb_t q]; rfl
      · rw [if_pos q, zb_f q]
    by_cases s1 : s = 1
    · refine ⟨0, by omega, key 0 ?_, fun S' q => ?_, fun _ => ⟨m, fun i => S.2 50 i, ⟨hm, b, fun i hi => ⟨rfl, g (by omega) i hi⟩⟩, ⟨hm, h.1.trans b, fun i hi => ⟨h.2.1 i hi, g (by omega) i hi⟩⟩⟩⟩
      · rw [c_X6_refusalAsRowOf_49, e0, Option.bind_some]
        dsimp only
        rw [if_pos rfl, e1, Option.bind_some, zb_t s1]; rfl
      · rw [m_shortsIs sc (by omega), q, e, s1, if_pos (by decide), if_neg (by decide)]; rfl
    · refine ⟨2, by omega, key 2 ?_, fun S' q => ?_, fun q => absurd q (by omega)⟩
      · rw [c_X6_refusalAsRowOf_49, e0, Option.bind_some]
        dsimp only
        rw [if_pos rfl, e1, Option.bind_some, zb_f s1]; rfl
      · rw [m_shortsIs sc (by omega), q, e, if_pos (by rw [n_0le (by omega)]; trivial), if_pos (by rw [show (51 : Int32) = nI 51 from rfl, n_ne (by omega) (by omega)]; omega)]; rfl
theorem q_judge_5 (sc : zSc) {n : Nat} {P : Nat → Nat → Nat} {cs : List Int32} {gap ver : Nat} {S : zS} (hC : zCE n P cs gap ver S) (hM : zME n P cs gap none S) {vs : Nat} (hS : zSh 49 50 5 vs S) (hv : vs ≤ 50) (a2 : Int32) :
    zQ n P cs gap ver (zcI sc zm_X10_judge [.ref 0, .int (5 : Int32), .int a2] S) (fun S => zcI sc zm_X11_judge [.ref 51, .int (nI 5), .int a2] S) S := by
  have hr := hC.2.1
  obtain ⟨c, hc, r1, r2, r3⟩ := sh_ref_5 sc hS hv
  have sne : ¬ ((if c = 0 then 1 else shR c) = (-1 : Int32)) := by
    rcases (by omega : c = 0 ∨ c = 1 ∨ c = 2) with rfl | rfl | rfl <;> decide
  by_cases h2 : rg a2 2
  case neg =>
    refine ⟨-1, S, S, ?_, ?_, hC, zfr_refl _ _, zfr_refl _ _⟩
    · rw [c_X10_judge_L5, r1, Option.bind_some]
      dsimp only
      rw [if_neg (c := rg a2 2 ∧ _) (fun q => h2 q.1), if_neg (by decide)]
    · show zcI sc zm_X11_judge [.ref 51, .int (nI 5), .int a2] S = _
      rw [c_X11_judge, r2 S rfl, Option.bind_some]
      dsimp only
      rw [if_neg sne, m_isWay', Option.bind_some]
      dsimp only
      rw [zb_f h2]; exact if_neg (fun q => q rfl)
  have t2 : rg a2 2 ∧ (1 : Int32) ≠ 0 := ⟨h2, by decide⟩
  by_cases hc0 : c = 0
  · obtain ⟨w, rfl, hw⟩ := rg_n h2
    obtain ⟨m, e, g1, g2⟩ := r3 hc0
    obtain ⟨S1, b1, b2, b3⟩ := c_load sc hC (show w < 3 by omega)
    obtain ⟨S2, d1, d2, d3⟩ := c_firstWrong_49 sc (fun _ => rfl) b2 (m := m) (e := e) ⟨g1.1, (b3.1 49 2 rfl).trans g1.2.1, fun i hi => by rw [b3.2]; exact g1.2.2 i hi⟩
    have f2 : zfr zkC S S2 := zfr_tr b3 d3
    obtain ⟨S3, k1, k2, k3⟩ := m_firstFalse sc hr (show w < 3 by omega) (show 5 < 6 by omega) (zME_C hM f2) (m := m) (e := e) ⟨g2.1, (f2.1 71 5 rfl).trans g2.2.1, fun i hi => by rw [f2.2]; exact g2.2.2 i hi⟩
    refine ⟨z2 (fwV m e (fwM n P cs gap w) 31 0) (fwV m e (fwM n P cs gap w) 31 0 - 1), S2, S3, ?_, ?_, d2.1, f2, k2⟩
    · rw [c_X10_judge_L5, r1, Option.bind_some]
      dsimp only
      rw [if_pos t2, hc0, if_pos (show shR 0 = 0 from rfl), b1, Option.bind_some, d1, Option.bind_some]
    · show zcI sc zm_X11_judge [.ref 51, .int (nI 5), .int (nI w)] S2 = _
      rw [c_X11_judge, r2 S2 (f2.1 70 5 rfl), Option.bind_some]
      dsimp only
      rw [if_neg sne, m_isWay', Option.bind_some]
      dsimp only
      rw [zb_t h2, if_pos (show (1 : Int32) ≠ 0 by decide), r2 S2 (f2.1 70 5 rfl), Option.bind_some]
      dsimp only
      rw [hc0, if_pos (show (0 : Int32) ≤ (if (0 : Nat) = 0 then 1 else shR 0) by decide), k1, Option.bind_some]
  · have s0 : ¬ (shR c = 0) := by
      rcases (by omega : c = 1 ∨ c = 2) with rfl | rfl <;> decide
    have s1 : ¬ ((0 : Int32) ≤ (if c = 0 then 1 else shR c)) := by
      rcases (by omega : c = 1 ∨ c = 2) with rfl | rfl <;> decide
    refine ⟨shR c, S, S, ?_, ?_, hC, zfr_refl _ _, zfr_refl _ _⟩
    · rw [c_X10_judge_L5, r1, Option.bind_some]
      dsimp only
      rw [if_pos t2, if_neg s0]
    · show zcI sc zm_X11_judge [.ref 51, .int (nI 5), .int a2] S = _
      rw [c_X11_judge, r2 S rfl, Option.bind_some]
      dsimp only
      rw [if_neg sne, m_isWay', Option.bind_some]
      dsimp only
      rw [zb_t h2, if_pos (show (1 : Int32) ≠ 0 by decide), r2 S rfl, Option.bind_some]
      dsimp only
      rw [if_neg s1, r2 S rfl, Option.bind_some, if_neg hc0]
abbrev zSHs (vs : Nat) (S : zS) : Prop := zSh 39 40 0 vs S ∧ zSh 41 42 1 vs S ∧ zSh 43 44 2 vs S ∧ zSh 45 46 3 vs S ∧ zSh 47 48 4 vs S ∧ zSh 49 50 5 vs S
theorem q_judge (sc : zSc) {n : Nat} {P : Nat → Nat → Nat} {cs : List Int32} {gap ver : Nat} {S : zS} (hC : zCE n P cs gap ver S) (hM : zME n P cs gap none S) {vs : Nat} (hS : zSHs vs S) (hv : vs ≤ 50) (a1 a2 : Int32) :
    zQ n P cs gap ver (zcI sc zm_X10_judge [.ref 0, .int a1, .int a2] S) (fun S => zcI sc zm_X11_judge [.ref 51, .int a1, .int a2] S) S := by
  by_cases h1 : rg a1 5
  case neg =>
    refine ⟨-1, S, S, ?_, ?_, hC, zfr_refl _ _, zfr_refl _ _⟩
    · rw [c_X10_judge, c_X10_registerRefusal, s_isShelf, Option.bind_some]
      dsimp only
      rw [zb_f h1]; rfl
    · show zcI sc zm_X11_judge [.ref 51, .int a1, .int a2] S = _
      rw [c_X11_judge, c_X11_shortsIs, m_isShelf', Option.bind_some]
      dsimp only
      rw [zb_f h1]; rfl
  obtain ⟨d, rfl, hd⟩ := rg_n h1
  rcases (by omega : d = 0 ∨ d = 1 ∨ d = 2 ∨ d = 3 ∨ d = 4 ∨ d = 5) with rfl | rfl | rfl | rfl | rfl | rfl
  · exact q_judge_0 sc hC hM hS.1 hv a2
  · exact q_judge_1 sc hC hM hS.2.1 hv a2
  · exact q_judge_2 sc hC hM hS.2.2.1 hv a2
  · exact q_judge_3 sc hC hM hS.2.2.2.1 hv a2
  · exact q_judge_4 sc hC hM hS.2.2.2.2.1 hv a2
  · exact q_judge_5 sc hC hM hS.2.2.2.2.2 hv a2
