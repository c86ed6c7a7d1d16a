/-! ===== shelves ===== -/
abbrev zSh (C E d vs : Nat) (S : zS) : Prop :=
  S.1 71 d = S.1 C 2 ∧ (∀ i, i < 60 → S.2 72 (60 * d + i) = S.2 E i) ∧
  ((S.1 C 1 = -1 ∧ S.1 C 2 = nI 0 ∧ S.1 C 3 = -1 ∧ S.1 70 d = -1) ∨
   (∃ b, b < vs ∧ S.1 C 1 = -1 ∧ S.1 C 2 = nI 0 ∧ S.1 C 3 = nI b ∧ S.1 70 d = nI b) ∨
   (∃ s m, s < 5 ∧ m ≤ 60 ∧ S.1 C 1 = nI s ∧ S.1 C 2 = nI m ∧ S.1 C 3 = -1 ∧ S.1 70 d = nI (50 + s) ∧ (s < 2 → ∀ i, i < 60 → -32768 ≤ (S.2 E i).toInt ∧ (S.2 E i).toInt ≤ 32767)))
theorem zSh_cg {C E d vs : Nat} {S S' : zS} (h : zSh C E d vs S) (f1 : ∀ i, S'.1 C i = S.1 C i) (f2 : S'.1 71 d = S.1 71 d) (f3 : S'.1 70 d = S.1 70 d) (f4 : S'.2 = S.2) : zSh C E d vs S' := by
  unfold zSh
  rw [f1, f1, f1, f2, f3, f4]
  exact h
theorem nI_m1 {a : Nat} (h : a < 2147483648) : nI a ≠ (-1 : Int32) := by
  intro e
  rw [zi_eq, zi_nI h, show (-1 : Int32).toInt = -1 from rfl] at e
  omega
/-- how a row of registers is refused; 0: it isn't -/
def shR (c : Nat) : Int32 := if c = 0 then 0 else if c = 1 then -11 else -12
/-- the first register that is not so: 0 none, k + 1 the k-th -/
def fwV (m : Nat) (e : Nat → Int64) (mk : Nat → Nat) : Nat → Nat → Nat
  | 0, _ => 0
  | f + 1, k => if m ≤ 2 * k then 0 else if m ≤ 2 * k + 1 then k + 1 else if 0 ≤ (e (2 * k)).toInt ∧ (e (2 * k)).toInt ≤ 9 then (if (mk (e (2 * k)).toInt.toNat : Int) = (e (2 * k + 1)).toInt then fwV m e mk f (k + 1) else k + 1) else k + 1
theorem fwV_le (m : Nat) (e : Nat → Int64) (mk : Nat → Nat) : ∀ f k, fwV m e mk f k ≤ f + k
  | 0, k => Nat.zero_le _
  | f + 1, k => by
    have ih := fwV_le m e mk f (k + 1)
    unfold fwV
    split
    · exact Nat.zero_le _
    · split
      · omega
      · split
        · split <;> omega
        · omega
theorem l_cmp_eq {m : Nat} {x : Int64} (hm : m < 2147483648) : (lg_cmp ((nI m).toInt64) x = 0) = ((m : Int) = x.toInt) := by
  rw [show (lg_cmp ((nI m).toInt64) x = 0) = ((nI m).toInt64 = x) from propext (lg_cmp_eq _ _)]
  refine propext ⟨fun h => ?_, fun h => ?_⟩
  · rw [← h, l32, zi_nI hm]
  · apply Int64.toInt_inj.mp
    rw [l32, zi_nI hm, h]
theorem sh_i32 {x : Int64} (h : -32768 ≤ x.toInt ∧ x.toInt ≤ 32767) : x.toInt32.toInt = x.toInt := by
  rw [Int64.toInt_toInt32]
  exact zi_bmod (by omega) (by omega)
theorem sh_nat {x : Int64} (h : 0 ≤ x.toInt ∧ x.toInt ≤ 9) : x.toInt32 = nI x.toInt.toNat := by
  rw [zi_eq, sh_i32 (by omega), zi_nI (by omega)]
  omega
abbrev fwM (n : Nat) (Q : Nat → Nat → Nat) (cs : List Int32) (gap w l : Nat) : Nat := kcm n Q cs gap none l w 0 n 3 0
/-- the row as the model has it -/
abbrev zRm (d m : Nat) (e : Nat → Int64) (S : zS) : Prop := m ≤ 60 ∧ S.1 71 d = nI m ∧ ∀ i, i < 60 → S.2 72 (60 * d + i) = e i ∧ -32768 ≤ (e i).toInt ∧ (e i).toInt ≤ 32767
abbrev zRc (C E m : Nat) (e : Nat → Int64) (S : zS) : Prop := m ≤ 60 ∧ S.1 C 2 = nI m ∧ ∀ i, i < 60 → S.2 E i = e i ∧ -32768 ≤ (e i).toInt ∧ (e i).toInt ≤ 32767
theorem m_firstFalse_go (sc : zSc) {n : Nat} {Q : Nat → Nat → Nat} {cs : List Int32} {gap w d m : Nat} {e : Nat → Int64} (hr : zPR n Q) (hw : w < 3) (hd : d < 6) : ∀ (f k : Nat) (S : zS) (o4 : Option Value), f + k = 31 → zME n Q cs gap none S → zRm d m e S →
    ∃ S', zO zgI sc (zg1, (zm_X11_firstFalse, 66), 2, S, [some (.ref 51), some (.int (nI d)), some (.int (nI w)), some (.int (nI k)), o4], []) = some (z2 (fwV m e (fwM n Q cs gap w) f k) (fwV m e (fwM n Q cs gap w) f k - 1), S') ∧ zfr zkMq S S' ∧ zME n Q cs gap none S'
  | 0, k, S, o4, hk, hM, hR => by
    have := hR.1
    refine ⟨S, ?_, zfr_refl _ _, hM⟩
    have e2 : (2 : Int32) * nI k = nI (2 * k) := zn_mul 2 k
    rw [e_X11_firstFalse_2, if_neg (by first | (rw [n_ob (by omega)]; omega) | (rw [n_obb (by omega)]; omega)), n_cl (by omega), hR.2.1, e2, if_pos (by rw [n_le (by omega) (by omega)]; omega)]
    rfl
  | f + 1, k, S, o4, hk, hM, hR => by
    have hn := hM.1.2.1
    have hm := hR.1
    have e2 : (2 : Int32) * nI k = nI (2 * k) := zn_mul 2 k
    have e3 : nI (2 * k) + (1 : Int32) = nI (2 * k + 1) := n_s1 _
    have e60 : ((60 : Int32) * nI d) + nI (2 * k) = nI (60 * d + 2 * k) := by rw [show (60 : Int32) * nI d = nI (60 * d) from zn_mul 60 d, zn_add]
    have e61 : nI (60 * d + 2 * k) + (1 : Int32) = nI (60 * d + 2 * k + 1) := n_s1 _
    have ob : ¬ (nI d < 0 ∨ 6 ≤ (nI d).toNatClampNeg) := (by first | (rw [n_ob (by omega)]; omega) | (rw [n_obb (by omega)]; omega))
    have ek : fwV m e (fwM n Q cs gap w) (f + 1) k = if m ≤ 2 * k then 0 else if m ≤ 2 * k + 1 then k + 1 else if 0 ≤ (e (2 * k)).toInt ∧ (e (2 * k)).toInt ≤ 9 then (if (fwM n Q cs gap w (e (2 * k)).toInt.toNat : Int) = (e (2 * k + 1)).toInt then fwV m e (fwM n Q cs gap w) f (k + 1) else k + 1) else k + 1 := rfl
    have zk1 : z2 (k + 1) (k + 1 - 1) = nI k := by rw [show k + 1 - 1 = k by omega]; exact if_neg (by omega)
    rw [e_X11_firstFalse_2, if_neg ob, if_neg ob, n_cl (by omega), hR.2.1, e2, e3, e60, e61, ek]
    by_cases c1 : m ≤ 2 * k
    · rw [if_pos (by rw [n_le (by omega) (by omega)]; omega), if_pos c1]
      exact ⟨S, rfl, zfr_refl _ _, hM⟩
    rw [if_neg (c := nI m ≤ nI (2 * k)) (by rw [n_le (by omega) (by omega)]; omega), if_neg c1]
    by_cases c2 : m ≤ 2 * k + 1
    · rw [if_pos (by rw [n_le (by omega) (by omega)]; omega), if_pos c2, zk1]
      exact ⟨S, rfl, zfr_refl _ _, hM⟩
    have ob3 : ¬ (nI (60 * d + 2 * k) < 0 ∨ 360 ≤ (nI (60 * d + 2 * k)).toNatClampNeg) := (by first | (rw [n_ob (by omega)]; omega) | (rw [n_obb (by omega)]; omega))
    have ob4 : ¬ (nI (60 * d + 2 * k + 1) < 0 ∨ 360 ≤ (nI (60 * d + 2 * k + 1)).toNatClampNeg) := (by first | (rw [n_ob (by omega)]; omega) | (rw [n_obb (by omega)]; omega))
    have r1 := hR.2.2 (2 * k) (by omega)
    have r2 := hR.2.2 (2 * k + 1) (by omega)
    rw [if_neg (c := nI m ≤ nI (2 * k + 1)) (by rw [n_le (by omega) (by omega)]; omega), if_neg c2, if_neg ob3, n_cl (by omega), r1.1, m_isLesson, Option.bind_some]
    dsimp only
    by_cases c3 : 0 ≤ (e (2 * k)).toInt ∧ (e (2 * k)).toInt ≤ 9
    · have el : (e (2 * k)).toInt32 = nI (e (2 * k)).toInt.toNat := sh_nat c3
      obtain ⟨S1, a1, a2, a3, a4⟩ := m_run sc hM hr (l := (e (2 * k)).toInt.toNat) (by omega) hw (lk := 0) (by omega)
      have a1' : zcV sc zm_X11_calls [.ref 51, .int (nI (e (2 * k)).toInt.toNat), .int (nI w), .int (0 : Int32)] S = some S1 := a1
      have hg := (kcm_good (P := Q) (cs := cs) (gap := gap) (o := none) (l := (e (2 * k)).toInt.toNat) (way := w) (lk := 0) hn).1
      have ob5 : ¬ (nI (60 * d + 2 * k) < 0 ∨ 360 ≤ 60 * d + 2 * k) := (by first | (rw [n_ob (by omega)]; omega) | (rw [n_obb (by omega)]; omega))
      have r2' : S1.2 72 (60 * d + 2 * k + 1) = e (2 * k + 1) := by rw [a3.2]; exact r2.1
      rw [zb_t c3, if_pos (by decide), if_pos c3, if_neg ob5, r1.1, el, a1', Option.bind_some, if_neg ob4, n_cl (by omega), r2', a2.2.1, ifc (l_cmp_eq (m := kcm n Q cs gap none (e (2 * k)).toInt.toNat w 0 n 3 0) (x := e (2 * k + 1)) (by omega)), n_s1]
      by_cases c4 : (kcm n Q cs gap none (e (2 * k)).toInt.toNat w 0 n 3 0 : Int) = (e (2 * k + 1)).toInt
      · obtain ⟨S', g1, g2, g3⟩ := m_firstFalse_go sc hr hw hd f (k + 1) S1 (some (.int (nI (60 * d + 2 * k)))) (by omega) a4 ⟨hm, (a3.1 71 d (by rfl)).trans hR.2.1, fun i hi => by rw [a3.2]; exact hR.2.2 i hi⟩
        rw [if_pos c4, if_pos c4]
        exact ⟨S', g1, zfr_tr (zfr_up _ _ a3 rfl) g2, g3⟩
      · rw [if_neg c4, if_neg c4, zk1]
        exact ⟨S1, rfl, zfr_up _ _ a3 rfl, a4⟩
    · rw [zb_f c3, if_neg (fun q => q rfl), if_neg c3, zk1]
      exact ⟨S, rfl, zfr_refl _ _, hM⟩
theorem m_firstFalse (sc : zSc) {n : Nat} {Q : Nat → Nat → Nat} {cs : List Int32} {gap w d m : Nat} {e : Nat → Int64} {S : zS} (hr : zPR n Q) (hw : w < 3) (hd : d < 6) (hM : zME n Q cs gap none S) (hR : zRm d m e S) :
    ∃ S', zcI sc zm_X11_firstFalse [.ref 51, .int (nI d), .int (nI w)] S = some (z2 (fwV m e (fwM n Q cs gap w) 31 0) (fwV m e (fwM n Q cs gap w) 31 0 - 1), S') ∧ zfr zkMq S S' ∧ zME n Q cs gap none S' := by
  obtain ⟨S', g1, g2, g3⟩ := m_firstFalse_go sc hr hw hd 31 0 S none (by omega) hM hR
  exact ⟨S', (c_X11_firstFalse sc S _ _).trans g1, g2, g3⟩
theorem sh_has_39 (sc : zSc) {S : zS} {m i k : Nat} (h : S.1 39 2 = nI m) (hm : m ≤ 60) (hi : i < 1000) (hk : k < 1000) : zcI sc zm_X6_has [.ref 39, .int (nI i), .int (nI k)] S = some (zb (i + k ≤ m), S) := by
  rw [c_X6_has_39, h, if_neg (by rw [n_lt0 (by omega)]; exact id), if_neg (by rw [n_lt0 (by omega)]; exact id), ifc (n_lt (a := m) (b := k) (by omega) (by omega))]
  by_cases c : m < k
  · rw [if_pos c, zb_f (by omega)]
  · rw [if_neg c, zn_sub (by omega), ifc (n_lt (a := m - k) (b := i) (by omega) (by omega))]
    by_cases q : m - k < i
    · rw [if_pos q, zb_f (by omega)]
    · rw [if_neg q, zb_t (by omega)]
theorem sh_get_39 (sc : zSc) {S : zS} {m i : Nat} (h : S.1 39 2 = nI m) (hm : m ≤ 60) (hi : i < 1000) : zcL sc zm_X6_get [.ref 39, .int (nI i)] S = some (if i + 1 ≤ m then S.2 40 i else 0, S) := by
  have e1 : zcI sc zm_X6_has [.ref 39, .int (nI i), .int (1 : Int32)] S = some (zb (i + 1 ≤ m), S) := sh_has_39 sc h hm hi (k := 1) (by omega)
  rw [c_X6_get_39, e1, Option.bind_some]
  dsimp only
  by_cases c : i + 1 ≤ m
  · rw [zb_t c, if_neg (by decide), if_neg (by first | (rw [n_ob (by omega)]; omega) | (rw [n_obb (by omega)]; omega)), n_cl (by omega), if_pos c]
  · rw [zb_f c, if_pos rfl, if_neg c]; rfl
theorem c_firstWrong_39_go (sc : zSc) {n : Nat} {P Q : Nat → Nat → Nat} {cs : List Int32} {gap ver w m : Nat} {e : Nat → Int64} (h7 : ∀ q, Q q 7 = P q 7) : ∀ (f k : Nat) (S : zS) (o3 : Option Value), f + k = 31 → zRY n w P Q cs gap ver S → zRc 39 40 m e S →
    ∃ S', zO zgI sc (zg1, (zm_X5_firstWrong, 6), 2, S, [some (.ref 23), some (.ref 39), some (.int (nI k)), o3], []) = some (z2 (fwV m e (fwM n Q cs gap w) f k) (fwV m e (fwM n Q cs gap w) f k - 1), S') ∧ zRY n w P Q cs gap ver S' ∧ zfr zkC S S'
  | 0, k, S, o3, hk, hC, hR => by
    have := hR.1
    refine ⟨S, ?_, hC, zfr_refl _ _⟩
    have e2 : nI k * (2 : Int32) = nI (k * 2) := zn_mul k 2
    rw [e_X5_firstWrong_39_2, hR.2.1, e2, if_pos (by rw [n_le (by omega) (by omega)]; omega)]
    rfl
  | f + 1, k, S, o3, hk, hC, hR => by
    have hn := hC.1.1.2.1
    have hm := hR.1
    have e2 : nI k * (2 : Int32) = nI (2 * k) := by rw [show nI k * (2 : Int32) = nI (k * 2) from zn_mul k 2, Nat.mul_comm]
    have e3 : nI (2 * k) + (1 : Int32) = nI (2 * k + 1) := n_s1 _
    have ek : fwV m e (fwM n Q cs gap w) (f + 1) k = if m ≤ 2 * k then 0 else if m ≤ 2 * k + 1 then k + 1 else if 0 ≤ (e (2 * k)).toInt ∧ (e (2 * k)).toInt ≤ 9 then (if (fwM n Q cs gap w (e (2 * k)).toInt.toNat : Int) = (e (2 * k + 1)).toInt then fwV m e (fwM n Q cs gap w) f (k + 1) else k + 1) else k + 1 := rfl
    have zk1 : z2 (k + 1) (k + 1 - 1) = nI k := by rw [show k + 1 - 1 = k by omega]; exact if_neg (by omega)
    have hh : zcI sc zm_X6_has [.ref 39, .int (nI (2 * k)), .int (2 : Int32)] S = some (zb (2 * k + 2 ≤ m), S) := sh_has_39 sc hR.2.1 hm (i := 2 * k) (k := 2) (by omega) (by omega)
    rw [e_X5_firstWrong_39_2, hR.2.1, e2, e3, ek]
    by_cases c1 : m ≤ 2 * k
    · rw [if_pos (by rw [n_le (by omega) (by omega)]; omega), if_pos c1]
      exact ⟨S, rfl, hC, zfr_refl _ _⟩
    rw [if_neg (c := nI m ≤ nI (2 * k)) (by rw [n_le (by omega) (by omega)]; omega), if_neg c1, sh_get_39 sc hR.2.1 hm (i := 2 * k) (by omega), Option.bind_some]
    dsimp only
    rw [hh, Option.bind_some]
    dsimp only
    by_cases c2 : m ≤ 2 * k + 1
    · rw [zb_f (by omega), if_pos rfl, if_pos c2, zk1]
      exact ⟨S, rfl, hC, zfr_refl _ _⟩
    have r1 := hR.2.2 (2 * k) (by omega)
    have r2 := hR.2.2 (2 * k + 1) (by omega)
    rw [zb_t (by omega), if_neg (show ¬ ((1 : Int32) = 0) by decide), if_neg c2, if_pos (show 2 * k + 1 ≤ m by omega), r1.1, s_isLesson, Option.bind_some]
    dsimp only
    by_cases c3 : 0 ≤ (e (2 * k)).toInt ∧ (e (2 * k)).toInt ≤ 9
    · have el : (e (2 * k)).toInt32 = nI (e (2 * k)).toInt.toNat := sh_nat c3
      have c3' : rg ((e (2 * k)).toInt32) 9 := by unfold rg; rw [sh_i32 r1.2]; exact c3
      obtain ⟨S2, b1, b2, b3, b4, b5⟩ := c_inLesson sc hC (l := (e (2 * k)).toInt.toNat) (by omega)
      obtain ⟨S3, d1, d2, d3, d4, d5, d6, _⟩ := c_makeL sc b2 b3 (fun q k => by rw [h7]; exact b4 q k) (lk := 0) (by omega)
      have d1' : zcV sc zm_X0_make [.ref 12, .int (0 : Int32)] S2 = some S3 := d1
      have hg := (kcm_good (P := Q) (cs := cs) (gap := gap) (o := none) (l := (e (2 * k)).toInt.toNat) (way := w) (lk := 0) hn).1
      have f3 : zfr zkC S S3 := zfr_tr b5 d6
      have hR3 : zRc 39 40 m e S3 := ⟨hm, (f3.1 39 2 rfl).trans hR.2.1, fun i hi => by rw [f3.2]; exact hR.2.2 i hi⟩
      rw [zb_t c3', if_pos (by decide), if_pos c3, el, b1, Option.bind_some, d1', Option.bind_some, sh_get_39 sc hR3.2.1 hm (i := 2 * k + 1) (by omega), Option.bind_some, d2.1]
      dsimp only
      rw [if_pos (show 2 * k + 1 + 1 ≤ m by omega), (hR3.2.2 (2 * k + 1) (by omega)).1, ifc (l_cmp_eq (m := kcm n Q cs gap none (e (2 * k)).toInt.toNat w 0 n 3 0) (x := e (2 * k + 1)) (by omega)), n_s1]
      by_cases c4 : (kcm n Q cs gap none (e (2 * k)).toInt.toNat w 0 n 3 0 : Int) = (e (2 * k + 1)).toInt
      · obtain ⟨S', g1, g2, g3⟩ := c_firstWrong_39_go sc h7 f (k + 1) S3 (some (.int (nI (e (2 * k)).toInt.toNat))) (by omega) d3 hR3
        rw [if_pos c4, if_pos c4]
        exact ⟨S', g1, g2, zfr_tr f3 g3⟩
      · rw [if_neg c4, if_neg c4, zk1]
        exact ⟨S3, rfl, d3, f3⟩
    · have c3' : ¬ rg ((e (2 * k)).toInt32) 9 := by unfold rg; rw [sh_i32 r1.2]; exact c3
      rw [zb_f c3', if_neg (fun q => q rfl), if_neg c3, zk1]
      exact ⟨S, rfl, hC, zfr_refl _ _⟩
theorem c_firstWrong_39 (sc : zSc) {n : Nat} {P Q : Nat → Nat → Nat} {cs : List Int32} {gap ver w m : Nat} {e : Nat → Int64} {S : zS} (h7 : ∀ q, Q q 7 = P q 7) (hC : zRY n w P Q cs gap ver S) (hR : zRc 39 40 m e S) :
    ∃ S', zcI sc zm_X5_firstWrong [.ref 23, .ref 39] S = some (z2 (fwV m e (fwM n Q cs gap w) 31 0) (fwV m e (fwM n Q cs gap w) 31 0 - 1), S') ∧ zRY n w P Q cs gap ver S' ∧ zfr zkC S S' := by
  obtain ⟨S', g1, g2, g3⟩ := c_firstWrong_39_go sc h7 31 0 S none (by omega) hC hR
  exact ⟨S', (c_X5_firstWrong_39 sc S).trans g1, g2, g3⟩
theorem sh_has_41 (sc : zSc) {S : zS} {m i k : Nat} (h : S.1 41 2 = nI m) (hm : m ≤ 60) (hi : i < 1000) (hk : k < 1000) : zcI sc zm_X6_has [.ref 41, .int (nI i), .int (nI k)] S = some (zb (i + k ≤ m), S) := by
  rw [c_X6_has_41, h, if_neg (by rw [n_lt0 (by omega)]; exact id), if_neg (by rw [n_lt0 (by omega)]; exact id), ifc (n_lt (a := m) (b := k) (by omega) (by omega))]
  by_cases c : m < k
  · rw [if_pos c, zb_f (by omega)]
  · rw [if_neg c, zn_sub (by omega), ifc (n_lt (a := m - k) (b := i) (by omega) (by omega))]
    by_cases q : m - k < i
    · rw [if_pos q, zb_f (by omega)]
    · rw [if_neg q, zb_t (by omega)]
theorem sh_get_41 (sc : zSc) {S : zS} {m i : Nat} (h : S.1 41 2 = nI m) (hm : m ≤ 60) (hi : i < 1000) : zcL sc zm_X6_get [.ref 41, .int (nI i)] S = some (if i + 1 ≤ m then S.2 42 i else 0, S) := by
  have e1 : zcI sc zm_X6_has [.ref 41, .int (nI i), .int (1 : Int32)] S = some (zb (i + 1 ≤ m), S) := sh_has_41 sc h hm hi (k := 1) (by omega)
  rw [c_X6_get_41, e1, Option.bind_some]
  dsimp only
  by_cases c : i + 1 ≤ m
  · rw [zb_t c, if_neg (by decide), if_neg (by first | (rw [n_ob (by omega)]; omega) | (rw [n_obb (by omega)]; omega)), n_cl (by omega), if_pos c]
  · rw [zb_f c, if_pos rfl, if_neg c]; rfl
theorem c_firstWrong_41_go (sc : zSc) {n : Nat} {P Q : Nat → Nat → Nat} {cs : List Int32} {gap ver w m : Nat} {e : Nat → Int64} (h7 : ∀ q, Q q 7 = P q 7) : ∀ (f k : Nat) (S : zS) (o3 : Option Value), f + k = 31 → zRY n w P Q cs gap ver S → zRc 41 42 m e S →
    ∃ S', zO zgI sc (zg1, (zm_X5_firstWrong, 6), 2, S, [some (.ref 23), some (.ref 41), some (.int (nI k)), o3], []) = some (z2 (fwV m e (fwM n Q cs gap w) f k) (fwV m e (fwM n Q cs gap w) f k - 1), S') ∧ zRY n w P Q cs gap ver S' ∧ zfr zkC S S'
  | 0, k, S, o3, hk, hC, hR => by
    have := hR.1
    refine ⟨S, ?_, hC, zfr_refl _ _⟩
    have e2 : nI k * (2 : Int32) = nI (k * 2) := zn_mul k 2
    rw [e_X5_firstWrong_41_2, hR.2.1, e2, if_pos (by rw [n_le (by omega) (by omega)]; omega)]
    rfl
  | f + 1, k, S, o3, hk, hC, hR => by
    have hn := hC.1.1.2.1
    have hm := hR.1
    have e2 : nI k * (2 : Int32) = nI (2 * k) := by rw [show nI k * (2 : Int32) = nI (k * 2) from zn_mul k 2, Nat.mul_comm]
    have e3 : nI (2 * k) + (1 : Int32) = nI (2 * k + 1) := n_s1 _
    have ek : fwV m e (fwM n Q cs gap w) (f + 1) k = if m ≤ 2 * k then 0 else if m ≤ 2 * k + 1 then k + 1 else if 0 ≤ (e (2 * k)).toInt ∧ (e (2 * k)).toInt ≤ 9 then (if (fwM n Q cs gap w (e (2 * k)).toInt.toNat : Int) = (e (2 * k + 1)).toInt then fwV m e (fwM n Q cs gap w) f (k + 1) else k + 1) else k + 1 := rfl
    have zk1 : z2 (k + 1) (k + 1 - 1) = nI k := by rw [show k + 1 - 1 = k by omega]; exact if_neg (by omega)
    have hh : zcI sc zm_X6_has [.ref 41, .int (nI (2 * k)), .int (2 : Int32)] S = some (zb (2 * k + 2 ≤ m), S) := sh_has_41 sc hR.2.1 hm (i := 2 * k) (k := 2) (by omega) (by omega)
    rw [e_X5_firstWrong_41_2, hR.2.1, e2, e3, ek]
    by_cases c1 : m ≤ 2 * k
    · rw [if_pos (by rw [n_le (by omega) (by omega)]; omega), if_pos c1]
      exact ⟨S, rfl, hC, zfr_refl _ _⟩
    rw [if_neg (c := nI m ≤ nI (2 * k)) (by rw [n_le (by omega) (by omega)]; omega), if_neg c1, sh_get_41 sc hR.2.1 hm (i := 2 * k) (by omega), Option.bind_some]
    dsimp only
    rw [hh, Option.bind_some]
    dsimp only
    by_cases c2 : m ≤ 2 * k + 1
    · rw [zb_f (by omega), if_pos rfl, if_pos c2, zk1]
      exact ⟨S, rfl, hC, zfr_refl _ _⟩
    have r1 := hR.2.2 (2 * k) (by omega)
    have r2 := hR.2.2 (2 * k + 1) (by omega)
    rw [zb_t (by omega), if_neg (show ¬ ((1 : Int32) = 0) by decide), if_neg c2, if_pos (show 2 * k + 1 ≤ m by omega), r1.1, s_isLesson, Option.bind_some]
    dsimp only
    by_cases c3 : 0 ≤ (e (2 * k)).toInt ∧ (e (2 * k)).toInt ≤ 9
    · have el : (e (2 * k)).toInt32 = nI (e (2 * k)).toInt.toNat := sh_nat c3
      have c3' : rg ((e (2 * k)).toInt32) 9 := by unfold rg; rw [sh_i32 r1.2]; exact c3
      obtain ⟨S2, b1, b2, b3, b4, b5⟩ := c_inLesson sc hC (l := (e (2 * k)).toInt.toNat) (by omega)
      obtain ⟨S3, d1, d2, d3, d4, d5, d6, _⟩ := c_makeL sc b2 b3 (fun q k => by rw [h7]; exact b4 q k) (lk := 0) (by omega)
      have d1' : zcV sc zm_X0_make [.ref 12, .int (0 : Int32)] S2 = some S3 := d1
      have hg := (kcm_good (P := Q) (cs := cs) (gap := gap) (o := none) (l := (e (2 * k)).toInt.toNat) (way := w) (lk := 0) hn).1
      have f3 : zfr zkC S S3 := zfr_tr b5 d6
      have hR3 : zRc 41 42 m e S3 := ⟨hm, (f3.1 41 2 rfl).trans hR.2.1, fun i hi => by rw [f3.2]; exact hR.2.2 i hi⟩
      rw [zb_t c3', if_pos (by decide), if_pos c3, el, b1, Option.bind_some, d1', Option.bind_some, sh_get_41 sc hR3.2.1 hm (i := 2 * k + 1) (by omega), Option.bind_some, d2.1]
      dsimp only
      rw [if_pos (show 2 * k + 1 + 1 ≤ m by omega), (hR3.2.2 (2 * k + 1) (by omega)).1, ifc (l_cmp_eq (m := kcm n Q cs gap none (e (2 * k)).toInt.toNat w 0 n 3 0) (x := e (2 * k + 1)) (by omega)), n_s1]
      by_cases c4 : (kcm n Q cs gap none (e (2 * k)).toInt.toNat w 0 n 3 0 : Int) = (e (2 * k + 1)).toInt
      · obtain ⟨S', g1, g2, g3⟩ := c_firstWrong_41_go sc h7 f (k + 1) S3 (some (.int (nI (e (2 * k)).toInt.toNat))) (by omega) d3 hR3
        rw [if_pos c4, if_pos c4]
        exact ⟨S', g1, g2, zfr_tr f3 g3⟩
      · rw [if_neg c4, if_neg c4, zk1]
        exact ⟨S3, rfl, d3, f3⟩
    · have c3' : ¬ rg ((e (2 * k)).toInt32) 9 := by unfold rg; rw [sh_i32 r1.2]; exact c3
      rw [zb_f c3', if_neg (fun q => q rfl), if_neg c3, zk1]
      exact ⟨S, rfl, hC, zfr_refl _ _⟩
theorem c_firstWrong_41 (sc : zSc) {n : Nat} {P Q : Nat → Nat → Nat} {cs : List Int32} {gap ver w m : Nat} {e : Nat → Int64} {S : zS} (h7 : ∀ q, Q q 7 = P q 7) (hC : zRY n w P Q cs gap ver S) (hR : zRc 41 42 m e S) :
    ∃ S', zcI sc zm_X5_firstWrong [.ref 23, .ref 41] S = some (z2 (fwV m e (fwM n Q cs gap w) 31 0) (fwV m e (fwM n Q cs gap w) 31 0 - 1), S') ∧ zRY n w P Q cs gap ver S' ∧ zfr zkC S S' := by
  obtain ⟨S', g1, g2, g3⟩ := c_firstWrong_41_go sc h7 31 0 S none (by omega) hC hR
  exact ⟨S', (c_X5_firstWrong_41 sc S).trans g1, g2, g3⟩
theorem sh_has_43 (sc : zSc) {S : zS} {m i k : Nat} (h : S.1 43 2 = nI m) (hm : m ≤ 60) (hi : i < 1000) (hk : k < 1000) : zcI sc zm_X6_has [.ref 43, .int (nI i), .int (nI k)] S = some (zb (i + k ≤ m), S) := by
  rw [c_X6_has_43, h, if_neg (by rw [n_lt0 (by omega)]; exact id), if_neg (by rw [n_lt0 (by omega)]; exact id), ifc (n_lt (a := m) (b := k) (by omega) (by omega))]
  by_cases c : m < k
  · rw [if_pos c, zb_f (by omega)]
  · rw [if_neg c, zn_sub (by omega), ifc (n_lt (a := m - k) (b := i) (by omega) (by omega))]
    by_cases q : m - k < i
    · rw [if_pos q, zb_f (by omega)]
    · rw [if_neg q, zb_t (by omega)]
theorem sh_get_43 (sc : zSc) {S : zS} {m i : Nat} (h : S.1 43 2 = nI m) (hm : m ≤ 60) (hi : i < 1000) : zcL sc zm_X6_get [.ref 43, .int (nI i)] S = some (if i + 1 ≤ m then S.2 44 i else 0, S) := by
  have e1 : zcI sc zm_X6_has [.ref 43, .int (nI i), .int (1 : Int32)] S = some (zb (i + 1 ≤ m), S) := sh_has_43 sc h hm hi (k := 1) (by omega)
  rw [c_X6_get_43, e1, Option.bind_some]
  dsimp only
  by_cases c : i + 1 ≤ m
  · rw [zb_t c, if_neg (by decide), if_neg (by first | (rw [n_ob (by omega)]; omega) | (rw [n_obb (by omega)]; omega)), n_cl (by omega), if_pos c]
  · rw [zb_f c, if_pos rfl, if_neg c]; rfl
theorem c_firstWrong_43_go (sc : zSc) {n : Nat} {P Q : Nat → Nat → Nat} {cs : List Int32} {gap ver w m : Nat} {e : Nat → Int64} (h7 : ∀ q, Q q 7 = P q 7) : ∀ (f k : Nat) (S : zS) (o3 : Option Value), f + k = 31 → zRY n w P Q cs gap ver S → zRc 43 44 m e S →
    ∃ S', zO zgI sc (zg1, (zm_X5_firstWrong, 6), 2, S, [some (.ref 23), some (.ref 43), some (.int (nI k)), o3], []) = some (z2 (fwV m e (fwM n Q cs gap w) f k) (fwV m e (fwM n Q cs gap w) f k - 1), S') ∧ zRY n w P Q cs gap ver S' ∧ zfr zkC S S'
  | 0, k, S, o3, hk, hC, hR => by
    have := hR.1
    refine ⟨S, ?_, hC, zfr_refl _ _⟩
    have e2 : nI k * (2 : Int32) = nI (k * 2) := zn_mul k 2
    rw [e_X5_firstWrong_43_2, hR.2.1, e2, if_pos (by rw [n_le (by omega) (by omega)]; omega)]
    rfl
  | f + 1, k, S, o3, hk, hC, hR => by
    have hn := hC.1.1.2.1
    have hm := hR.1
    have e2 : nI k * (2 : Int32) = nI (2 * k) := by rw [show nI k * (2 : Int32) = nI (k * 2) from zn_mul k 2, Nat.mul_comm]
    have e3 : nI (2 * k) + (1 : Int32) = nI (2 * k + 1) := n_s1 _
    have ek : fwV m e (fwM n Q cs gap w) (f + 1) k = if m ≤ 2 * k then 0 else if m ≤ 2 * k + 1 then k + 1 else if 0 ≤ (e (2 * k)).toInt ∧ (e (2 * k)).toInt ≤ 9 then (if (fwM n Q cs gap w (e (2 * k)).toInt.toNat : Int) = (e (2 * k + 1)).toInt then fwV m e (fwM n Q cs gap w) f (k + 1) else k + 1) else k + 1 := rfl
    have zk1 : z2 (k + 1) (k + 1 - 1) = nI k := by rw [show k + 1 - 1 = k by omega]; exact if_neg (by omega)
    have hh : zcI sc zm_X6_has [.ref 43, .int (nI (2 * k)), .int (2 : Int32)] S = some (zb (2 * k + 2 ≤ m), S) := sh_has_43 sc hR.2.1 hm (i := 2 * k) (k := 2) (by omega) (by omega)
    rw [e_X5_firstWrong_43_2, hR.2.1, e2, e3, ek]
    by_cases c1 : m ≤ 2 * k
    · rw [if_pos (by rw [n_le (by omega) (by omega)]; omega), if_pos c1]
      exact ⟨S, rfl, hC, zfr_refl _ _⟩
    rw [if_neg (c := nI m ≤ nI (2 * k)) (by rw [n_le (by omega) (by omega)]; omega), if_neg c1, sh_get_43 sc hR.2.1 hm (i := 2 * k) (by omega), Option.bind_some]
    dsimp only
    rw [hh, Option.bind_some]
    dsimp only
    by_cases c2 : m ≤ 2 * k + 1
    · rw [zb_f (by omega), if_pos rfl, if_pos c2, zk1]
      exact ⟨S, rfl, hC, zfr_refl _ _⟩
    have r1 := hR.2.2 (2 * k) (by omega)
    have r2 := hR.2.2 (2 * k + 1) (by omega)
    rw [zb_t (by omega), if_neg (show ¬ ((1 : Int32) = 0) by decide), if_neg c2, if_pos (show 2 * k + 1 ≤ m by omega), r1.1, s_isLesson, Option.bind_some]
    dsimp only
    by_cases c3 : 0 ≤ (e (2 * k)).toInt ∧ (e (2 * k)).toInt ≤ 9
    · have el : (e (2 * k)).toInt32 = nI (e (2 * k)).toInt.toNat := sh_nat c3
      have c3' : rg ((e (2 * k)).toInt32) 9 := by unfold rg; rw [sh_i32 r1.2]; exact c3
      obtain ⟨S2, b1, b2, b3, b4, b5⟩ := c_inLesson sc hC (l := (e (2 * k)).toInt.toNat) (by omega)
      obtain ⟨S3, d1, d2, d3, d4, d5, d6, _⟩ := c_makeL sc b2 b3 (fun q k => by rw [h7]; exact b4 q k) (lk := 0) (by omega)
      have d1' : zcV sc zm_X0_make [.ref 12, .int (0 : Int32)] S2 = some S3 := d1
      have hg := (kcm_good (P := Q) (cs := cs) (gap := gap) (o := none) (l := (e (2 * k)).toInt.toNat) (way := w) (lk := 0) hn).1
      have f3 : zfr zkC S S3 := zfr_tr b5 d6
      have hR3 : zRc 43 44 m e S3 := ⟨hm, (f3.1 43 2 rfl).trans hR.2.1, fun i hi => by rw [f3.2]; exact hR.2.2 i hi⟩
      rw [zb_t c3', if_pos (by decide), if_pos c3, el, b1, Option.bind_some, d1', Option.bind_some, sh_get_43 sc hR3.2.1 hm (i := 2 * k + 1) (by omega), Option.bind_some, d2.1]
      dsimp only
      rw [if_pos (show 2 * k + 1 + 1 ≤ m by omega), (hR3.2.2 (2 * k + 1) (by omega)).1, ifc (l_cmp_eq (m := kcm n Q cs gap none (e (2 * k)).toInt.toNat w 0 n 3 0) (x := e (2 * k + 1)) (by omega)), n_s1]
      by_cases c4 : (kcm n Q cs gap none (e (2 * k)).toInt.toNat w 0 n 3 0 : Int) = (e (2 * k + 1)).toInt
      · obtain ⟨S', g1, g2, g3⟩ := c_firstWrong_43_go sc h7 f (k + 1) S3 (some (.int (nI (e (2 * k)).toInt.toNat))) (by omega) d3 hR3
        rw [if_pos c4, if_pos c4]
        exact ⟨S', g1, g2, zfr_tr f3 g3⟩
      · rw [if_neg c4, if_neg c4, zk1]
        exact ⟨S3, rfl, d3, f3⟩
    · have c3' : ¬ rg ((e (2 * k)).toInt32) 9 := by unfold rg; rw [sh_i32 r1.2]; exact c3
      rw [zb_f c3', if_neg (fun q => q rfl), if_neg c3, zk1]
      exact ⟨S, rfl, hC, zfr_refl _ _⟩
theorem c_firstWrong_43 (sc : zSc) {n : Nat} {P Q : Nat → Nat → Nat} {cs : List Int32} {gap ver w m : Nat} {e : Nat → Int64} {S : zS} (h7 : ∀ q, Q q 7 = P q 7) (hC : zRY n w P Q cs gap ver S) (hR : zRc 43 44 m e S) :
    ∃ S', zcI sc zm_X5_firstWrong [.ref 23, .ref 43] S = some (z2 (fwV m e (fwM n Q cs gap w) 31 0) (fwV m e (fwM n Q cs gap w) 31 0 - 1), S') ∧ zRY n w P Q cs gap ver S' ∧ zfr zkC S S' := by
  obtain ⟨S', g1, g2, g3⟩ := c_firstWrong_43_go sc h7 31 0 S none (by omega) hC hR
  exact ⟨S', (c_X5_firstWrong_43 sc S).trans g1, g2, g3⟩
theorem sh_has_45 (sc : zSc) {S : zS} {m i k : Nat} (h : S.1 45 2 = nI m) (hm : m ≤ 60) (hi : i < 1000) (hk : k < 1000) : zcI sc zm_X6_has [.ref 45, .int (nI i), .int (nI k)] S = some (zb (i + k ≤ m), S) := by
  rw [c_X6_has_45, h, if_neg (by rw [n_lt0 (by omega)]; exact id), if_neg (by rw [n_lt0 (by omega)]; exact id), ifc (n_lt (a := m) (b := k) (by omega) (by omega))]
  by_cases c : m < k
  · rw [if_pos c, zb_f (by omega)]
  · rw [if_neg c, zn_sub (by omega), ifc (n_lt (a := m - k) (b := i) (by omega) (by omega))]
    by_cases q : m - k < i
    · rw [if_pos q, zb_f (by omega)]
    · rw [if_neg q, zb_t (by omega)]
theorem sh_get_45 (sc : zSc) {S : zS} {m i : Nat} (h : S.1 45 2 = nI m) (hm : m ≤ 60) (hi : i < 1000) : zcL sc zm_X6_get [.ref 45, .int (nI i)] S = some (if i + 1 ≤ m then S.2 46 i else 0, S) := by
  have e1 : zcI sc zm_X6_has [.ref 45, .int (nI i), .int (1 : Int32)] S = some (zb (i + 1 ≤ m), S) := sh_has_45 sc h hm hi (k := 1) (by omega)
  rw [c_X6_get_45, e1, Option.bind_some]
  dsimp only
  by_cases c : i + 1 ≤ m
  · rw [zb_t c, if_neg (by decide), if_neg (by first | (rw [n_ob (by omega)]; omega) | (rw [n_obb (by omega)]; omega)), n_cl (by omega), if_pos c]
  · rw [zb_f c, if_pos rfl, if_neg c]; rfl
theorem c_firstWrong_45_go (sc : zSc) {n : Nat} {P Q : Nat → Nat → Nat} {cs : List Int32} {gap ver w m : Nat} {e : Nat → Int64} (h7 : ∀ q, Q q 7 = P q 7) : ∀ (f k : Nat) (S : zS) (o3 : Option Value), f + k = 31 → zRY n w P Q cs gap ver S → zRc 45 46 m e S →
    ∃ S', zO zgI sc (zg1, (zm_X5_firstWrong, 6), 2, S, [some (.ref 23), some (.ref 45), some (.int (nI k)), o3], []) = some (z2 (fwV m e (fwM n Q cs gap w) f k) (fwV m e (fwM n Q cs gap w) f k - 1), S') ∧ zRY n w P Q cs gap ver S' ∧ zfr zkC S S'
  | 0, k, S, o3, hk, hC, hR => by
    have := hR.1
    refine ⟨S, ?_, hC, zfr_refl _ _⟩
    have e2 : nI k * (2 : Int32) = nI (k * 2) := zn_mul k 2
    rw [e_X5_firstWrong_45_2, hR.2.1, e2, if_pos (by rw [n_le (by omega) (by omega)]; omega)]
    rfl
  | f + 1, k, S, o3, hk, hC, hR => by
    have hn := hC.1.1.2.1
    have hm := hR.1
    have e2 : nI k * (2 : Int32) = nI (2 * k) := by rw [show nI k * (2 : Int32) = nI (k * 2) from zn_mul k 2, Nat.mul_comm]
    have e3 : nI (2 * k) + (1 : Int32) = nI (2 * k + 1) := n_s1 _
    have ek : fwV m e (fwM n Q cs gap w) (f + 1) k = if m ≤ 2 * k then 0 else if m ≤ 2 * k + 1 then k + 1 else if 0 ≤ (e (2 * k)).toInt ∧ (e (2 * k)).toInt ≤ 9 then (if (fwM n Q cs gap w (e (2 * k)).toInt.toNat : Int) = (e (2 * k + 1)).toInt then fwV m e (fwM n Q cs gap w) f (k + 1) else k + 1) else k + 1 := rfl
    have zk1 : z2 (k + 1) (k + 1 - 1) = nI k := by rw [show k + 1 - 1 = k by omega]; exact if_neg (by omega)
    have hh : zcI sc zm_X6_has [.ref 45, .int (nI (2 * k)), .int (2 : Int32)] S = some (zb (2 * k + 2 ≤ m), S) := sh_has_45 sc hR.2.1 hm (i := 2 * k) (k := 2) (by omega) (by omega)
    rw [e_X5_firstWrong_45_2, hR.2.1, e2, e3, ek]
    by_cases c1 : m ≤ 2 * k
    · rw [if_pos (by rw [n_le (by omega) (by omega)]; omega), if_pos c1]
      exact ⟨S, rfl, hC, zfr_refl _ _⟩
    rw [if_neg (c := nI m ≤ nI (2 * k)) (by rw [n_le (by omega) (by omega)]; omega), if_neg c1, sh_get_45 sc hR.2.1 hm (i := 2 * k) (by omega), Option.bind_some]
    dsimp only
    rw [hh, Option.bind_some]
    dsimp only
    by_cases c2 : m ≤ 2 * k + 1
    · rw [zb_f (by omega), if_pos rfl, if_pos c2, zk1]
      exact ⟨S, rfl, hC, zfr_refl _ _⟩
    have r1 := hR.2.2 (2 * k) (by omega)
    have r2 := hR.2.2 (2 * k + 1) (by omega)
    rw [zb_t (by omega), if_neg (show ¬ ((1 : Int32) = 0) by decide), if_neg c2, if_pos (show 2 * k + 1 ≤ m by omega), r1.1, s_isLesson, Option.bind_some]
    dsimp only
    by_cases c3 : 0 ≤ (e (2 * k)).toInt ∧ (e (2 * k)).toInt ≤ 9
    · have el : (e (2 * k)).toInt32 = nI (e (2 * k)).toInt.toNat := sh_nat c3
      have c3' : rg ((e (2 * k)).toInt32) 9 := by unfold rg; rw [sh_i32 r1.2]; exact c3
      obtain ⟨S2, b1, b2, b3, b4, b5⟩ := c_inLesson sc hC (l := (e (2 * k)).toInt.toNat) (by omega)
      obtain ⟨S3, d1, d2, d3, d4, d5, d6, _⟩ := c_makeL sc b2 b3 (fun q k => by rw [h7]; exact b4 q k) (lk := 0) (by omega)
      have d1' : zcV sc zm_X0_make [.ref 12, .int (0 : Int32)] S2 = some S3 := d1
      have hg := (kcm_good (P := Q) (cs := cs) (gap := gap) (o := none) (l := (e (2 * k)).toInt.toNat) (way := w) (lk := 0) hn).1
      have f3 : zfr zkC S S3 := zfr_tr b5 d6
      have hR3 : zRc 45 46 m e S3 := ⟨hm, (f3.1 45 2 rfl).trans hR.2.1, fun i hi => by rw [f3.2]; exact hR.2.2 i hi⟩
      rw [zb_t c3', if_pos (by decide), if_pos c3, el, b1, Option.bind_some, d1', Option.bind_some, sh_get_45 sc hR3.2.1 hm (i := 2 * k + 1) (by omega), Option.bind_some, d2.1]
      dsimp only
      rw [if_pos (show 2 * k + 1 + 1 ≤ m by omega), (hR3.2.2 (2 * k + 1) (by omega)).1, ifc (l_cmp_eq (m := kcm n Q cs gap none (e (2 * k)).toInt.toNat w 0 n 3 0) (x := e (2 * k + 1)) (by omega)), n_s1]
      by_cases c4 : (kcm n Q cs gap none (e (2 * k)).toInt.toNat w 0 n 3 0 : Int) = (e (2 * k + 1)).toInt
      · obtain ⟨S', g1, g2, g3⟩ := c_firstWrong_45_go sc h7 f (k + 1) S3 (some (.int (nI (e (2 * k)).toInt.toNat))) (by omega) d3 hR3
        rw [if_pos c4, if_pos c4]
        exact ⟨S', g1, g2, zfr_tr f3 g3⟩
      · rw [if_neg c4, if_neg c4, zk1]
        exact ⟨S3, rfl, d3, f3⟩
    · have c3' : ¬ rg ((e (2 * k)).toInt32) 9 := by unfold rg; rw [sh_i32 r1.2]; exact c3
      rw [zb_f c3', if_neg (fun q => q rfl), if_neg c3, zk1]
      exact ⟨S, rfl, hC, zfr_refl _ _⟩
theorem c_firstWrong_45 (sc : zSc) {n : Nat} {P Q : Nat → Nat → Nat} {cs : List Int32} {gap ver w m : Nat} {e : Nat → Int64} {S : zS} (h7 : ∀ q, Q q 7 = P q 7) (hC : zRY n w P Q cs gap ver S) (hR : zRc 45 46 m e S) :
    ∃ S', zcI sc zm_X5_firstWrong [.ref 23, .ref 45] S = some (z2 (fwV m e (fwM n Q cs gap w) 31 0) (fwV m e (fwM n Q cs gap w) 31 0 - 1), S') ∧ zRY n w P Q cs gap ver S' ∧ zfr zkC S S' := by
  obtain ⟨S', g1, g2, g3⟩ := c_firstWrong_45_go sc h7 31 0 S none (by omega) hC hR
  exact ⟨S', (c_X5_firstWrong_45 sc S).trans g1, g2, g3⟩
theorem sh_has_47 (sc : zSc) {S : zS} {m i k : Nat} (h : S.1 47 2 = nI m) (hm : m ≤ 60) (hi : i < 1000) (hk : k < 1000) : zcI sc zm_X6_has [.ref 47, .int (nI i), .int (nI k)] S = some (zb (i + k ≤ m), S) := by
  rw [c_X6_has_47, h, if_neg (by rw [n_lt0 (by omega)]; exact id), if_neg (by rw [n_lt0 (by omega)]; exact id), ifc (n_lt (a := m) (b := k) (by omega) (by omega))]
  by_cases c : m < k
  · rw [if_pos c, zb_f (by omega)]
  · rw [if_neg c, zn_sub (by omega), ifc (n_lt (a := m - k) (b := i) (by omega) (by omega))]
    by_cases q : m - k < i
    · rw [if_pos q, zb_f (by omega)]
    · rw [if_neg q, zb_t (by omega)]
theorem sh_get_47 (sc : zSc) {S : zS} {m i : Nat} (h : S.1 47 2 = nI m) (hm : m ≤ 60) (hi : i < 1000) : zcL sc zm_X6_get [.ref 47, .int (nI i)] S = some (if i + 1 ≤ m then S.2 48 i else 0, S) := by
  have e1 : zcI sc zm_X6_has [.ref 47, .int (nI i), .int (1 : Int32)] S = some (zb (i + 1 ≤ m), S) := sh_has_47 sc h hm hi (k := 1) (by omega)
  rw [c_X6_get_47, e1, Option.bind_some]
  dsimp only
  by_cases c : i + 1 ≤ m
  · rw [zb_t c, if_neg (by decide), if_neg (by first | (rw [n_ob (by omega)]; omega) | (rw [n_obb (by omega)]; omega)), n_cl (by omega), if_pos c]
  · rw [zb_f c, if_pos rfl, if_neg c]; rfl
theorem c_firstWrong_47_go (sc : zSc) {n : Nat} {P Q : Nat → Nat → Nat} {cs : List Int32} {gap ver w m : Nat} {e : Nat → Int64} (h7 : ∀ q, Q q 7 = P q 7) : ∀ (f k : Nat) (S : zS) (o3 : Option Value), f + k = 31 → zRY n w P Q cs gap ver S → zRc 47 48 m e S →
    ∃ S', zO zgI sc (zg1, (zm_X5_firstWrong, 6), 2, S, [some (.ref 23), some (.ref 47), some (.int (nI k)), o3], []) = some (z2 (fwV m e (fwM n Q cs gap w) f k) (fwV m e (fwM n Q cs gap w) f k - 1), S') ∧ zRY n w P Q cs gap ver S' ∧ zfr zkC S S'
  | 0, k, S, o3, hk, hC, hR => by
    have := hR.1
    refine ⟨S, ?_, hC, zfr_refl _ _⟩
    have e2 : nI k * (2 : Int32) = nI (k * 2) := zn_mul k 2
    rw [e_X5_firstWrong_47_2, hR.2.1, e2, if_pos (by rw [n_le (by omega) (by omega)]; omega)]
    rfl
  | f + 1, k, S, o3, hk, hC, hR => by
    have hn := hC.1.1.2.1
    have hm := hR.1
    have e2 : nI k * (2 : Int32) = nI (2 * k) := by rw [show nI k * (2 : Int32) = nI (k * 2) from zn_mul k 2, Nat.mul_comm]
    have e3 : nI (2 * k) + (1 : Int32) = nI (2 * k + 1) := n_s1 _
    have ek : fwV m e (fwM n Q cs gap w) (f + 1) k = if m ≤ 2 * k then 0 else if m ≤ 2 * k + 1 then k + 1 else if 0 ≤ (e (2 * k)).toInt ∧ (e (2 * k)).toInt ≤ 9 then (if (fwM n Q cs gap w (e (2 * k)).toInt.toNat : Int) = (e (2 * k + 1)).toInt then fwV m e (fwM n Q cs gap w) f (k + 1) else k + 1) else k + 1 := rfl
    have zk1 : z2 (k + 1) (k + 1 - 1) = nI k := by rw [show k + 1 - 1 = k by omega]; exact if_neg (by omega)
    have hh : zcI sc zm_X6_has [.ref 47, .int (nI (2 * k)), .int (2 : Int32)] S = some (zb (2 * k + 2 ≤ m), S) := sh_has_47 sc hR.2.1 hm (i := 2 * k) (k := 2) (by omega) (by omega)
    rw [e_X5_firstWrong_47_2, hR.2.1, e2, e3, ek]
    by_cases c1 : m ≤ 2 * k
    · rw [if_pos (by rw [n_le (by omega) (by omega)]; omega), if_pos c1]
      exact ⟨S, rfl, hC, zfr_refl _ _⟩
    rw [if_neg (c := nI m ≤ nI (2 * k)) (by rw [n_le (by omega) (by omega)]; omega), if_neg c1, sh_get_47 sc hR.2.1 hm (i := 2 * k) (by omega), Option.bind_some]
    dsimp only
    rw [hh, Option.bind_some]
    dsimp only
    by_cases c2 : m ≤ 2 * k + 1
    · rw [zb_f (by omega), if_pos rfl, if_pos c2, zk1]
      exact ⟨S, rfl, hC, zfr_refl _ _⟩
    have r1 := hR.2.2 (2 * k) (by omega)
    have r2 := hR.2.2 (2 * k + 1) (by omega)
    rw [zb_t (by omega), if_neg (show ¬ ((1 : Int32) = 0) by decide), if_neg c2, if_pos (show 2 * k + 1 ≤ m by omega), r1.1, s_isLesson, Option.bind_some]
    dsimp only
    by_cases c3 : 0 ≤ (e (2 * k)).toInt ∧ (e (2 * k)).toInt ≤ 9
    · have el : (e (2 * k)).toInt32 = nI (e (2 * k)).toInt.toNat := sh_nat c3
      have c3' : rg ((e (2 * k)).toInt32) 9 := by unfold rg; rw [sh_i32 r1.2]; exact c3
      obtain ⟨S2, b1, b2, b3, b4, b5⟩ := c_inLesson sc hC (l := (e (2 * k)).toInt.toNat) (by omega)
      obtain ⟨S3, d1, d2, d3, d4, d5, d6, _⟩ := c_makeL sc b2 b3 (fun q k => by rw [h7]; exact b4 q k) (lk := 0) (by omega)
      have d1' : zcV sc zm_X0_make [.ref 12, .int (0 : Int32)] S2 = some S3 := d1
      have hg := (kcm_good (P := Q) (cs := cs) (gap := gap) (o := none) (l := (e (2 * k)).toInt.toNat) (way := w) (lk := 0) hn).1
      have f3 : zfr zkC S S3 := zfr_tr b5 d6
      have hR3 : zRc 47 48 m e S3 := ⟨hm, (f3.1 47 2 rfl).trans hR.2.1, fun i hi => by rw [f3.2]; exact hR.2.2 i hi⟩
      rw [zb_t c3', if_pos (by decide), if_pos c3, el, b1, Option.bind_some, d1', Option.bind_some, sh_get_47 sc hR3.2.1 hm (i := 2 * k + 1) (by omega), Option.bind_some, d2.1]
      dsimp only
      rw [if_pos (show 2 * k + 1 + 1 ≤ m by omega), (hR3.2.2 (2 * k + 1) (by omega)).1, ifc (l_cmp_eq (m := kcm n Q cs gap none (e (2 * k)).toInt.toNat w 0 n 3 0) (x := e (2 * k + 1)) (by omega)), n_s1]
      by_cases c4 : (kcm n Q cs gap none (e (2 * k)).toInt.toNat w 0 n 3 0 : Int) = (e (2 * k + 1)).toInt
      · obtain ⟨S', g1, g2, g3⟩ := c_firstWrong_47_go sc h7 f (k + 1) S3 (some (.int (nI (e (2 * k)).toInt.toNat))) (by omega) d3 hR3
        rw [if_pos c4, if_pos c4]
        exact ⟨S', g1, g2, zfr_tr f3 g3⟩
      · rw [if_neg c4, if_neg c4, zk1]
        exact ⟨S3, rfl, d3, f3⟩
    · have c3' : ¬ rg ((e (2 * k)).toInt32) 9 := by unfold rg; rw [sh_i32 r1.2]; exact c3
      rw [zb_f c3', if_neg (fun q => q rfl), if_neg c3, zk1]
      exact ⟨S, rfl, hC, zfr_refl _ _⟩
theorem c_firstWrong_47 (sc : zSc) {n : Nat} {P Q : Nat → Nat → Nat} {cs : List Int32} {gap ver w m : Nat} {e : Nat → Int64} {S : zS} (h7 : ∀ q, Q q 7 = P q 7) (hC : zRY n w P Q cs gap ver S) (hR : zRc 47 48 m e S) :
    ∃ S', zcI sc zm_X5_firstWrong [.ref 23, .ref 47] S = some (z2 (fwV m e (fwM n Q cs gap w) 31 0) (fwV m e (fwM n Q cs gap w) 31 0 - 1), S') ∧ zRY n w P Q cs gap ver S' ∧ zfr zkC S S' := by
  obtain ⟨S', g1, g2, g3⟩ := c_firstWrong_47_go sc h7 31 0 S none (by omega) hC hR
  exact ⟨S', (c_X5_firstWrong_47 sc S).trans g1, g2, g3⟩
theorem sh_has_49 (sc : zSc) {S : zS} {m i k : Nat} (h : S.1 49 2 = nI m) (hm : m ≤ 60) (hi : i < 1000) (hk : k < 1000) : zcI sc zm_X6_has [.ref 49, .int (nI i), .int (nI k)] S = some (zb (i + k ≤ m), S) := by
  rw [c_X6_has_49, h, if_neg (by rw [n_lt0 (by omega)]; exact id), if_neg (by rw [n_lt0 (by omega)]; exact id), ifc (n_lt (a := m) (b := k) (by omega) (by omega))]
  by_cases c : m < k
  · rw [if_pos c, zb_f (by omega)]
  · rw [if_neg c, zn_sub (by omega), ifc (n_lt (a := m - k) (b := i) (by omega) (by omega))]
    by_cases q : m - k < i
    · rw [if_pos q, zb_f (by omega)]
    · rw [if_neg q, zb_t (by omega)]
theorem sh_get_49 (sc : zSc) {S : zS} {m i : Nat} (h : S.1 49 2 = nI m) (hm : m ≤ 60) (hi : i < 1000) : zcL sc zm_X6_get [.ref 49, .int (nI i)] S = some (if i + 1 ≤ m then S.2 50 i else 0, S) := by
  have e1 : zcI sc zm_X6_has [.ref 49, .int (nI i), .int (1 : Int32)] S = some (zb (i + 1 ≤ m), S) := sh_has_49 sc h hm hi (k := 1) (by omega)
  rw [c_X6_get_49, e1, Option.bind_some]
  dsimp only
  by_cases c : i + 1 ≤ m
  · rw [zb_t c, if_neg (by decide), if_neg (by first | (rw [n_ob (by omega)]; omega) | (rw [n_obb (by omega)]; omega)), n_cl (by omega), if_pos c]
  · rw [zb_f c, if_pos rfl, if_neg c]; rfl
theorem c_firstWrong_49_go (sc : zSc) {n : Nat} {P Q : Nat → Nat → Nat} {cs : List Int32} {gap ver w m : Nat} {e : Nat → Int64} (h7 : ∀ q, Q q 7 = P q 7) : ∀ (f k : Nat) (S : zS) (o3 : Option Value), f + k = 31 → zRY n w P Q cs gap ver S → zRc 49 50 m e S →
    ∃ S', zO zgI sc (zg1, (zm_X5_firstWrong, 6), 2, S, [some (.ref 23), some (.ref 49), some (.int (nI k)), o3], []) = some (z2 (fwV m e (fwM n Q cs gap w) f k) (fwV m e (fwM n Q cs gap w) f k - 1), S') ∧ zRY n w P Q cs gap ver S' ∧ zfr zkC S S'
  | 0, k, S, o3, hk, hC, hR => by
    have := hR.1
    refine ⟨S, ?_, hC, zfr_refl _ _⟩
    have e2 : nI k * (2 : Int32) = nI (k * 2) := zn_mul k 2
    rw [e_X5_firstWrong_49_2, hR.2.1, e2, if_pos (by rw [n_le (by omega) (by omega)]; omega)]
    rfl
  | f + 1, k, S, o3, hk, hC, hR => by
    have hn := hC.1.1.2.1
    have hm := hR.1
    have e2 : nI k * (2 : Int32) = nI (2 * k) := by rw [show nI k * (2 : Int32) = nI (k * 2) from zn_mul k 2, Nat.mul_comm]
    have e3 : nI (2 * k) + (1 : Int32) = nI (2 * k + 1) := n_s1 _
    have ek : fwV m e (fwM n Q cs gap w) (f + 1) k = if m ≤ 2 * k then 0 else if m ≤ 2 * k + 1 then k + 1 else if 0 ≤ (e (2 * k)).toInt ∧ (e (2 * k)).toInt ≤ 9 then (if (fwM n Q cs gap w (e (2 * k)).toInt.toNat : Int) = (e (2 * k + 1)).toInt then fwV m e (fwM n Q cs gap w) f (k + 1) else k + 1) else k + 1 := rfl
    have zk1 : z2 (k + 1) (k + 1 - 1) = nI k := by rw [show k + 1 - 1 = k by omega]; exact if_neg (by omega)
    have hh : zcI sc zm_X6_has [.ref 49, .int (nI (2 * k)), .int (2 : Int32)] S = some (zb (2 * k + 2 ≤ m), S) := sh_has_49 sc hR.2.1 hm (i := 2 * k) (k := 2) (by omega) (by omega)
    rw [e_X5_firstWrong_49_2, hR.2.1, e2, e3, ek]
    by_cases c1 : m ≤ 2 * k
    · rw [if_pos (by rw [n_le (by omega) (by omega)]; omega), if_pos c1]
      exact ⟨S, rfl, hC, zfr_refl _ _⟩
    rw [if_neg (c := nI m ≤ nI (2 * k)) (by rw [n_le (by omega) (by omega)]; omega), if_neg c1, sh_get_49 sc hR.2.1 hm (i := 2 * k) (by omega), Option.bind_some]
    dsimp only
    rw [hh, Option.bind_some]
    dsimp only
    by_cases c2 : m ≤ 2 * k + 1
    · rw [zb_f (by omega), if_pos rfl, if_pos c2, zk1]
      exact ⟨S, rfl, hC, zfr_refl _ _⟩
    have r1 := hR.2.2 (2 * k) (by omega)
    have r2 := hR.2.2 (2 * k + 1) (by omega)
    rw [zb_t (by omega), if_neg (show ¬ ((1 : Int32) = 0) by decide), if_neg c2, if_pos (show 2 * k + 1 ≤ m by omega), r1.1, s_isLesson, Option.bind_some]
    dsimp only
    by_cases c3 : 0 ≤ (e (2 * k)).toInt ∧ (e (2 * k)).toInt ≤ 9
    · have el : (e (2 * k)).toInt32 = nI (e (2 * k)).toInt.toNat := sh_nat c3
      have c3' : rg ((e (2 * k)).toInt32) 9 := by unfold rg; rw [sh_i32 r1.2]; exact c3
      obtain ⟨S2, b1, b2, b3, b4, b5⟩ := c_inLesson sc hC (l := (e (2 * k)).toInt.toNat) (by omega)
      obtain ⟨S3, d1, d2, d3, d4, d5, d6, _⟩ := c_makeL sc b2 b3 (fun q k => by rw [h7]; exact b4 q k) (lk := 0) (by omega)
      have d1' : zcV sc zm_X0_make [.ref 12, .int (0 : Int32)] S2 = some S3 := d1
      have hg := (kcm_good (P := Q) (cs := cs) (gap := gap) (o := none) (l := (e (2 * k)).toInt.toNat) (way := w) (lk := 0) hn).1
      have f3 : zfr zkC S S3 := zfr_tr b5 d6
      have hR3 : zRc 49 50 m e S3 := ⟨hm, (f3.1 49 2 rfl).trans hR.2.1, fun i hi => by rw [f3.2]; exact hR.2.2 i hi⟩
      rw [zb_t c3', if_pos (by decide), if_pos c3, el, b1, Option.bind_some, d1', Option.bind_some, sh_get_49 sc hR3.2.1 hm (i := 2 * k + 1) (by omega), Option.bind_some, d2.1]
      dsimp only
      rw [if_pos (show 2 * k + 1 + 1 ≤ m by omega), (hR3.2.2 (2 * k + 1) (by omega)).1, ifc (l_cmp_eq (m := kcm n Q cs gap none (e (2 * k)).toInt.toNat w 0 n 3 0) (x := e (2 * k + 1)) (by omega)), n_s1]
      by_cases c4 : (kcm n Q cs gap none (e (2 * k)).toInt.toNat w 0 n 3 0 : Int) = (e (2 * k + 1)).toInt
      · obtain ⟨S', g1, g2, g3⟩ := c_firstWrong_49_go sc h7 f (k + 1) S3 (some (.int (nI (e (2 * k)).toInt.toNat))) (by omega) d3 hR3
        rw [if_pos c4, if_pos c4]
        exact ⟨S', g1, g2, zfr_tr f3 g3⟩
      · rw [if_neg c4, if_neg c4, zk1]
        exact ⟨S3, rfl, d3, f3⟩
    · have c3' : ¬ rg ((e (2 * k)).toInt32) 9 := by unfold rg; rw [sh_i32 r1.2]; exact c3
      rw [zb_f c3', if_neg (fun q => q rfl), if_neg c3, zk1]
      exact ⟨S, rfl, hC, zfr_refl _ _⟩
theorem c_firstWrong_49 (sc : zSc) {n : Nat} {P Q : Nat → Nat → Nat} {cs : List Int32} {gap ver w m : Nat} {e : Nat → Int64} {S : zS} (h7 : ∀ q, Q q 7 = P q 7) (hC : zRY n w P Q cs gap ver S) (hR : zRc 49 50 m e S) :
    ∃ S', zcI sc zm_X5_firstWrong [.ref 23, .ref 49] S = some (z2 (fwV m e (fwM n Q cs gap w) 31 0) (fwV m e (fwM n Q cs gap w) 31 0 - 1), S') ∧ zRY n w P Q cs gap ver S' ∧ zfr zkC S S' := by
  obtain ⟨S', g1, g2, g3⟩ := c_firstWrong_49_go sc h7 31 0 S none (by omega) hC hR
  exact ⟨S', (c_X5_firstWrong_49 sc S).trans g1, g2, g3⟩
