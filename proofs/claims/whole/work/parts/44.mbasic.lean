/-! ===== the model's smallest methods ===== -/
theorem l_cmp_lt (x y : Int64) : (lg_cmp x y < 0) = (x.toInt < y.toInt) := by
  have := lg_cmp_ge x y
  rw [Int64.le_iff_toInt_le] at this
  refine propext ⟨fun h => ?_, fun h => ?_⟩
  · by_cases q : x.toInt < y.toInt
    · exact q
    · have := this.mpr (by omega)
      rw [zi_le, show (0 : Int32).toInt = 0 from rfl] at this
      rw [zi_lt, show (0 : Int32).toInt = 0 from rfl] at h
      omega
  · by_cases q : lg_cmp x y < 0
    · exact q
    · have := this.mp (by rw [zi_le, show (0 : Int32).toInt = 0 from rfl]; rw [zi_lt, show (0 : Int32).toInt = 0 from rfl] at q; omega)
      omega
theorem l_cmp_gt (x y : Int64) : (0 < lg_cmp x y) = (y.toInt < x.toInt) := by
  unfold lg_cmp
  by_cases h : x > y
  · rw [if_pos h]
    have : y.toInt < x.toInt := by rw [← Int64.lt_iff_toInt_lt]; exact h
    exact propext ⟨fun _ => this, fun _ => by decide⟩
  · rw [if_neg h]
    have : ¬ y.toInt < x.toInt := by rw [← Int64.lt_iff_toInt_lt]; exact h
    by_cases e : x = y
    · rw [if_pos e]; exact propext ⟨fun q => absurd q (by decide), fun q => absurd q this⟩
    · rw [if_neg e]; exact propext ⟨fun q => absurd q (by decide), fun q => absurd q this⟩
theorem m_within (sc : zSc) (S : zS) (a b c : Int64) : zcI sc zm_X11_within [.long a, .long b, .long c] S = some (zb (b.toInt ≤ a.toInt ∧ a.toInt ≤ c.toInt), S) := by
  rw [c_X11_within, ifc (l_cmp_lt a b), ifc (l_cmp_gt a c)]
  by_cases h1 : a.toInt < b.toInt
  · rw [if_pos h1, zb_f (by omega)]
  · rw [if_neg h1]
    by_cases h2 : c.toInt < a.toInt
    · rw [if_pos h2, zb_f (by omega)]
    · rw [if_neg h2, zb_t (by omega)]
theorem l32 (x : Int32) : x.toInt64.toInt = x.toInt := Int32.toInt_toInt64 x
theorem l64_0 : (Int64.ofNat 0).toInt = 0 := rfl
theorem l64_1 : (Int64.ofNat 1).toInt = 1 := rfl
/-- a truth handed on -/
theorem zb_id {p : Prop} {i : Decidable p} {S : zS} {X : Option (Int32 × zS)} : (if @zb p i = 0 ∨ @zb p i = 1 then some (@zb p i, S) else X) = some (@zb p i, S) := if_pos (zb_01.mpr trivial)
theorem m_isWay (sc : zSc) (S : zS) (a : Int32) : zcI sc zm_X11_isWay [.int a] S = some (zb (0 ≤ a.toInt ∧ a.toInt ≤ 2), S) := by
  rw [c_X11_isWay, m_within, Option.bind_some]
  refine zb_id.trans (zb_sm ?_)
  rw [l32, l64_0, show (2 : Int64).toInt = 2 from rfl]
theorem m_isLesson (sc : zSc) (S : zS) (a : Int64) : zcI sc zm_X11_isLesson [.long a] S = some (zb (0 ≤ a.toInt ∧ a.toInt ≤ 9), S) := by
  rw [c_X11_isLesson, m_within, Option.bind_some]
  refine zb_id.trans (zb_sm ?_)
  rw [l64_0, show (9 : Int64).toInt = 9 from rfl]
theorem m_isSet (sc : zSc) (S : zS) (a : Int32) : zcI sc zm_X11_isSet [.int a] S = some (zb (0 ≤ a.toInt ∧ a.toInt ≤ 255), S) := by
  rw [c_X11_isSet, m_within, Option.bind_some]
  refine zb_id.trans (zb_sm ?_)
  rw [l32, l64_0, show (255 : Int64).toInt = 255 from rfl]
theorem m_isShelf (sc : zSc) (S : zS) (a : Int32) : zcI sc zm_X11_isShelf [.int a] S = some (zb (0 ≤ a.toInt ∧ a.toInt ≤ 5), S) := by
  rw [c_X11_isShelf, m_within, Option.bind_some]
  refine zb_id.trans (zb_sm ?_)
  rw [l32, l64_0, show (5 : Int64).toInt = 5 from rfl]
abbrev zPM (n : Nat) (P : Nat → Nat → Nat) (S : zS) : Prop := S.1 51 6 = nI n ∧ n ≤ 8 ∧ ∀ p w, p < n → w < 8 → S.1 52 (8 * w + p) = zpv w (P p w)
theorem zPM_cg {n : Nat} {P : Nat → Nat → Nat} {S S' : zS} (h : zPM n P S) (f1 : S'.1 51 6 = S.1 51 6) (f2 : ∀ j, S'.1 52 j = S.1 52 j) : zPM n P S' :=
  ⟨f1.trans h.1, h.2.1, fun p w a b => (f2 _).trans (h.2.2 p w a b)⟩
theorem m_isPupil (sc : zSc) {S : zS} {n : Nat} (h : S.1 51 6 = nI n) (hn : n ≤ 8) (a : Int64) : zcI sc zm_X11_isPupil [.ref 51, .long a] S = some (zb (0 ≤ a.toInt ∧ a.toInt < n), S) := by
  rw [c_X11_isPupil, m_within, Option.bind_some]
  refine zb_id.trans (zb_sm ?_)
  rw [l32, l64_0, h]
  have : (nI n - (1 : Int32)).toInt = (n : Int) - 1 := by
    rw [zi_sub (y := 1) (by rw [zi_nI (by omega)]; show _ ≤ (n : Int) - 1; omega) (by rw [zi_nI (by omega)]; show (n : Int) - 1 < _; omega), zi_nI (by omega)]; rfl
  rw [this]
  omega
theorem m_of (sc : zSc) {n : Nat} {P : Nat → Nat → Nat} {S : zS} (h : zPM n P S) {p w : Nat} (hp : p < n) (hw : w < 8) : zcI sc zm_X11_ofPupil [.ref 51, .int (nI p), .int (nI w)] S = some (zpv w (P p w), S) := by
  have hn := h.2.1
  rw [c_X11_ofPupil, show (8 : Int32) = nI 8 from rfl, zn_mul, zn_add, if_neg (by first | (rw [n_ob (by omega)]; omega) | (rw [n_obb (by omega)]; omega)), n_cl (by omega), h.2.2 p w hp hw]
theorem m_of0 (sc : zSc) {n : Nat} {P : Nat → Nat → Nat} {S : zS} (h : zPM n P S) {p : Nat} (hp : p < n) : zcI sc zm_X11_ofPupil [.ref 51, .int (nI p), .int (0 : Int32)] S = some (nI (P p 0), S) := m_of sc h hp (w := 0) (by omega)
theorem m_of1 (sc : zSc) {n : Nat} {P : Nat → Nat → Nat} {S : zS} (h : zPM n P S) {p : Nat} (hp : p < n) : zcI sc zm_X11_ofPupil [.ref 51, .int (nI p), .int (1 : Int32)] S = some (nI (P p 1), S) := m_of sc h hp (w := 1) (by omega)
theorem m_of2 (sc : zSc) {n : Nat} {P : Nat → Nat → Nat} {S : zS} (h : zPM n P S) {p : Nat} (hp : p < n) : zcI sc zm_X11_ofPupil [.ref 51, .int (nI p), .int (2 : Int32)] S = some (zwho (P p 2), S) := m_of sc h hp (w := 2) (by omega)
theorem m_of3 (sc : zSc) {n : Nat} {P : Nat → Nat → Nat} {S : zS} (h : zPM n P S) {p : Nat} (hp : p < n) : zcI sc zm_X11_ofPupil [.ref 51, .int (nI p), .int (3 : Int32)] S = some (nI (P p 3), S) := m_of sc h hp (w := 3) (by omega)
theorem m_of4 (sc : zSc) {n : Nat} {P : Nat → Nat → Nat} {S : zS} (h : zPM n P S) {p : Nat} (hp : p < n) : zcI sc zm_X11_ofPupil [.ref 51, .int (nI p), .int (4 : Int32)] S = some (nI (P p 4), S) := m_of sc h hp (w := 4) (by omega)
theorem m_of5 (sc : zSc) {n : Nat} {P : Nat → Nat → Nat} {S : zS} (h : zPM n P S) {p : Nat} (hp : p < n) : zcI sc zm_X11_ofPupil [.ref 51, .int (nI p), .int (5 : Int32)] S = some (nI (P p 5), S) := m_of sc h hp (w := 5) (by omega)
theorem m_of6 (sc : zSc) {n : Nat} {P : Nat → Nat → Nat} {S : zS} (h : zPM n P S) {p : Nat} (hp : p < n) : zcI sc zm_X11_ofPupil [.ref 51, .int (nI p), .int (6 : Int32)] S = some (nI (P p 6), S) := m_of sc h hp (w := 6) (by omega)
theorem m_of7 (sc : zSc) {n : Nat} {P : Nat → Nat → Nat} {S : zS} (h : zPM n P S) {p : Nat} (hp : p < n) : zcI sc zm_X11_ofPupil [.ref 51, .int (nI p), .int (7 : Int32)] S = some (nI (P p 7), S) := m_of sc h hp (w := 7) (by omega)
theorem m_isIn (sc : zSc) (S : zS) {m p : Nat} (hm : m < 256) (hp : p < 8) : zcI sc zm_X11_isIn [.int (nI m), .int (nI p)] S = some (zb (Nat.testBit m p = true), S) := by
  rw [c_X11_isIn]
  by_cases h : Nat.testBit m p = true
  · rw [zb_t h, if_neg (by rw [ne_eq, n_bt hm hp]; exact fun q => q h)]
  · rw [zb_f h, if_pos (by rw [ne_eq, n_bt hm hp]; exact h)]
theorem m_isHere (sc : zSc) {n : Nat} {P : Nat → Nat → Nat} {S : zS} (h : zPM n P S) (hr : zPR n P) {p l : Nat} (hp : p < n) (hl : l < 10) : zcI sc zm_X11_isHere [.ref 51, .int (nI p), .int (nI l)] S = some (zb (yhf P l p = true), S) := by
  have := hr p hp
  rw [c_X11_isHere, m_of5 sc h hp, Option.bind_some]
  dsimp only
  rw [m_of6 sc h hp, Option.bind_some]
  dsimp only
  rw [m_within, Option.bind_some]
  refine zb_id.trans (zb_sm ?_)
  rw [l32, l32, l32, zi_nI (by omega), zi_nI (by omega), zi_nI (by omega)]
  unfold yhf
  simp
theorem m_keyOf (sc : zSc) {n : Nat} {P : Nat → Nat → Nat} {S : zS} (h : zPM n P S) (hr : zPR n P) {p way : Nat} (hp : p < n) (hw : way < 3) : zcI sc zm_X11_keyOf [.ref 51, .int (nI p), .int (nI way)] S = some (nI (ykey P way p), S) := by
  have := hr p hp
  rw [c_X11_keyOf, m_of2 sc h hp, Option.bind_some]
  dsimp only
  rw [m_of0 sc h hp, Option.bind_some]
  dsimp only
  rw [ifc (n_ne0 (a := way) (by omega)), show (1 : Int32) = nI 1 from rfl, ifc (n_ne (a := way) (b := 1) (by omega) (by omega))]
  unfold ykey
  by_cases w0 : way = 0
  · rw [if_neg (fun q => q w0), if_pos w0]
  rw [if_pos w0, if_neg w0]
  by_cases w1 : way = 1
  · rw [if_neg (fun q => q w1), if_pos w1]; rfl
  rw [if_pos w1, if_neg w1]
  cases h2 : P p 2 with
  | zero => rw [zwho0, if_neg (by decide), if_pos rfl]; rfl
  | succ q => rw [zwhoS, if_pos (by rw [n_0le (by omega)]; trivial), if_neg (by omega), show q + 1 - 1 = q by omega]
theorem zbool_if {a b : Prop} [Decidable a] [Decidable b] : (if (decide (a ∨ b)) = true then 1 else 0) = (if a then 1 else if b then 1 else (0 : Nat)) := by
  by_cases h : a
  · simp [h]
  · simp [h]
/-- as many come ahead -/
theorem m_ahead (sc : zSc) {n : Nat} {P : Nat → Nat → Nat} {S : zS} (h : zPM n P S) (hr : zPR n P) {way : Nat} (hw : way < 3) {p : Nat} (hp : p < n) (x2 : Int32) : ∀ (k q : Nat), q + k = n →
    zO zgI sc (zg1, (zm_X11_orderAt, 3), 16, S, [some (.ref 51), some (.int (nI way)), some (.int x2), some (.int (nI p)), some (.int (nI (ocn (ykey P way) q p))), some (.int (nI q))], [])
    = (if nI (ocn (ykey P way) n p) ≠ x2 then zO zgI sc (zg1, (zm_X11_orderAt, 3), 2, S, [some (.ref 51), some (.int (nI way)), some (.int x2), some (.int (nI p + (1 : Int32))), some (.int (nI (ocn (ykey P way) n p))), some (.int (nI n))], []) else some (nI p, S))
  | 0, q, hq => by
    have hn := h.2.1
    have : q = n := by omega
    subst this
    rw [e_X11_orderAt_16, h.1, if_pos (by rw [n_le (by omega) (by omega)]; omega)]
  | k + 1, q, hq => by
    have hn := h.2.1
    have IH := m_ahead sc h hr hw hp x2 k (q + 1) (by omega)
    have hkq : ykey P way q ≤ 99 := by have := hr q (by omega); unfold ykey; split <;> (try split) <;> (try split) <;> omega
    have hkp : ykey P way p ≤ 99 := by have := hr p hp; unfold ykey; split <;> (try split) <;> (try split) <;> omega
    have es : ocn (ykey P way) (q + 1) p = ocn (ykey P way) q p + (if obf (ykey P way) q p = true then 1 else 0) := rfl
    rw [e_X11_orderAt_16, h.1, if_neg (by rw [n_le (by omega) (by omega)]; omega), m_keyOf sc h hr (by omega) hw, Option.bind_some]
    dsimp only
    rw [m_keyOf sc h hr hp hw, Option.bind_some]
    dsimp only
    rw [m_keyOf sc h hr (show q < n by omega) hw, Option.bind_some]
    dsimp only
    rw [m_keyOf sc h hr hp hw, Option.bind_some]
    dsimp only
    rw [ifc (n_lt (a := ykey P way q) (b := ykey P way p) (by omega) (by omega)), ifc (n_ne (a := ykey P way q) (b := ykey P way p) (by omega) (by omega)), ifc (n_le (a := p) (b := q) (by omega) (by omega)), n_s1, n_s1, show nI (ocn (ykey P way) q p) + (0 : Int32) = nI (ocn (ykey P way) q p) from zn_add _ 0]
    unfold obf at es
    by_cases c1 : ykey P way q < ykey P way p
    · rw [if_pos c1]
      rw [if_pos (by rw [decide_eq_true_iff]; omega)] at es
      rw [← es]; exact IH
    · rw [if_neg c1]
      by_cases c2 : ykey P way q = ykey P way p
      · rw [if_neg (fun k => k c2)]
        by_cases c3 : p ≤ q
        · rw [if_pos c3]
          rw [if_neg (by rw [decide_eq_true_iff]; omega)] at es
          rw [show ocn (ykey P way) q p = ocn (ykey P way) (q + 1) p by omega]; exact IH
        · rw [if_neg c3]
          rw [if_pos (by rw [decide_eq_true_iff]; omega)] at es
          rw [← es]; exact IH
      · rw [if_pos c2]
        rw [if_neg (by rw [decide_eq_true_iff]; omega)] at es
        rw [show ocn (ykey P way) q p = ocn (ykey P way) (q + 1) p by omega]; exact IH
theorem m_orderAt_go (sc : zSc) {n : Nat} {P : Nat → Nat → Nat} {S : zS} (h : zPM n P S) (hr : zPR n P) {way : Nat} (hw : way < 3) {j : Nat} (hj : j < 2147483648) : ∀ (k p : Nat) (o4 o5 : Option Value), p + k = n → (∀ q, q < p → ocn (ykey P way) n q ≠ j) →
    zO zgI sc (zg1, (zm_X11_orderAt, 3), 2, S, [some (.ref 51), some (.int (nI way)), some (.int (nI j)), some (.int (nI p)), o4, o5], []) = some (if j < n then nI (zowy P n way j) else -2, S)
  | 0, p, o4, o5, hp, hq => by
    have hn := h.2.1
    rw [e_X11_orderAt_2, h.1, if_pos (by rw [n_le (by omega) (by omega)]; omega)]
    by_cases c : j < n
    · obtain ⟨g1, g2⟩ := (od_ok (ykey P way) n).2 j c
      exact absurd g2 (hq _ (by omega))
    · rw [if_neg c]
  | k + 1, p, o4, o5, hp, hq => by
    have hn := h.2.1
    have hc := ((od_ok (ykey P way) n).1 p (by omega))
    rw [e_X11_orderAt_2, h.1, if_neg (by rw [n_le (by omega) (by omega)]; omega)]
    have := m_ahead sc h hr hw (p := p) (by omega) (nI j) n 0 (by omega)
    rw [show (0 : Int32) = nI 0 from rfl]
    rw [show ocn (ykey P way) 0 p = 0 from rfl] at this
    rw [this, ifc (n_ne (a := ocn (ykey P way) n p) (b := j) (by omega) hj)]
    by_cases c : ocn (ykey P way) n p = j
    · rw [if_neg (fun q => q c), if_pos (by omega)]
      have : zowy P n way j = p := by rw [← c]; exact hc.2
      rw [this]
    · rw [if_pos c, n_s1]
      exact m_orderAt_go sc h hr hw hj k (p + 1) _ _ (by omega) (fun q hq' => by
        by_cases e : q = p
        · rw [e]; exact c
        · exact hq q (by omega))
theorem m_orderAt (sc : zSc) {n : Nat} {P : Nat → Nat → Nat} {S : zS} (h : zPM n P S) (hr : zPR n P) {way : Nat} (hw : way < 3) {j : Nat} (hj : j < 2147483648) :
    zcI sc zm_X11_orderAt [.ref 51, .int (nI way), .int (nI j)] S = some (if j < n then nI (zowy P n way j) else -2, S) :=
  (c_X11_orderAt sc S (nI way) (nI j)).trans (m_orderAt_go sc h hr hw hj n 0 _ _ (by omega) (fun q hq => by omega))
/-! ===== how many bits ===== -/
def pcn (m : Nat) : Nat := cnt (fun p => m.testBit p) 8
theorem m_bitsOf (sc : zSc) (S : zS) {m : Nat} (hm : m < 256) : zcI sc zm_X11_bitsOf [.int (nI m)] S = some (nI (pcn m), S) := by
  have go : ∀ (k p : Nat), p + k = 8 → zO zgI sc (zg1, (zm_X11_bitsOf, 1), 4, S, [some (.int (nI m)), some (.int (nI (cnt (fun p => m.testBit p) p))), some (.int (nI p))], []) = some (nI (pcn m), S) := by
    intro k
    induction k with
    | zero =>
      intro p hp
      have : p = 8 := by omega
      subst this
      rw [e_X11_bitsOf_4, if_pos (by decide)]; rfl
    | succ k ih =>
      intro p hp
      have hb := n_bt hm (show p < 8 by omega)
      have hv : ((nI m >>> (nI p &&& 31)) &&& 1) = nI (if m.testBit p = true then 1 else 0) := by
        by_cases c : m.testBit p = true
        · rw [if_pos c]; rw [eq_true c] at hb; exact of_eq_true hb
        · rw [if_neg c]
          have h2 : ¬ ((nI m >>> (nI p &&& 31)) &&& 1 = (1 : Int32)) := by rw [hb]; exact c
          apply Int32.toBitVec_inj.mp
          apply BitVec.eq_of_getLsbD_eq
          intro i hi
          rw [Int32.toBitVec_and]
          rw [BitVec.getLsbD_and]
          by_cases i0 : i = 0
          · subst i0
            have h3 : ((nI m >>> (nI p &&& 31)).toBitVec.getLsbD 0) = false := by
              cases e : ((nI m >>> (nI p &&& 31)).toBitVec.getLsbD 0) with
              | false => rfl
              | true =>
                exfalso
                apply h2
                apply Int32.toBitVec_inj.mp
                apply BitVec.eq_of_getLsbD_eq
                intro j hj
                rw [Int32.toBitVec_and, BitVec.getLsbD_and]
                by_cases j0 : j = 0
                · subst j0; rw [e]; rfl
                · have : (1 : Int32).toBitVec.getLsbD j = false := by
                    show (BitVec.ofNat 32 1).getLsbD j = false
                    rw [BitVec.getLsbD_ofNat]
                    have : Nat.testBit 1 j = false := by
                      rw [show 1 = 2 ^ 0 from rfl, Nat.testBit_two_pow]
                      exact decide_eq_false (fun q => j0 q.symm)
                    rw [this, Bool.and_false]
                  rw [this, Bool.and_false]
            rw [h3]; rfl
          · have : (1 : Int32).toBitVec.getLsbD i = false := by
              show (BitVec.ofNat 32 1).getLsbD i = false
              rw [BitVec.getLsbD_ofNat]
              have : Nat.testBit 1 i = false := by
                rw [show 1 = 2 ^ 0 from rfl, Nat.testBit_two_pow]
                exact decide_eq_false (fun q => i0 q.symm)
              rw [this, Bool.and_false]
            rw [this, Bool.and_false]
            show false = (BitVec.ofNat 32 0).getLsbD i
            rw [BitVec.getLsbD_ofNat, Nat.zero_testBit, Bool.and_false]
      rw [e_X11_bitsOf_4, if_neg (by rw [show (8 : Int32) = nI 8 from rfl, n_le (by omega) (by omega)]; omega), hv, zn_add, n_s1]
      exact ih (p + 1) (by omega)
  exact (c_X11_bitsOf sc S (nI m)).trans (go 8 0 (by omega))
set_option maxRecDepth 20000 in
theorem bc_fact : ∀ m : Nat, m < 256 →
    (let a := nI m - (((nI m).toUInt32 >>> ((1 : Int32).toUInt32 &&& Int32.toUInt32 31)).toInt32 &&& (1431655765 : Int32))
     let b := (a &&& (858993459 : Int32)) + ((a.toUInt32 >>> ((2 : Int32).toUInt32 &&& Int32.toUInt32 31)).toInt32 &&& (858993459 : Int32))
     let c := (b + (b.toUInt32 >>> ((4 : Int32).toUInt32 &&& Int32.toUInt32 31)).toInt32) &&& (252645135 : Int32)
     let d := c + (c.toUInt32 >>> ((8 : Int32).toUInt32 &&& Int32.toUInt32 31)).toInt32
     let e := d + (d.toUInt32 >>> ((16 : Int32).toUInt32 &&& Int32.toUInt32 31)).toInt32
     (e &&& (63 : Int32))) = nI (pcn m) := by decide +kernel
theorem s_bitCount (sc : zSc) (S : zS) {m : Nat} (hm : m < 256) : zcI sc zm_J6_bitCount_0f7a4 [.int (nI m)] S = some (nI (pcn m), S) := by
  rw [c_J6_bitCount_0f7a4, e_J6_bitCount_0f7a4_10, e_J6_bitCount_0f7a4_24, e_J6_bitCount_0f7a4_34, e_J6_bitCount_0f7a4_41, e_J6_bitCount_0f7a4_48, ← bc_fact m hm]
theorem pcn_le (m : Nat) : pcn m ≤ 8 := cnt_le _ 8
