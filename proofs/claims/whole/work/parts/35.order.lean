/-! ===== counting, and the order that a key makes ===== -/
def cnt (P : Nat → Bool) : Nat → Nat
  | 0 => 0
  | m + 1 => cnt P m + (if P m = true then 1 else 0)
theorem cnt_le (P : Nat → Bool) : ∀ m, cnt P m ≤ m
  | 0 => Nat.le_refl 0
  | m + 1 => by have := cnt_le P m; unfold cnt; split <;> omega
theorem cnt_mono {P Q : Nat → Bool} : ∀ m, (∀ q, q < m → P q = true → Q q = true) → cnt P m ≤ cnt Q m
  | 0, _ => Nat.le_refl 0
  | m + 1, h => by
    have := cnt_mono m (fun q hq => h q (by omega))
    have hm := h m (by omega)
    unfold cnt
    by_cases p : P m = true
    · rw [if_pos p, if_pos (hm p)]; omega
    · rw [if_neg p]; split <;> omega
theorem cnt_lt {P Q : Nat → Bool} (p : Nat) (hp : P p = false) (hq : Q p = true) : ∀ m, p < m → (∀ q, q < m → P q = true → Q q = true) → cnt P m < cnt Q m
  | 0, h, _ => absurd h (by omega)
  | m + 1, h, k => by
    unfold cnt
    by_cases e : p = m
    · subst e
      have := cnt_mono p (fun q hq => k q (by omega))
      rw [if_neg (by rw [hp]; decide), if_pos hq]; omega
    · have := cnt_lt p hp hq m (by omega) (fun q hq => k q (by omega))
      have hm := k m (by omega)
      by_cases g : P m = true
      · rw [if_pos g, if_pos (hm g)]; omega
      · rw [if_neg g]; split <;> omega
theorem cnt_cg {P Q : Nat → Bool} : ∀ m, (∀ q, q < m → P q = Q q) → cnt P m = cnt Q m
  | 0, _ => rfl
  | m + 1, h => by unfold cnt; rw [cnt_cg m (fun q hq => h q (by omega)), h m (by omega)]
def obf (k : Nat → Nat) (q p : Nat) : Bool := decide (k q < k p ∨ (k q = k p ∧ q < p))
def ocn (k : Nat → Nat) (m p : Nat) : Nat := cnt (fun q => obf k q p) m
def ops (k : Nat → Nat) (m : Nat) : Nat := cnt (fun q => decide (k q ≤ k m)) m
def od (k : Nat → Nat) : Nat → Nat → Nat
  | 0, _ => 0
  | m + 1, i => if i < ops k m then od k m i else if i = ops k m then m else od k m (i - 1)
theorem ocn_s {k : Nat → Nat} {m p : Nat} (h : p < m) : ocn k (m + 1) p = ocn k m p + (if k m < k p then 1 else 0) := by
  show cnt (fun q => obf k q p) m + (if obf k m p = true then 1 else 0) = _
  have : (obf k m p = true) ↔ k m < k p := by unfold obf; rw [decide_eq_true_iff]; omega
  by_cases g : k m < k p
  · rw [if_pos (this.mpr g), if_pos g]; rfl
  · rw [if_neg (fun q => g (this.mp q)), if_neg g]; rfl
theorem ocn_m {k : Nat → Nat} {m : Nat} : ocn k (m + 1) m = ops k m := by
  show cnt (fun q => obf k q m) m + (if obf k m m = true then 1 else 0) = _
  rw [if_neg (by unfold obf; rw [decide_eq_true_iff]; omega)]
  show cnt (fun q => obf k q m) m = cnt (fun q => decide (k q ≤ k m)) m
  refine cnt_cg m (fun q hq => ?_)
  unfold obf
  exact decide_eq_decide.mpr (by omega)
theorem ops_le (k : Nat → Nat) (m : Nat) : ops k m ≤ m := cnt_le _ m
theorem ops_i {k : Nat → Nat} {m p : Nat} (h : p < m) : k p ≤ k m ↔ ocn k m p < ops k m := by
  constructor
  · intro g
    refine cnt_lt p ?_ ?_ m h ?_
    · show obf k p p = false
      unfold obf; rw [decide_eq_false_iff_not]; omega
    · show decide (k p ≤ k m) = true
      rw [decide_eq_true_iff]; exact g
    · intro q _ hq
      have hq' : obf k q p = true := hq
      unfold obf at hq'
      rw [decide_eq_true_iff] at hq'
      show decide (k q ≤ k m) = true
      rw [decide_eq_true_iff]; omega
  · intro g
    by_cases e : k p ≤ k m
    · exact e
    · exfalso
      have : ops k m ≤ ocn k m p := by
        refine cnt_mono m (fun q _ hq => ?_)
        have hq' : decide (k q ≤ k m) = true := hq
        rw [decide_eq_true_iff] at hq'
        show obf k q p = true
        unfold obf; rw [decide_eq_true_iff]; omega
      omega
theorem od_ok (k : Nat → Nat) : ∀ m, (∀ p, p < m → ocn k m p < m ∧ od k m (ocn k m p) = p) ∧ (∀ i, i < m → od k m i < m ∧ ocn k m (od k m i) = i)
  | 0 => ⟨fun p h => absurd h (by omega), fun p h => absurd h (by omega)⟩
  | m + 1 => by
    obtain ⟨h1, h2⟩ := od_ok k m
    have hl := ops_le k m
    constructor
    · intro p hp
      by_cases e : p = m
      · subst e
        rw [ocn_m]
        exact ⟨by omega, by show (if _ then _ else _) = _; rw [if_neg (by omega), if_pos rfl]⟩
      · have hp' : p < m := by omega
        rw [ocn_s hp']
        obtain ⟨g1, g2⟩ := h1 p hp'
        have hi := ops_i (k := k) hp'
        by_cases g : k m < k p
        · rw [if_pos g]
          refine ⟨by omega, ?_⟩
          show (if _ then _ else _) = _
          rw [if_neg (by omega), if_neg (by omega), show ocn k m p + 1 - 1 = ocn k m p by omega, g2]
        · rw [if_neg g]
          refine ⟨by omega, ?_⟩
          show (if _ then _ else _) = _
          rw [if_pos (by omega)]
          exact g2
    · intro i hi
      show (if i < ops k m then od k m i else if i = ops k m then m else od k m (i - 1)) < m + 1 ∧ ocn k (m + 1) (if i < ops k m then od k m i else if i = ops k m then m else od k m (i - 1)) = i
      by_cases e1 : i < ops k m
      · rw [if_pos e1]
        obtain ⟨g1, g2⟩ := h2 i (by omega)
        have hh := ops_i (k := k) g1
        rw [ocn_s g1, if_neg (by omega)]
        exact ⟨by omega, by omega⟩
      · rw [if_neg e1]
        by_cases e2 : i = ops k m
        · rw [if_pos e2, ocn_m]; exact ⟨by omega, e2.symm⟩
        · rw [if_neg e2]
          obtain ⟨g1, g2⟩ := h2 (i - 1) (by omega)
          have hh := ops_i (k := k) g1
          rw [ocn_s g1, if_pos (by omega)]
          exact ⟨by omega, by omega⟩
theorem od_lt (k : Nat → Nat) {m i : Nat} (h : i < m) : od k m i < m := ((od_ok k m).2 i h).1
/-! ===== the pupils' numbers as naturals: a seat is one less than what stands for it ===== -/
abbrev zpv (w x : Nat) : Int32 := if w = 2 then zwho x else nI x
abbrev zPC (n : Nat) (P : Nat → Nat → Nat) (S : zS) : Prop := S.1 1 1 = nI n ∧ n ≤ 8 ∧ ∀ p w, p < n → w < 8 → S.1 2 (8 * p + w) = zpv w (P p w)
abbrev zPR (n : Nat) (P : Nat → Nat → Nat) : Prop := ∀ p, p < n → P p 0 ≤ 99 ∧ 1 ≤ P p 1 ∧ P p 1 ≤ 99 ∧ P p 2 ≤ 16 ∧ P p 3 ≤ 7 ∧ P p 4 ≤ 255 ∧ P p 5 ≤ 9 ∧ P p 6 ≤ 9 ∧ P p 7 ≤ 999
theorem zPC_sz {n : Nat} {P : Nat → Nat → Nat} {S : zS} (h : zPC n P S) : zsz S := by
  have := h.2.1
  unfold zsz
  rw [h.1, zi_nI (by omega)]; omega
theorem zPC_cg {n : Nat} {P : Nat → Nat → Nat} {S S' : zS} (h : zPC n P S) (f1 : S'.1 1 1 = S.1 1 1) (f2 : ∀ j, S'.1 2 j = S.1 2 j) : zPC n P S' :=
  ⟨f1.trans h.1, h.2.1, fun p w a b => (f2 _).trans (h.2.2 p w a b)⟩
theorem s_getn (sc : zSc) {n : Nat} {P : Nat → Nat → Nat} {S : zS} (h : zPC n P S) {p w : Nat} (hp : p < n) (hw : w < 8) : zcI sc zm_X4_get [.ref 1, .int (nI p), .int (nI w)] S = some (zpv w (P p w), S) := by
  have hn := h.2.1
  rw [s_get sc S _ _ (zPC_sz h) (by unfold zhas; rw [h.1, zi_nI (by omega), zi_nI (by omega), zi_nI (by omega)]; omega)]
  have : zsl (nI p) (nI w) = 8 * p + w := by unfold zsl; rw [zi_nI (by omega), if_pos (by omega), n_cl (by omega), n_cl (by omega)]
  rw [this, h.2.2 p w hp hw]
theorem s_get0 (sc : zSc) {n : Nat} {P : Nat → Nat → Nat} {S : zS} (h : zPC n P S) {p : Nat} (hp : p < n) : zcI sc zm_X4_get [.ref 1, .int (nI p), .int (0 : Int32)] S = some (nI (P p 0), S) := s_getn sc h hp (w := 0) (by omega)
theorem s_get1 (sc : zSc) {n : Nat} {P : Nat → Nat → Nat} {S : zS} (h : zPC n P S) {p : Nat} (hp : p < n) : zcI sc zm_X4_get [.ref 1, .int (nI p), .int (1 : Int32)] S = some (nI (P p 1), S) := s_getn sc h hp (w := 1) (by omega)
theorem s_get2 (sc : zSc) {n : Nat} {P : Nat → Nat → Nat} {S : zS} (h : zPC n P S) {p : Nat} (hp : p < n) : zcI sc zm_X4_get [.ref 1, .int (nI p), .int (2 : Int32)] S = some (zwho (P p 2), S) := s_getn sc h hp (w := 2) (by omega)
theorem s_get3 (sc : zSc) {n : Nat} {P : Nat → Nat → Nat} {S : zS} (h : zPC n P S) {p : Nat} (hp : p < n) : zcI sc zm_X4_get [.ref 1, .int (nI p), .int (3 : Int32)] S = some (nI (P p 3), S) := s_getn sc h hp (w := 3) (by omega)
theorem s_get4 (sc : zSc) {n : Nat} {P : Nat → Nat → Nat} {S : zS} (h : zPC n P S) {p : Nat} (hp : p < n) : zcI sc zm_X4_get [.ref 1, .int (nI p), .int (4 : Int32)] S = some (nI (P p 4), S) := s_getn sc h hp (w := 4) (by omega)
theorem s_get5 (sc : zSc) {n : Nat} {P : Nat → Nat → Nat} {S : zS} (h : zPC n P S) {p : Nat} (hp : p < n) : zcI sc zm_X4_get [.ref 1, .int (nI p), .int (5 : Int32)] S = some (nI (P p 5), S) := s_getn sc h hp (w := 5) (by omega)
theorem s_get6 (sc : zSc) {n : Nat} {P : Nat → Nat → Nat} {S : zS} (h : zPC n P S) {p : Nat} (hp : p < n) : zcI sc zm_X4_get [.ref 1, .int (nI p), .int (6 : Int32)] S = some (nI (P p 6), S) := s_getn sc h hp (w := 6) (by omega)
theorem s_get7 (sc : zSc) {n : Nat} {P : Nat → Nat → Nat} {S : zS} (h : zPC n P S) {p : Nat} (hp : p < n) : zcI sc zm_X4_get [.ref 1, .int (nI p), .int (7 : Int32)] S = some (nI (P p 7), S) := s_getn sc h hp (w := 7) (by omega)
/-- the gap (8) and what it counts (9) -/
theorem s_get8 (sc : zSc) {S : zS} (h : zsz S) : zcI sc zm_X4_get [.ref 1, .int (0 : Int32), .int (8 : Int32)] S = some (S.1 2 64, S) := by
  rw [s_get sc S _ _ h (by unfold zhas; right; decide)]; rfl
theorem s_get9 (sc : zSc) {S : zS} (h : zsz S) : zcI sc zm_X4_get [.ref 1, .int (0 : Int32), .int (9 : Int32)] S = some (S.1 2 65, S) := by
  rw [s_get sc S _ _ h (by unfold zhas; right; decide)]; rfl
def ykey (P : Nat → Nat → Nat) (way p : Nat) : Nat := if way = 0 then P p 0 else if way = 1 then 0 else if P p 2 = 0 then 16 else P p 2 - 1
def yrk (P : Nat → Nat → Nat) (way p : Nat) : Int32 := if way = 0 then nI (P p 0) else if way = 1 then nI p else if P p 2 = 0 then 2147483647 else nI (P p 2 - 1)
theorem yrk_le {n : Nat} {P : Nat → Nat → Nat} (h : zPR n P) {way q m : Nat} (hn : n ≤ 8) (hm : m < n) (hq : q < m) : (yrk P way q ≤ yrk P way m) = (ykey P way q ≤ ykey P way m) := by
  have hp := h q (by omega)
  have hr := h m hm
  unfold yrk ykey
  by_cases w0 : way = 0
  · rw [if_pos w0, if_pos w0, if_pos w0, if_pos w0, n_le (by omega) (by omega)]
  rw [if_neg w0, if_neg w0, if_neg w0, if_neg w0]
  by_cases w1 : way = 1
  · rw [if_pos w1, if_pos w1, if_pos w1, if_pos w1, n_le (by omega) (by omega)]
    exact propext ⟨fun _ => by omega, fun _ => by omega⟩
  rw [if_neg w1, if_neg w1, if_neg w1, if_neg w1]
  rw [show (2147483647 : Int32) = nI 2147483647 from rfl]
  by_cases c1 : P q 2 = 0
  · by_cases c2 : P m 2 = 0
    · rw [if_pos c1, if_pos c2, if_pos c1, if_pos c2, n_le (by omega) (by omega)]; exact propext ⟨fun _ => by omega, fun _ => by omega⟩
    · rw [if_pos c1, if_neg c2, if_pos c1, if_neg c2, n_le (by omega) (by omega)]; exact propext ⟨fun _ => by omega, fun _ => by omega⟩
  · by_cases c2 : P m 2 = 0
    · rw [if_neg c1, if_pos c2, if_neg c1, if_pos c2, n_le (by omega) (by omega)]; exact propext ⟨fun _ => by omega, fun _ => by omega⟩
    · rw [if_neg c1, if_neg c2, if_neg c1, if_neg c2, n_le (by omega) (by omega)]
theorem s_rank (sc : zSc) {n : Nat} {P : Nat → Nat → Nat} {S : zS} (h : zPC n P S) (hr : zPR n P) {p way : Nat} (hp : p < n) (hw : way < 3) : zcI sc zm_X4_rank [.ref 1, .int (nI p), .int (nI way)] S = some (yrk P way p, S) := by
  have := hr p hp
  rw [c_X4_rank, s_get2 sc h hp, s_get0 sc h hp, Option.bind_some, Option.bind_some, ifc (n_ne0 (a := way) (by omega)), show (1 : Int32) = nI 1 from rfl, ifc (n_ne (a := way) (b := 1) (by omega) (by omega))]
  unfold yrk
  by_cases w0 : way = 0
  · rw [if_neg (fun q => q w0), if_pos w0]
  rw [if_pos w0, if_neg w0]
  by_cases w1 : way = 1
  · rw [if_neg (fun q => q w1), if_pos w1]
  rw [if_pos w1, if_neg w1]
  dsimp only
  cases h2 : P p 2 with
  | zero => rw [zwho0, if_neg (by decide), if_pos rfl]
  | succ q => rw [zwhoS, if_pos (by rw [n_0le (by omega)]; trivial), if_neg (by omega), show q + 1 - 1 = q by omega]
def yhf (P : Nat → Nat → Nat) (l : Nat) : Nat → Bool := fun p => decide (P p 5 ≤ l) && decide (l ≤ P p 6)
theorem s_isHere (sc : zSc) {n : Nat} {P : Nat → Nat → Nat} {S : zS} (h : zPC n P S) (hr : zPR n P) {p l : Nat} (hp : p < n) (hl : l < 10) : zcI sc zm_X4_isHere [.ref 1, .int (nI p), .int (nI l)] S = some (zb (yhf P l p = true), S) := by
  have := hr p hp
  rw [c_X4_isHere, s_get5 sc h hp, Option.bind_some]
  dsimp only
  rw [ifc (n_lt (a := l) (b := P p 5) (by omega) (by omega)), s_get6 sc h hp, Option.bind_some]
  dsimp only
  rw [ifc (n_lt (a := P p 6) (b := l) (by omega) (by omega))]
  by_cases c1 : l < P p 5
  · rw [if_pos c1, zb_f (by unfold yhf; simp; omega)]
  · rw [if_neg c1]
    by_cases c2 : P p 6 < l
    · rw [if_pos c2, zb_f (by unfold yhf; simp; omega)]
    · rw [if_neg c2, zb_t (by unfold yhf; simp; omega)]
/-! ===== lineUp ===== -/
theorem s_lineUp_go (sc : zSc) {n : Nat} {P : Nat → Nat → Nat} (hr : zPR n P) {way m : Nat} (hw : way < 3) (hm : m < n) :
    ∀ (pl : Nat) (S : zS), pl ≤ m → zPC n P S → S.1 12 9 = nI way →
    (∀ i, i < pl → S.1 13 i = nI (od (ykey P way) m i)) → (∀ i, pl < i → i ≤ m → S.1 13 i = nI (od (ykey P way) m (i - 1))) → (∀ i, pl ≤ i → i < m → ykey P way m < ykey P way (od (ykey P way) m i)) →
    ∃ S', zO zgV sc (zg1, (zm_X0_lineUp, 5), 15, S, [some (.ref 12), some (.int (nI m)), some (.int (nI pl)), some (.int (yrk P way m))], []) = some S' ∧ (∀ i, i ≤ m → S'.1 13 i = nI (od (ykey P way) (m + 1) i)) ∧ zfr (zx1 13) S S' := by
  -- the end, at a place that is the right one
  have fin : ∀ (pl : Nat) (S : zS), pl ≤ m → pl = ops (ykey P way) m →
      (∀ i, i < pl → S.1 13 i = nI (od (ykey P way) m i)) → (∀ i, pl < i → i ≤ m → S.1 13 i = nI (od (ykey P way) m (i - 1))) → ∀ i, i ≤ m → (zw1 S 13 pl (nI m)).1 13 i = nI (od (ykey P way) (m + 1) i) := by
    intro pl S h1 h2 h3 h4 i hi
    show _ = nI (if i < ops (ykey P way) m then od (ykey P way) m i else if i = ops (ykey P way) m then m else od (ykey P way) m (i - 1))
    rw [← h2]
    by_cases e : i = pl
    · rw [e, zw1_y, if_neg (by omega), if_pos rfl]
    · rw [zw1_n _ _ (by omega)]
      by_cases e2 : i < pl
      · rw [if_pos e2]; exact h3 i e2
      · rw [if_neg e2, if_neg e]; exact h4 i (by omega) hi
  intro pl
  induction pl with
  | zero =>
    intro S h1 h2 h3 h4 h5 h6
    have hn := h2.2.1
    refine ⟨zw1 S 13 0 (nI m), ?_, ?_, zfr_w0 _ _ _ rfl⟩
    · rw [e_X0_lineUp_15, if_pos (by rw [n_le0 (by omega)]), if_neg (by first | (rw [n_ob (by omega)]; omega) | (rw [n_obb (by omega)]; omega)), n_cl (by omega)]
    · refine fin 0 S h1 ?_ h4 h5
      have hl := ops_le (ykey P way) m
      by_cases e : ops (ykey P way) m = 0
      · exact e.symm
      · exfalso
        obtain ⟨g1, g2⟩ := (od_ok (ykey P way) m).2 0 (by omega)
        have := (ops_i (k := ykey P way) g1).mpr (by omega)
        have := h6 0 (by omega) (by omega)
        omega
  | succ pl ih =>
    intro S h1 h2 h3 h4 h5 h6
    have hn := h2.2.1
    have hq := od_lt (ykey P way) (m := m) (i := pl) (by omega)
    rw [e_X0_lineUp_15, if_neg (by rw [n_le0 (by omega)]; omega), n_p1 (by omega), show pl + 1 - 1 = pl by omega, if_neg (by first | (rw [n_ob (by omega)]; omega) | (rw [n_obb (by omega)]; omega)), n_cl (by omega), n_cl (by omega), h4 pl (by omega), h3, s_rank sc h2 hr (by omega) hw, Option.bind_some]
    dsimp only
    rw [ifc (yrk_le hr hn hm hq), if_neg (c := nI (pl + 1) < 0 ∨ _) (by first | (rw [n_ob (by omega)]; omega) | (rw [n_obb (by omega)]; omega)), if_neg (c := nI (pl + 1) < 0 ∨ _) (by first | (rw [n_ob (by omega)]; omega) | (rw [n_obb (by omega)]; omega)), if_neg (c := nI pl < 0 ∨ _) (by first | (rw [n_ob (by omega)]; omega) | (rw [n_obb (by omega)]; omega))]
    by_cases c : ykey P way (od (ykey P way) m pl) ≤ ykey P way m
    · rw [if_pos c]
      refine ⟨_, rfl, fin (pl + 1) S h1 ?_ h4 h5, zfr_w0 _ _ _ rfl⟩
      have hl := ops_le (ykey P way) m
      obtain ⟨g1, g2⟩ := (od_ok (ykey P way) m).2 pl (by omega)
      have h7 := (ops_i (k := ykey P way) g1).mp c
      by_cases e : pl + 1 < ops (ykey P way) m
      · exfalso
        obtain ⟨g1, g2⟩ := (od_ok (ykey P way) m).2 (pl + 1) (by omega)
        have := (ops_i (k := ykey P way) g1).mpr (by omega)
        have := h6 (pl + 1) (by omega) (by omega)
        omega
      · omega
    · rw [if_neg c, h4 pl (by omega), n_m1 (by omega), show pl + 1 - 1 = pl by omega]
      obtain ⟨S', e1, e2, e3⟩ := ih (zw1 S 13 (pl + 1) (nI (od (ykey P way) m pl))) (by omega) (zPC_cg h2 (zw1_n _ _ (by omega)) (fun j => zw1_n _ _ (by omega))) (by rw [zw1_n _ _ (by omega)]; exact h3)
        (fun i hi => by rw [zw1_n _ _ (by omega)]; exact h4 i (by omega))
        (fun i hi hj => by
          by_cases e : i = pl + 1
          · rw [e, zw1_y, show pl + 1 - 1 = pl by omega]
          · rw [zw1_n _ _ (by omega)]; exact h5 i (by omega) hj)
        (fun i hi hj => by
          by_cases e : i = pl
          · rw [e]; omega
          · exact h6 i (by omega) hj)
      exact ⟨S', e1, e2, zfr_tr (zfr_w0 13 _ _ rfl) e3⟩
theorem s_lineUp (sc : zSc) {n : Nat} {P : Nat → Nat → Nat} {S : zS} (h : zPC n P S) (hr : zPR n P) {way m : Nat} (hw : way < 3) (hm : m < n) (h9 : S.1 12 9 = nI way) (ho : ∀ i, i < m → S.1 13 i = nI (od (ykey P way) m i)) :
    ∃ S', zcV sc zm_X0_lineUp [.ref 12, .int (nI m)] S = some S' ∧ (∀ i, i < m + 1 → S'.1 13 i = nI (od (ykey P way) (m + 1) i)) ∧ zfr (zx1 13) S S' := by
  obtain ⟨S', e1, e2, e3⟩ := s_lineUp_go sc hr hw hm m S (Nat.le_refl m) h h9 ho (fun i a b => by omega) (fun i a b => by omega)
  refine ⟨S', ?_, fun i hi => e2 i (by omega), e3⟩
  rw [c_X0_lineUp, h9, s_rank sc h hr hm hw, Option.bind_some]
  exact e1
/-! ===== the law made ready, and the call ===== -/
abbrev zCD (cs : List Int32) (S : zS) : Prop := S.1 6 2 = nI cs.length ∧ cs.length ≤ 121 ∧ xcd (S.1 7) 0 cs ∧ xok cs 0
abbrev zslw (P : Nat → Nat → Nat) : Nat → Nat := fun q => P q 1
abbrev zowy (P : Nat → Nat → Nat) (n : Nat) : Nat → Nat → Nat := fun way pl => od (ykey P way) n pl
theorem s_lawload_go (sc : zSc) {n : Nat} {P : Nat → Nat → Nat} : ∀ (k i : Nat) (S : zS), i + k = n → zPC n P S → (∀ q, q < i → S.1 10 q = nI (P q 1)) →
    ∃ S', zO zgV sc (zg1, (zm_X3_load, 4), 52, S, [some (.ref 6), some (.int (nI i))], []) = some S' ∧ (∀ q, q < n → S'.1 10 q = nI (P q 1)) ∧ zfr (zx1 10) S S'
  | 0, i, S, h1, h2, h3 => by
    have hn := h2.2.1
    refine ⟨S, ?_, fun q hq => h3 q (by omega), zfr_refl _ _⟩
    rw [e_X3_load_52, h2.1, if_pos (by rw [n_le (by omega) (by omega)]; omega)]
  | k + 1, i, S, h1, h2, h3 => by
    have hn := h2.2.1
    obtain ⟨S', e1, e2, e3⟩ := s_lawload_go sc (n := n) (P := P) k (i + 1) (zw1 S 10 i (nI (P i 1))) (by omega) (zPC_cg h2 (zw1_n _ _ (by omega)) (fun j => zw1_n _ _ (by omega))) (fun q hq => by
      by_cases e : q = i
      · rw [e, zw1_y]
      · rw [zw1_n _ _ (by omega)]; exact h3 q (by omega))
    refine ⟨S', ?_, e2, zfr_tr (zfr_w0 10 _ _ rfl) e3⟩
    rw [e_X3_load_52, h2.1, if_neg (by rw [n_le (by omega) (by omega)]; omega), s_get1 sc h2 (by omega), Option.bind_some]
    dsimp only
    rw [if_neg (by first | (rw [n_ob (by omega)]; omega) | (rw [n_obb (by omega)]; omega)), n_cl (by omega), n_s1]
    exact e1
theorem s_lawload (sc : zSc) {n : Nat} {P : Nat → Nat → Nat} {S : zS} {cs : List Int32} {gap : Nat} (h : zPC n P S) (hg : S.1 2 64 = nI gap) (hc : zCD cs S) (hk : S.1 6 7 = S.1 1 2 → zCL cs (zslw P) gap n (zowy P n) S) :
    ∃ S', zcV sc zm_X3_load [.ref 6] S = some S' ∧ zCL cs (zslw P) gap n (zowy P n) S' ∧ S'.1 6 7 = S.1 1 2 ∧ zfr (zk [8, 10, 11] [(6, 7)]) S S' := by
  rw [c_X3_load]
  by_cases c : S.1 6 7 = S.1 1 2
  · rw [if_neg (fun q => q c)]
    exact ⟨S, rfl, hk c, c, zfr_refl _ _⟩
  · rw [if_pos c]
    obtain ⟨S1, a1, a2, a3⟩ := s_fill11 sc (zw1 S 6 7 (S.1 1 2)) 0
    rw [a1, Option.bind_some]
    have f1 : zfr (zk [8, 10, 11] [(6, 7)]) S S1 := zfr_tr (zfr_w0 6 7 _ rfl) (zfr_up _ _ a3 rfl)
    have p1 : zPC n P S1 := zPC_cg h (f1.1 1 1 rfl) (fun j => f1.1 2 j rfl)
    rw [s_get8 sc (zPC_sz p1), Option.bind_some]
    dsimp only
    have f2 : zfr (zk [8, 10, 11] [(6, 7)]) S (zw1 S1 8 1 (S1.1 2 64)) := zfr_w f1 8 1 _ rfl
    obtain ⟨S2, b1, b2, b3⟩ := s_lawload_go sc (n := n) (P := P) n 0 (zw1 S1 8 1 (S1.1 2 64)) (by omega) (zPC_cg h (f2.1 1 1 rfl) (fun j => f2.1 2 j rfl)) (fun q hq => by omega)
    have f3 : zfr (zk [8, 10, 11] [(6, 7)]) S S2 := zfr_tr f2 (zfr_up _ _ b3 rfl)
    refine ⟨S2, b1, ⟨?_, hc.2.1, ?_, hc.2.2.2, ?_, b2, ?_⟩, ?_, f3⟩
    · rw [f3.1 6 2 rfl]; exact hc.1
    · exact xcd_cg (fun j => f3.1 7 j rfl) cs 0 hc.2.2.1
    · rw [b3.1 8 1 rfl, zw1_y, f1.1 2 64 rfl, hg]
    · intro way pl w lk g1 g2 g3 g4
      left
      rw [b3.1 11 _ rfl, zw1_n _ _ (by omega)]
      exact a2 _ (tat_lt h.2.1 g1 g2 g3 g4)
    · rw [b3.1 6 7 rfl, zw1_n _ _ (by omega), a3.1 6 7 rfl, zw1_y]
theorem s_load_go (sc : zSc) {n : Nat} {P : Nat → Nat → Nat} (hr : zPR n P) {way : Nat} (hw : way < 3) (x1 : Int32) : ∀ (k i : Nat) (S : zS), i + k = n → zPC n P S → S.1 12 9 = nI way →
    (∀ q, q < i → S.1 14 q = nI (P q 3) ∧ S.1 15 q = nI (P q 4) ∧ S.1 13 q = nI (od (ykey P way) i q)) →
    ∃ S', zO zgV sc (zg1, (zm_X0_load, 6), 14, S, [some (.ref 12), some (.int x1), some (.int (nI i))], []) = some S' ∧ (∀ q, q < n → S'.1 14 q = nI (P q 3) ∧ S'.1 15 q = nI (P q 4) ∧ S'.1 13 q = nI (od (ykey P way) n q)) ∧ zfr (zk [13, 14, 15] []) S S'
  | 0, i, S, h1, h2, h3, h4 => by
    have hn := h2.2.1
    have : i = n := by omega
    subst this
    refine ⟨S, ?_, h4, zfr_refl _ _⟩
    rw [e_X0_load_14, h2.1, if_pos (by rw [n_le (by omega) (by omega)]; omega)]
  | k + 1, i, S, h1, h2, h3, h4 => by
    have hn := h2.2.1
    have p1 : zPC n P (zw1 S 14 i (nI (P i 3))) := zPC_cg h2 (zw1_n _ _ (by omega)) (fun j => zw1_n _ _ (by omega))
    have f2 : zfr (zk [13, 14, 15] []) S (zw1 (zw1 S 14 i (nI (P i 3))) 15 i (nI (P i 4))) := zfr_w (zfr_w0 14 i _ rfl) 15 i _ rfl
    obtain ⟨S1, a1, a2, a3⟩ := s_lineUp sc (S := zw1 (zw1 S 14 i (nI (P i 3))) 15 i (nI (P i 4))) (zPC_cg h2 (f2.1 1 1 rfl) (fun j => f2.1 2 j rfl)) hr hw (m := i) (by omega) (by rw [f2.1 12 9 rfl]; exact h3) (fun q hq => by
      rw [zw1_n _ _ (by omega), zw1_n _ _ (by omega)]; exact (h4 q hq).2.2)
    have f3 : zfr (zk [13, 14, 15] []) S S1 := zfr_tr f2 (zfr_up _ _ a3 rfl)
    obtain ⟨S', e1, e2, e3⟩ := s_load_go sc hr hw x1 k (i + 1) S1 (by omega) (zPC_cg h2 (f3.1 1 1 rfl) (fun j => f3.1 2 j rfl)) (by rw [f3.1 12 9 rfl]; exact h3) (fun q hq => by
      refine ⟨?_, ?_, a2 q hq⟩
      · rw [a3.1 14 q rfl, zw1_n _ _ (by omega)]
        by_cases e : q = i
        · rw [e, zw1_y]
        · rw [zw1_n _ _ (by omega)]; exact (h4 q (by omega)).1
      · rw [a3.1 15 q rfl]
        by_cases e : q = i
        · rw [e, zw1_y]
        · rw [zw1_n _ _ (by omega), zw1_n _ _ (by omega)]; exact (h4 q (by omega)).2.1)
    refine ⟨S', ?_, e2, zfr_tr f3 e3⟩
    rw [e_X0_load_14, h2.1, if_neg (by rw [n_le (by omega) (by omega)]; omega), s_get3 sc h2 (by omega), Option.bind_some]
    dsimp only
    rw [if_neg (by first | (rw [n_ob (by omega)]; omega) | (rw [n_obb (by omega)]; omega)), n_cl (by omega), s_get4 sc p1 (by omega), Option.bind_some]
    dsimp only
    rw [if_neg (by first | (rw [n_ob (by omega)]; omega) | (rw [n_obb (by omega)]; omega)), a1, Option.bind_some, n_s1]
    exact e1
/-- what a loaded call knows -/
abbrev zLD (n way : Nat) (P : Nat → Nat → Nat) (S : zS) : Prop := S.1 12 9 = nI way ∧ ∀ q, q < n → S.1 14 q = nI (P q 3) ∧ S.1 15 q = nI (P q 4) ∧ S.1 13 q = nI (od (ykey P way) n q)
theorem s_load (sc : zSc) {n : Nat} {P : Nat → Nat → Nat} {S : zS} {cs : List Int32} {gap way : Nat} (h : zPC n P S) (hr : zPR n P) (hg : S.1 2 64 = nI gap) (hc : zCD cs S) (hk : S.1 6 7 = S.1 1 2 → zCL cs (zslw P) gap n (zowy P n) S) (hw : way < 3) :
    ∃ S', zcV sc zm_X0_load [.ref 12, .int (nI way)] S = some S' ∧ zCL cs (zslw P) gap n (zowy P n) S' ∧ S'.1 6 7 = S.1 1 2 ∧ zLD n way P S' ∧ zfr (zk [8, 10, 11, 13, 14, 15] [(6, 7), (12, 9)]) S S' := by
  have f1 : zfr (zk [8, 10, 11, 13, 14, 15] [(6, 7), (12, 9)]) S (zw1 S 12 9 (nI way)) := zfr_w0 12 9 _ rfl
  obtain ⟨S1, a1, a2, a3, a4⟩ := s_lawload sc (n := n) (P := P) (S := zw1 S 12 9 (nI way)) (cs := cs) (gap := gap) (zPC_cg h (f1.1 1 1 rfl) (fun j => f1.1 2 j rfl)) (by rw [f1.1 2 64 rfl]; exact hg)
    ⟨by rw [f1.1 6 2 rfl]; exact hc.1, hc.2.1, xcd_cg (fun j => f1.1 7 j rfl) cs 0 hc.2.2.1, hc.2.2.2⟩
    (fun e => zCL_cg (hk (by rw [zw1_n _ _ (by omega), zw1_n _ _ (by omega)] at e; exact e)) (f1.1 6 2 rfl) (fun j => f1.1 7 j rfl) (zw1_n _ _ (by omega)) (fun j => zw1_n _ _ (by omega)) (fun j => zw1_n _ _ (by omega)))
  have f2 : zfr (zk [8, 10, 11, 13, 14, 15] [(6, 7), (12, 9)]) S S1 := zfr_tr f1 (zfr_up _ _ a4 rfl)
  obtain ⟨S2, b1, b2, b3⟩ := s_load_go sc hr hw (nI way) n 0 S1 (by omega) (zPC_cg h (f2.1 1 1 rfl) (fun j => f2.1 2 j rfl)) (by rw [a4.1 12 9 rfl, zw1_y]) (fun q hq => by omega)
  refine ⟨S2, ?_, zCL_cg a2 (b3.1 6 2 rfl) (fun j => b3.1 7 j rfl) (b3.1 8 1 rfl) (fun j => b3.1 10 j rfl) (fun j => b3.1 11 j rfl), ?_, ⟨?_, b2⟩, zfr_tr f2 (zfr_up _ _ b3 rfl)⟩
  · rw [c_X0_load, a1, Option.bind_some]; exact b1
  · rw [b3.1 6 7 rfl, a3, zw1_n _ _ (by omega)]
  · rw [b3.1 12 9 rfl, a4.1 12 9 rfl, zw1_y]
/-- the bits of those of whom something holds -/
def hmk (f : Nat → Bool) : Nat → Nat
  | 0 => 0
  | m + 1 => if f m = true then hmk f m ||| 2 ^ m else hmk f m
theorem hmk_lt (f : Nat → Bool) : ∀ m, m ≤ 8 → hmk f m < 256
  | 0, _ => by show 0 < 256; omega
  | m + 1, h => by
    have := hmk_lt f m (by omega)
    unfold hmk
    split
    · exact n_orlt this (n_p2 (by omega))
    · exact this
theorem hmk_bt (f : Nat → Bool) (p : Nat) : ∀ m, (hmk f m).testBit p = (decide (p < m) && f p)
  | 0 => by simp [hmk]
  | m + 1 => by
    have ih := hmk_bt f p m
    unfold hmk
    by_cases e : f m = true
    · rw [if_pos e, Nat.testBit_or, ih, Nat.testBit_two_pow]
      by_cases q : p = m
      · subst q; simp [e]
      · have h1 : decide (m = p) = false := decide_eq_false (fun k => q k.symm)
        have h2 : decide (p < m + 1) = decide (p < m) := decide_eq_decide.mpr (by omega)
        rw [h1, h2, Bool.or_false]
    · rw [if_neg e, ih]
      by_cases q : p = m
      · subst q; simp [e]
      · have h2 : decide (p < m + 1) = decide (p < m) := decide_eq_decide.mpr (by omega)
        rw [h2]
theorem s_inLesson_go (sc : zSc) {n : Nat} {P : Nat → Nat → Nat} (hr : zPR n P) {l : Nat} (hl : l < 10) : ∀ (k i : Nat) (S : zS), i + k = n → zPC n P S → S.1 12 11 = nI (hmk (yhf P l) i) → (∀ q, q < i → S.1 16 q = nI (P q 7)) →
    ∃ S', zO zgV sc (zg1, (zm_X0_inLesson, 5), 7, S, [some (.ref 12), some (.int (nI l)), some (.int (nI i))], []) = some S' ∧ S'.1 12 11 = nI (hmk (yhf P l) n) ∧ (∀ q, q < n → S'.1 16 q = nI (P q 7)) ∧ zfr (zk [16] [(12, 11)]) S S'
  | 0, i, S, h1, h2, h3, h4 => by
    have hn := h2.2.1
    have : i = n := by omega
    subst this
    refine ⟨S, ?_, h3, h4, zfr_refl _ _⟩
    rw [e_X0_inLesson_7, h2.1, if_pos (by rw [n_le (by omega) (by omega)]; omega)]
  | k + 1, i, S, h1, h2, h3, h4 => by
    have hn := h2.2.1
    have f1 : zfr (zk [16] [(12, 11)]) S (zw1 S 16 i (nI (P i 7))) := zfr_w0 16 i _ rfl
    have p1 : zPC n P (zw1 S 16 i (nI (P i 7))) := zPC_cg h2 (f1.1 1 1 rfl) (fun j => f1.1 2 j rfl)
    have g4 : ∀ q, q < i + 1 → (zw1 S 16 i (nI (P i 7))).1 16 q = nI (P q 7) := fun q hq => by
      by_cases e : q = i
      · rw [e, zw1_y]
      · rw [zw1_n _ _ (by omega)]; exact h4 q (by omega)
    rw [e_X0_inLesson_7, h2.1, if_neg (by rw [n_le (by omega) (by omega)]; omega), s_get7 sc h2 (by omega), Option.bind_some]
    dsimp only
    rw [if_neg (by first | (rw [n_ob (by omega)]; omega) | (rw [n_obb (by omega)]; omega)), n_cl (by omega), s_isHere sc p1 hr (by omega) hl, Option.bind_some]
    dsimp only
    have hh : hmk (yhf P l) (i + 1) = if yhf P l i = true then hmk (yhf P l) i ||| 2 ^ i else hmk (yhf P l) i := rfl
    by_cases c : yhf P l i = true
    · rw [if_pos c] at hh
      rw [zb_t c, if_neg (by decide), n_s1, n_sh (by omega), zw1_n _ _ (by omega), h3, n_or]
      obtain ⟨S', e1, e2, e3, e4⟩ := s_inLesson_go sc hr hl k (i + 1) (zw1 (zw1 S 16 i (nI (P i 7))) 12 11 (nI (hmk (yhf P l) i ||| 2 ^ i))) (by omega) (zPC_cg p1 (zw1_n _ _ (by omega)) (fun j => zw1_n _ _ (by omega))) (by rw [zw1_y, hh]) (fun q hq => by rw [zw1_n _ _ (by omega)]; exact g4 q hq)
      exact ⟨S', e1, e2, e3, zfr_tr (zfr_w f1 12 11 _ rfl) e4⟩
    · rw [if_neg c] at hh
      rw [zb_f c, if_pos rfl, n_s1]
      obtain ⟨S', e1, e2, e3, e4⟩ := s_inLesson_go sc hr hl k (i + 1) (zw1 S 16 i (nI (P i 7))) (by omega) p1 (by rw [zw1_n _ _ (by omega), h3, hh]) g4
      exact ⟨S', e1, e2, e3, zfr_tr f1 e4⟩
theorem s_inLesson (sc : zSc) {n : Nat} {P : Nat → Nat → Nat} {S : zS} (h : zPC n P S) (hr : zPR n P) {l : Nat} (hl : l < 10) :
    ∃ S', zcV sc zm_X0_inLesson [.ref 12, .int (nI l)] S = some S' ∧ S'.1 12 11 = nI (hmk (yhf P l) n) ∧ (∀ q, q < n → S'.1 16 q = nI (P q 7)) ∧ zfr (zk [16] [(12, 11)]) S S' := by
  obtain ⟨S', e1, e2, e3, e4⟩ := s_inLesson_go sc hr hl n 0 (zw1 S 12 11 0) (by omega) (zPC_cg h (zw1_n _ _ (by omega)) (fun j => zw1_n _ _ (by omega))) (by rw [zw1_y]; rfl) (fun q hq => by omega)
  exact ⟨S', (c_X0_inLesson sc S (nI l)).trans e1, e2, e3, zfr_tr (zfr_w0 12 11 _ rfl) e4⟩
theorem s_withOnly (sc : zSc) (S : zS) (m : Nat) :
    ∃ S', zcV sc zm_X0_withOnly [.ref 12, .int (nI m)] S = some S' ∧ S'.1 12 11 = nI m ∧ (∀ q, q < 8 → S'.1 16 q = nI 0) ∧ zfr (zk [16] [(12, 11)]) S S' := by
  obtain ⟨S1, a1, a2, a3⟩ := s_fill16 sc (zw1 S 12 11 (nI m)) 0
  refine ⟨S1, ?_, ?_, a2, zfr_tr (zfr_w0 12 11 _ rfl) (zfr_up _ _ a3 rfl)⟩
  · rw [c_X0_withOnly, a1, Option.bind_some]
  · rw [a3.1 12 11 rfl, zw1_y]
