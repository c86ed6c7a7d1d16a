/-! ===== how many tenths a name takes ===== -/
def tcl (v : Int32) : Nat := if v.toInt < 1 then 1 else if 999 < v.toInt then 999 else v.toInt.toNat
theorem tcl_b (v : Int32) : 1 ≤ tcl v ∧ tcl v ≤ 999 := by unfold tcl; split <;> (try split) <;> omega
theorem tcl_m (v : Int32) : (if (1 : Int32) < (if v < (999 : Int32) then v else (999 : Int32)) then (if v < (999 : Int32) then v else (999 : Int32)) else (1 : Int32)) = nI (tcl v) := by
  have e1 : (1 : Int32).toInt = 1 := rfl
  have e9 : (999 : Int32).toInt = 999 := rfl
  have hb := tcl_b v
  rw [zi_eq, zi_nI (by omega)]
  simp only [zi_lt, e9, e1]
  unfold tcl
  by_cases h1 : v.toInt < 999
  · rw [if_pos h1]
    by_cases h2 : 1 < v.toInt
    · rw [if_pos h2, if_neg (by omega), if_neg (by omega)]; omega
    · rw [if_neg h2, e1]
      by_cases h3 : v.toInt < 1
      · rw [if_pos h3]; rfl
      · rw [if_neg h3, if_neg (by omega)]; omega
  · rw [if_neg h1, e9, if_pos (by omega), e9, if_neg (by omega)]
    by_cases h2 : 999 < v.toInt
    · rw [if_pos h2]; rfl
    · rw [if_neg h2]; omega
def zwho (w : Nat) : Int32 := nI w - 1
theorem zwho0 : zwho 0 = -1 := by decide
theorem zwhoS (q : Nat) : zwho (q + 1) = nI q := n_p1 (by omega)
theorem zwho_e (w : Nat) : zwho w + 1 = nI w := by unfold zwho; exact Int32.sub_add_cancel _ _
theorem zwho_m1 {w : Nat} (h : w < 2147483648) : (zwho w = -1) = (w = 0) := by
  cases w with
  | zero => exact propext ⟨fun _ => rfl, fun _ => zwho0⟩
  | succ q =>
    refine propext ⟨fun e => ?_, fun e => absurd e (by omega)⟩
    rw [zwhoS, zi_eq, zi_nI (by omega), show (-1 : Int32).toInt = -1 from rfl] at e
    omega
theorem zwho_n {w p : Nat} (h : w < 2147483648) (hp : p < 2147483648) : (zwho w = nI p) = (w = p + 1) := by
  cases w with
  | zero =>
    refine propext ⟨fun e => ?_, fun e => absurd e (by omega)⟩
    rw [zwho0, zi_eq, zi_nI hp, show (-1 : Int32).toInt = -1 from rfl] at e
    omega
  | succ q =>
    rw [zwhoS, n_eq (by omega) hp]; exact propext ⟨fun e => by omega, fun e => by omega⟩
theorem zwho_nm1 {w : Nat} (h : w < 2147483648) : (zwho w ≠ -1) = (w ≠ 0) := by rw [ne_eq, zwho_m1 h]
theorem zwho_nn {w p : Nat} (h : w < 2147483648) (hp : p < 2147483648) : (zwho w ≠ nI p) = (w ≠ p + 1) := by rw [ne_eq, zwho_n h hp]
theorem zwho_lt0 {w : Nat} (h : w < 2147483648) : (zwho w < 0) = (w = 0) := by
  cases w with
  | zero => exact propext ⟨fun _ => rfl, fun _ => by rw [zwho0]; decide⟩
  | succ q => rw [zwhoS, n_lt0 (by omega)]; exact propext ⟨False.elim, fun e => absurd e (by omega)⟩
def tsw (sl : Nat → Nat) (w : Nat) : Nat := if w = 0 then 0 else sl (w - 1)
def tkd (p w : Nat) : Nat := if w = 0 then 0 else if w = p + 1 then 1 else 2
def tnm (sl : Nat → Nat) (gap way pl p w lk : Nat) : Nat → Int32 := fun i =>
  if i = 0 then nI (tsw sl w) else if i = 1 then nI gap else if i = 2 then nI (tkd p w) else if i = 3 then nI pl else if i = 4 then nI way else nI lk
def twv (cs : List Int32) (sl : Nat → Nat) (gap way pl p w lk : Nat) : Int32 :=
  if cs = [] then nI (tsw sl w + (if tkd p w = 0 then gap else if tkd p w = 2 then 5 else 0) + lk * 10) else xgo (tnm sl gap way pl p w lk) cs [] true
def ttv (cs : List Int32) (sl : Nat → Nat) (gap way pl p w lk : Nat) : Nat := tcl (twv cs sl gap way pl p w lk)
def tat (way pl w lk : Nat) : Nat := ((way * 8 + pl) * 9 + w) * 2 + lk
/-- the law's row of what is known is right -/
abbrev zCL (cs : List Int32) (sl : Nat → Nat) (gap n : Nat) (ow : Nat → Nat → Nat) (S : zS) : Prop :=
  S.1 6 2 = nI cs.length ∧ cs.length ≤ 121 ∧ xcd (S.1 7) 0 cs ∧ xok cs 0 ∧ S.1 8 1 = nI gap ∧ (∀ q, q < n → S.1 10 q = nI (sl q)) ∧
  (∀ way pl w lk, way < 3 → pl < n → w ≤ n → lk < 2 → S.1 11 (tat way pl w lk) = 0 ∨ S.1 11 (tat way pl w lk) = nI (ttv cs sl gap way pl (ow way pl) w lk))
theorem zCL_cg {cs : List Int32} {sl : Nat → Nat} {gap n : Nat} {ow : Nat → Nat → Nat} {S S' : zS} (h : zCL cs sl gap n ow S) (f6 : S'.1 6 2 = S.1 6 2) (f7 : ∀ j, S'.1 7 j = S.1 7 j) (f8 : S'.1 8 1 = S.1 8 1) (f10 : ∀ j, S'.1 10 j = S.1 10 j) (f11 : ∀ j, S'.1 11 j = S.1 11 j) : zCL cs sl gap n ow S' :=
  ⟨f6.trans h.1, h.2.1, xcd_cg f7 cs 0 h.2.2.1, h.2.2.2.1, f8.trans h.2.2.2.2.1, fun q k => (f10 q).trans (h.2.2.2.2.2.1 q k), fun way pl w lk a b c d => by rw [f11]; exact h.2.2.2.2.2.2 way pl w lk a b c d⟩
theorem tat_lt {n way pl w lk : Nat} (hn : n ≤ 8) (h1 : way < 3) (h2 : pl < n) (h3 : w ≤ n) (h4 : lk < 2) : tat way pl w lk < 432 := by unfold tat; omega
theorem tat_inj {n way pl w lk way' pl' w' lk' : Nat} (hn : n ≤ 8) (h1 : way < 3) (h2 : pl < n) (h3 : w ≤ n) (h4 : lk < 2) (g1 : way' < 3) (g2 : pl' < n) (g3 : w' ≤ n) (g4 : lk' < 2) (e : tat way pl w lk = tat way' pl' w' lk') : way = way' ∧ pl = pl' ∧ w = w' ∧ lk = lk' := by
  unfold tat at e; omega
theorem xnm_cg {N M : Nat → Int32} (h : ∀ i, i < 6 → N i = M i) (s : Int32) : xnm N s = xnm M s := by
  unfold xnm; rw [h 0 (by omega), h 1 (by omega), h 2 (by omega), h 3 (by omega), h 4 (by omega), h 5 (by omega)]
theorem s_tenths (sc : zSc) {cs : List Int32} {sl : Nat → Nat} {gap n : Nat} {ow : Nat → Nat → Nat} {S : zS} (hC : zCL cs sl gap n ow S) (hn : n ≤ 8) {way pl w lk : Nat} (h1 : way < 3) (h2 : pl < n) (h3 : w ≤ n) (h4 : lk < 2) (h5 : ow way pl < 8) :
    ∃ S', zcI sc zm_X3_tenths [.ref 6, .int (nI way), .int (nI pl), .int (nI (ow way pl)), .int (zwho w), .int (nI lk)] S = some (nI (ttv cs sl gap way pl (ow way pl) w lk), S') ∧ zCL cs sl gap n ow S' ∧ zfr (zk [8, 9, 11] []) S S' := by
  have hat : (((((((nI way * (8 : Int32)) + nI pl) * (9 : Int32)) + zwho w) + (1 : Int32)) * (2 : Int32)) + nI lk) = nI (tat way pl w lk) := by
    rw [Int32.add_assoc _ (zwho w) 1, zwho_e, show (8 : Int32) = nI 8 from rfl, show (9 : Int32) = nI 9 from rfl, show (2 : Int32) = nI 2 from rfl]
    rw [zn_mul, zn_add, zn_mul, zn_add, zn_mul, zn_add]; rfl
  have hlt := tat_lt hn h1 h2 h3 h4
  have htv := tcl_b (twv cs sl gap way pl (ow way pl) w lk)
  rw [c_X3_tenths, hat, s_within, Option.bind_some]
  dsimp only
  rw [zb_t (by rw [zi_nI (by omega), show (0 : Int32).toInt = 0 from rfl, show ((Int32.ofNat 432) - (1 : Int32)).toInt = 431 from by decide]; omega)]
  rw [if_pos (by decide), if_neg (by rw [n_ob (by omega)]; omega), n_cl (by omega)]
  by_cases hk : S.1 11 (tat way pl w lk) = 0
  · rw [if_neg (fun q => q hk)]
    -- at 103 with the names S and K laid
    have h103 : ∀ S1 : zS, zfr (zk [8] []) S S1 → S1.1 8 1 = nI gap → S1.1 8 0 = nI (tsw sl w) →
        ∃ S', zO zgI sc (zg1, (zm_X3_tenths, 3), 103, S1, [some (.ref 6), some (.int (nI way)), some (.int (nI pl)), some (.int (nI (ow way pl))), some (.int (zwho w)), some (.int (nI lk)), some (.int (nI (tat way pl w lk)))], [.int (nI (tkd (ow way pl) w)), .int (2 : Int32), .ref 8]) = some (nI (ttv cs sl gap way pl (ow way pl) w lk), S') ∧ zCL cs sl gap n ow S' ∧ zfr (zk [8, 9, 11] []) S S' := by
      intro S1 f1 f2 f3
      rw [e_X3_tenths_103, if_neg (by decide), show (2 : Int32).toNatClampNeg = 2 from rfl]
      have hS2 : ∀ S2 : zS, S2 = zw1 (zw1 (zw1 (zw1 S1 8 2 (nI (tkd (ow way pl) w))) 8 3 (nI pl)) 8 4 (nI way)) 8 5 (nI lk) → zfr (zk [8] []) S S2 ∧ ∀ i, i < 6 → S2.1 8 i = tnm sl gap way pl (ow way pl) w lk i := by
        intro S2 e2
        subst e2
        refine ⟨zfr_w (zfr_w (zfr_w (zfr_w f1 8 2 _ rfl) 8 3 _ rfl) 8 4 _ rfl) 8 5 _ rfl, ?_⟩
        intro i hi
        rcases (by omega : i = 0 ∨ i = 1 ∨ i = 2 ∨ i = 3 ∨ i = 4 ∨ i = 5) with rfl | rfl | rfl | rfl | rfl | rfl
        · rw [zw1_n _ _ (by omega), zw1_n _ _ (by omega), zw1_n _ _ (by omega), zw1_n _ _ (by omega), f3]; rfl
        · rw [zw1_n _ _ (by omega), zw1_n _ _ (by omega), zw1_n _ _ (by omega), zw1_n _ _ (by omega), f2]; rfl
        · rw [zw1_n _ _ (by omega), zw1_n _ _ (by omega), zw1_n _ _ (by omega), zw1_y]; rfl
        · rw [zw1_n _ _ (by omega), zw1_n _ _ (by omega), zw1_y]; rfl
        · rw [zw1_n _ _ (by omega), zw1_y]; rfl
        · rw [zw1_y]; rfl
      obtain ⟨g1, g2⟩ := hS2 _ rfl
      generalize zw1 (zw1 (zw1 (zw1 S1 8 2 (nI (tkd (ow way pl) w))) 8 3 (nI pl)) 8 4 (nI way)) 8 5 (nI lk) = S2 at g1 g2 ⊢
      -- the end: what was worked out is kept
      have fin : ∀ S3 : zS, zfr (zk [8, 9] []) S S3 → S3.1 8 1 = nI gap → ∀ v : Int32, v = twv cs sl gap way pl (ow way pl) w lk →
          zCL cs sl gap n ow (zw1 S3 11 (tat way pl w lk) (nI (tcl v))) ∧ zfr (zk [8, 9, 11] []) S (zw1 S3 11 (tat way pl w lk) (nI (tcl v))) := by
        intro S3 k1 k2 v ev
        refine ⟨⟨?_, hC.2.1, ?_, hC.2.2.2.1, ?_, ?_, ?_⟩, zfr_w (zfr_up [8, 9, 11] [] k1 rfl) _ _ _ rfl⟩
        · rw [zw1_n _ _ (by omega), k1.1 6 2 rfl]; exact hC.1
        · exact xcd_cg (fun j => by rw [zw1_n _ _ (by omega)]; exact k1.1 7 j rfl) cs 0 hC.2.2.1
        · rw [zw1_n _ _ (by omega)]; exact k2
        · intro q hq
          rw [zw1_n _ _ (by omega), k1.1 10 q rfl]; exact hC.2.2.2.2.2.1 q hq
        · intro way' pl' w' lk' a b c d
          by_cases e : tat way' pl' w' lk' = tat way pl w lk
          · obtain ⟨e1, e2, e3, e4⟩ := tat_inj hn a b c d h1 h2 h3 h4 e
            subst e1; subst e2; subst e3; subst e4
            right
            rw [zw1_y, ev]; rfl
          · rw [zw1_n _ _ (fun q => e q.2), k1.1 11 _ rfl]
            exact hC.2.2.2.2.2.2 way' pl' w' lk' a b c d
      rw [f1.1 6 2 rfl, hC.1]
      by_cases hcs : cs = []
      · rw [if_neg (by rw [hcs]; decide)]
        have hwt : zcI sc zm_X3_withoutText [.ref 6] S2 = some (twv cs sl gap way pl (ow way pl) w lk, S2) := by
          rw [c_X3_withoutText, g2 0 (by omega), g2 1 (by omega), g2 2 (by omega), g2 5 (by omega)]
          show (if nI (tkd (ow way pl) w) ≠ 0 then (if nI (tkd (ow way pl) w) ≠ (2 : Int32) then some ((nI (tsw sl w) + (0 : Int32)) + (nI lk * (10 : Int32)), S2) else some ((nI (tsw sl w) + (5 : Int32)) + (nI lk * (10 : Int32)), S2)) else some ((nI (tsw sl w) + nI gap) + (nI lk * (10 : Int32)), S2)) = _
          unfold twv
          rw [if_pos hcs, show (10 : Int32) = nI 10 from rfl, zn_mul, show (5 : Int32) = nI 5 from rfl, show (0 : Int32) = nI 0 from rfl, zn_add, zn_add, zn_add, zn_add, zn_add, zn_add]
          have ht : tkd (ow way pl) w ≤ 2 := by unfold tkd; split <;> (try split) <;> omega
          rw [show (2 : Int32) = nI 2 from rfl, ifc (n_ne (a := tkd (ow way pl) w) (b := 0) (by omega) (by omega)), ifc (n_ne (a := tkd (ow way pl) w) (b := 2) (by omega) (by omega))]
          by_cases t0 : tkd (ow way pl) w = 0
          · rw [if_neg (fun q => q t0), if_pos t0]
          · rw [if_pos t0, if_neg t0]
            by_cases t2 : tkd (ow way pl) w = 2
            · rw [if_neg (fun q => q t2), if_pos t2]
            · rw [if_pos t2, if_neg t2]
        rw [hwt, Option.bind_some]
        rw [if_neg (by rw [n_ob (by omega)]; omega), n_cl (by omega), if_neg (by rw [n_obb (by omega)]; omega)]
        dsimp only
        rw [tcl_m, zw1_y]
        obtain ⟨r1, r2⟩ := fin S2 (zfr_up [8, 9] [] g1 rfl) (g2 1 (by omega)) _ rfl
        exact ⟨_, rfl, r1, r2⟩
      · have hne : cs.length ≠ 0 := fun q => hcs (List.length_eq_zero_iff.mp q)
        have hle := hC.2.1
        rw [if_pos (by rw [ne_eq, n_eq0 (by omega)]; exact hne)]
        obtain ⟨S3, b1, b2⟩ := s_byText sc (tnm sl gap way pl (ow way pl) w lk) cs S2 (by rw [g1.1 6 2 rfl]; exact hC.1) hle (xcd_cg (fun j => g1.1 7 j rfl) cs 0 hC.2.2.1) hC.2.2.2.1 (xnm_cg g2)
        rw [b1, Option.bind_some]
        rw [if_neg (by rw [n_ob (by omega)]; omega), n_cl (by omega), if_neg (by rw [n_obb (by omega)]; omega)]
        dsimp only
        rw [tcl_m, zw1_y]
        have hw : xgo (tnm sl gap way pl (ow way pl) w lk) cs [] true = twv cs sl gap way pl (ow way pl) w lk := by unfold twv; rw [if_neg hcs]
        obtain ⟨r1, r2⟩ := fin S3 (zfr_tr (zfr_up [8, 9] [] g1 rfl) (zfr_up [8, 9] [] b2 rfl)) (by rw [b2.1 8 1 rfl]; exact g2 1 (by omega)) _ hw
        rw [hw] at r1 r2 ⊢
        exact ⟨_, rfl, r1, r2⟩
    -- at 76, the name S worked out
    have h76 : ∃ S', zO zgI sc (zg1, (zm_X3_tenths, 3), 76, S, [some (.ref 6), some (.int (nI way)), some (.int (nI pl)), some (.int (nI (ow way pl))), some (.int (zwho w)), some (.int (nI lk)), some (.int (nI (tat way pl w lk)))], [.int (nI (tsw sl w)), .int (0 : Int32), .ref 8]) = some (nI (ttv cs sl gap way pl (ow way pl) w lk), S') ∧ zCL cs sl gap n ow S' ∧ zfr (zk [8, 9, 11] []) S S' := by
      rw [e_X3_tenths_76, if_neg (by decide), show (0 : Int32).toNatClampNeg = 0 from rfl]
      have := h103 (zw1 S 8 0 (nI (tsw sl w))) (zfr_w0 8 0 _ rfl) (by rw [zw1_n _ _ (by omega)]; exact hC.2.2.2.2.1) (zw1_y _ _ _ _)
      rw [ifc (zwho_nm1 (w := w) (by omega)), ifc (zwho_nn (w := w) (p := ow way pl) (by omega) (by omega))]
      unfold tkd at this
      by_cases w0 : w = 0
      · rw [if_neg (fun q => q w0)]
        rw [if_pos w0] at this
        exact this
      · rw [if_pos w0]
        rw [if_neg w0] at this
        by_cases w1 : w = ow way pl + 1
        · rw [if_neg (fun q => q w1)]
          rw [if_pos w1] at this
          exact this
        · rw [if_pos w1]
          rw [if_neg w1] at this
          exact this
    rw [s_within, Option.bind_some]
    dsimp only
    cases w with
    | zero =>
      rw [zb_f (by rw [zwho0]; decide), if_pos rfl]
      exact h76
    | succ q =>
      rw [zwhoS] at h76 ⊢
      rw [zb_t (by rw [zi_nI (by omega), show (0 : Int32).toInt = 0 from rfl, show (7 : Int32).toInt = 7 from rfl]; omega), if_neg (by decide), if_neg (by rw [n_ob (by omega)]; omega), n_cl (by omega), hC.2.2.2.2.2.1 q (by omega)]
      exact h76
  · rw [if_pos hk, if_neg (by rw [n_obb (by omega)]; omega)]
    refine ⟨S, ?_, hC, zfr_refl _ _⟩
    rw [(hC.2.2.2.2.2.2 way pl w lk h1 h2 h3 h4).resolve_left hk]
