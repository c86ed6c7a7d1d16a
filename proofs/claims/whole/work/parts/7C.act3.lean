theorem zfr_nC (r : Nat) (l : List Nat) (S : zS) : zfr (zk [37] [(35, 3)]) S (ntsC r l S) :=
  ⟨fun c i k => ntsC_n l r S (fun e => by subst e; simp [zk] at k) (fun e => by obtain ⟨rfl, rfl⟩ := e; simp [zk] at k), ntsC_l l r S⟩
theorem zfr_nM (r : Nat) (l : List Nat) (S : zS) : zfr (zk [69] [(51, 37)]) S (ntsM r l S) :=
  ⟨fun c i k => ntsM_n l r S (fun e => by subst e; simp [zk] at k) (fun e => by obtain ⟨rfl, rfl⟩ := e; simp [zk] at k), ntsM_l l r S⟩
def acV (v : Int32) (k a : Nat) (x : Int32) : Int32 := if a = 0 then saV v k x else if a = 1 then heV v k k x else if a = 2 then maV v k k x else teV v k k x
def acN (k a : Nat) : List Nat := if a = 0 then saN k else if a = 1 then heN k k else if a = 2 then maN k k else teN k k
theorem acN_len (k a : Nat) : (acN k a).length ≤ 20 := by
  have h1 := saN_len k
  have h2 := heN_len k k
  have h3 := maN_len k k
  unfold acN
  split
  · omega
  · split
    · omega
    · split
      · omega
      · unfold teN
        split
        · rw [List.length_cons, List.length_cons, List.length_append]; omega
        · split
          · rw [List.length_cons, List.length_cons, List.length_append]; omega
          · rw [List.length_cons, List.length_append]; omega
theorem c_acts (sc : zSc) {S : zS} {k a : Nat} {v x : Int32} (hk : k ≤ 7) (ha : a < 4) (hr : S.1 35 3 = nI 0) (hv : S.1 35 4 = v) (h5 : S.1 35 5 = nI k) : zcI sc zm_X9_run [.ref 35, .int (nI a), .int (nI k), .int x, .int (0 : Int32)] S = some (acV v k a x, ntsC 0 (acN k a) S) := by
  rcases (by omega : a = 0 ∨ a = 1 ∨ a = 2 ∨ a = 3) with rfl | rfl | rfl | rfl
  · exact c_says sc (dp := 0) hk hr (by omega) (by omega) hv
  · exact c_hears sc (dp := 0) (k := k) hk hr (by omega) (by omega) hv hk h5
  · exact c_marks sc (dp := 0) (k := k) hk hr (by omega) (by omega) hv hk h5
  · exact c_tells sc (dp := 0) (k := k) hk hr (by omega) (by omega) hv hk h5
theorem zInv_act {t n : Nat} {P : Nat → Nat → Nat} {cs : List Int32} {gap cn ver vs : Nat} {S U : zS} (ht : ver ≤ t) (h1 : zV1 n P cs gap cn ver S) (h2 : zV2 S) (h3 : zV3 n S) (h4 : zV4 n S) (h5 : zV5 vs S) (h6 : zSHs vs S) (f : zfr (zk [37, 69] [(35, 3), (35, 4), (35, 5), (51, 37), (51, 38), (51, 39)]) S U)
    (g : ∃ r : Nat, r < 100000 ∧ U.1 35 3 = nI r ∧ U.1 51 37 = nI r ∧ ∀ i, i < 24 → i < r → U.1 37 i = U.1 69 i) : zInv (t + 32) U := by
  obtain ⟨d1, d2, d3, d4, _⟩ := h5
  refine ⟨n, P, cs, gap, cn, ver, vs, by omega, zV1_cg h1 (fun c i h => by rcases h with rfl | rfl | rfl | rfl | rfl | rfl | rfl | rfl | rfl <;> exact f.1 _ i rfl) (f.1 51 6 rfl) (f.1 51 11 rfl) (f.1 51 18 rfl), zV2_cg h2 (f.1 3 2 rfl) (f.1 51 9 rfl) (fun i => f.1 4 i rfl) (fun i => f.1 57 i rfl), zV3_cg h3 (f.1 24 7 rfl) (f.1 51 29 rfl) (f.1 24 6 rfl) (f.1 51 30 rfl) (fun c i h => by rcases h with rfl | rfl | rfl | rfl | rfl | rfl <;> exact f.1 _ i rfl) (fun c i h => by rcases h with rfl | rfl | rfl | rfl <;> exact f.1 _ i rfl), zV4_cg h4 (f.1 30 5 rfl) (f.1 51 5 rfl) (f.1 30 6 rfl) (f.1 51 4 rfl) (fun c i h => by rcases h with rfl | rfl | rfl | rfl | rfl | rfl | rfl <;> exact f.1 _ i rfl), ⟨d1, (f.1 35 2 rfl).trans d2, (f.1 51 34 rfl).trans d3, fun i hi => ?_, g⟩, zSHs_cg h6 (fun c i h => by rcases h with rfl | rfl | rfl | rfl | rfl | rfl | rfl | rfl <;> exact f.1 _ i rfl) f.2⟩
  obtain ⟨k, k1, k2, k3⟩ := d4 i hi
  exact ⟨k, k1, (f.1 36 i rfl).trans k2, (f.1 68 i rfl).trans k3⟩
theorem o_act (sc : zSc) {t : Nat} {S : zS} (h : zInv t S) (a1 a2 a3 : Int32) : zOp t (zcI sc zm_X10_act [.ref 0, .int a1, .int a2, .int a3] S) (fun S => zcI sc zm_X11_act [.ref 51, .int a1, .int a2, .int a3] S) := by
  obtain ⟨n, P, cs, gap, cn, ver, vs, ht, h1, h2, h3, h4, h5, h6⟩ := h
  have m1 : ¬ ((0 : Int32) ≠ 0) := fun q => q rfl
  have k01 : ¬ ((1 : Int32) = 0) := by decide
  have hfin := fun U : zS => zInv_act (U := U) ht h1 h2 h3 h4 h5 h6
  obtain ⟨d1, d2, d3, d4, _⟩ := h5
  obtain ⟨S0, hS0⟩ : ∃ S0, S0 = zw1 S 35 3 0 := ⟨_, rfl⟩
  have f0 : zfr (zk [] [(35, 3)]) S S0 := by rw [hS0]; exact zfr_w0 35 3 _ rfl
  have hC : zcI sc zm_X10_act [.ref 0, .int a1, .int a2, .int a3] S = ((if zb (rgp a1 vs) = 0 then some ((0 : Int32), S0) else (if zb (rg a2 3) ≠ 0 then (if a1 < 0 ∨ 50 ≤ a1.toNatClampNeg then none else ((zcI sc zm_X9_run [.ref 35, .int a2, .int (S0.1 36 a1.toNatClampNeg), .int a3, .int (0 : Int32)] (zw1 (zw1 S0 35 4 a1) 35 5 (S0.1 36 a1.toNatClampNeg))).bind (fun q3 => some (q3.1, q3.2)))) else some ((0 : Int32), S0)))).bind (fun q1 => some (q1.1, q1.2)) := by
    have w3 : zcI sc zm_X10_within [.int a2, .int (0 : Int32), .int (3 : Int32)] S0 = some (zb (rg a2 3), S0) := s_within sc S0 a2 0 3
    rw [c_X10_act, c_X9_perform, ← hS0, s_isOneV sc d1 ((f0.1 35 2 rfl).trans d2) a1, Option.bind_some]
    dsimp only
    rw [w3, Option.bind_some]
  have hM : ∀ T : zS, T.1 51 34 = nI vs → zcI sc zm_X11_act [.ref 51, .int a1, .int a2, .int a3] T = (if zb (rgp a1 vs) ≠ 0 then (if a1 < 0 ∨ 50 ≤ a1.toNatClampNeg then none else (if a2 = (0 : Int32) then (if zlv zm_X11_saysAs [.ref 51, .int ((zw1 T 51 37 0).1 68 a1.toNatClampNeg), .int a3] (zw1 (zw1 (zw1 T 51 37 0) 51 38 ((zw1 T 51 37 0).1 68 a1.toNatClampNeg)) 51 39 a1) < 41 then (zcI sc zm_X11_saysAs [.ref 51, .int ((zw1 T 51 37 0).1 68 a1.toNatClampNeg), .int a3] (zw1 (zw1 (zw1 T 51 37 0) 51 38 ((zw1 T 51 37 0).1 68 a1.toNatClampNeg)) 51 39 a1)).bind (fun q2 => some (q2.1, q2.2)) else none) else (if a2 = (1 : Int32) then (if zlv zm_X11_hearsAs [.ref 51, .int ((zw1 T 51 37 0).1 68 a1.toNatClampNeg), .int a3] (zw1 (zw1 (zw1 T 51 37 0) 51 38 ((zw1 T 51 37 0).1 68 a1.toNatClampNeg)) 51 39 a1) < 41 then (zcI sc zm_X11_hearsAs [.ref 51, .int ((zw1 T 51 37 0).1 68 a1.toNatClampNeg), .int a3] (zw1 (zw1 (zw1 T 51 37 0) 51 38 ((zw1 T 51 37 0).1 68 a1.toNatClampNeg)) 51 39 a1)).bind (fun q3 => some (q3.1, q3.2)) else none) else (if a2 = (2 : Int32) then (if zlv zm_X11_marksAs [.ref 51, .int ((zw1 T 51 37 0).1 68 a1.toNatClampNeg), .int a3] (zw1 (zw1 (zw1 T 51 37 0) 51 38 ((zw1 T 51 37 0).1 68 a1.toNatClampNeg)) 51 39 a1) < 41 then (zcI sc zm_X11_marksAs [.ref 51, .int ((zw1 T 51 37 0).1 68 a1.toNatClampNeg), .int a3] (zw1 (zw1 (zw1 T 51 37 0) 51 38 ((zw1 T 51 37 0).1 68 a1.toNatClampNeg)) 51 39 a1)).bind (fun q4 => some (q4.1, q4.2)) else none) else (if a2 = (3 : Int32) then (if zlv zm_X11_tellsAs [.ref 51, .int ((zw1 T 51 37 0).1 68 a1.toNatClampNeg), .int a3] (zw1 (zw1 (zw1 T 51 37 0) 51 38 ((zw1 T 51 37 0).1 68 a1.toNatClampNeg)) 51 39 a1) < 41 then (zcI sc zm_X11_tellsAs [.ref 51, .int ((zw1 T 51 37 0).1 68 a1.toNatClampNeg), .int a3] (zw1 (zw1 (zw1 T 51 37 0) 51 38 ((zw1 T 51 37 0).1 68 a1.toNatClampNeg)) 51 39 a1)).bind (fun q5 => some (q5.1, q5.2)) else none) else some ((0 : Int32), (zw1 (zw1 (zw1 T 51 37 0) 51 38 ((zw1 T 51 37 0).1 68 a1.toNatClampNeg)) 51 39 a1))))))) else some ((0 : Int32), zw1 T 51 37 0)) := fun T hT => by
    rw [c_X11_act, m_isBodyV sc d1 (S := zw1 T 51 37 0) (by rw [zw1_n _ _ (by omega)]; exact hT), Option.bind_some]
  by_cases c : rgp a1 vs
  case neg =>
    have f : zfr (zk [37, 69] [(35, 3), (35, 4), (35, 5), (51, 37), (51, 38), (51, 39)]) S (zw1 S0 51 37 0) := zfr_w (zfr_up _ _ f0 rfl) 51 37 _ rfl
    refine ⟨0, S0, zw1 S0 51 37 0, ?_, ?_, hfin _ f ⟨0, by omega, ?_, zw1_y _ _ _ _, fun i _ q => absurd q (by omega)⟩⟩
    · rw [hC, zb_f c, if_pos rfl, Option.bind_some]
    · show zcI sc zm_X11_act [.ref 51, .int a1, .int a2, .int a3] S0 = _
      rw [hM S0 ((f0.1 51 34 rfl).trans d3), zb_f c, if_neg m1]
    · rw [zw1_n _ _ (by omega), hS0, zw1_y]; rfl
  obtain ⟨b, rfl, hb⟩ := rgp_n c
  obtain ⟨k, hk, k36, k68⟩ := d4 b hb
  have ob : ¬ (nI b < 0 ∨ 50 ≤ (nI b).toNatClampNeg) := (by first | (rw [n_ob (by omega)]; omega) | (rw [n_obb (by omega)]; omega))
  by_cases c2 : rg a2 3
  case neg =>
    have e68 : (zw1 S0 51 37 0).1 68 b = nI k := by rw [zw1_n _ _ (by omega), f0.1 68 b rfl, k68]
    have f : zfr (zk [37, 69] [(35, 3), (35, 4), (35, 5), (51, 37), (51, 38), (51, 39)]) S (zw1 (zw1 (zw1 S0 51 37 0) 51 38 (nI k)) 51 39 (nI b)) := zfr_w (zfr_w (zfr_w (zfr_up _ _ f0 rfl) 51 37 _ rfl) 51 38 _ rfl) 51 39 _ rfl
    refine ⟨0, S0, zw1 (zw1 (zw1 S0 51 37 0) 51 38 (nI k)) 51 39 (nI b), ?_, ?_, hfin _ f ⟨0, by omega, ?_, ?_, fun i _ q => absurd q (by omega)⟩⟩
    · rw [hC, zb_t c, if_neg k01, zb_f c2, if_neg m1, Option.bind_some]
    · show zcI sc zm_X11_act [.ref 51, .int (nI b), .int a2, .int a3] S0 = _
      have nq : ∀ j : Nat, j < 4 → ¬ (a2 = nI j) := fun j hj e => by
        subst e
        apply c2
        unfold rg
        rw [zi_nI (by omega)]; omega
      rw [hM S0 ((f0.1 51 34 rfl).trans d3), zb_t c, if_pos (by decide), if_neg ob, n_cl (a := b) (by omega), e68, if_neg (c := a2 = (0 : Int32)) (nq 0 (by omega)), if_neg (c := a2 = (1 : Int32)) (nq 1 (by omega)), if_neg (c := a2 = (2 : Int32)) (nq 2 (by omega)), if_neg (c := a2 = (3 : Int32)) (nq 3 (by omega))]
    · rw [zw1_n _ _ (by omega), zw1_n _ _ (by omega), zw1_n _ _ (by omega), hS0, zw1_y]; rfl
    · rw [zw1_n _ _ (by omega), zw1_n _ _ (by omega), zw1_y]; rfl
  obtain ⟨a, rfl, ha⟩ := rg_n c2
  obtain ⟨S1, hS1⟩ : ∃ S1, S1 = zw1 (zw1 S0 35 4 (nI b)) 35 5 (nI k) := ⟨_, rfl⟩
  have f1 : zfr (zk [] [(35, 3), (35, 4), (35, 5)]) S S1 := by rw [hS1]; exact zfr_w (zfr_w (zfr_up _ _ f0 rfl) 35 4 _ rfl) 35 5 _ rfl
  have g3 : S1.1 35 3 = nI 0 := by rw [hS1, zw1_n _ _ (by omega), zw1_n _ _ (by omega), hS0, zw1_y]; rfl
  have g4 : S1.1 35 4 = nI b := by rw [hS1, zw1_n _ _ (by omega), zw1_y]
  have g5 : S1.1 35 5 = nI k := by rw [hS1, zw1_y]
  obtain ⟨T, hT⟩ : ∃ T, T = ntsC 0 (acN k a) S1 := ⟨_, rfl⟩
  have fT : zfr (zk [37] [(35, 3), (35, 4), (35, 5)]) S T := by rw [hT]; exact zfr_tr (zfr_up _ _ f1 rfl) (zfr_up _ _ (zfr_nC 0 (acN k a) S1) rfl)
  obtain ⟨M1, hM1⟩ : ∃ M1, M1 = zw1 (zw1 (zw1 T 51 37 0) 51 38 (nI k)) 51 39 (nI b) := ⟨_, rfl⟩
  have fM1 : zfr (zk [] [(51, 37), (51, 38), (51, 39)]) T M1 := by rw [hM1]; exact zfr_w (zfr_w (zfr_w0 51 37 _ rfl) 51 38 _ rfl) 51 39 _ rfl
  have j3 : M1.1 51 37 = nI 0 := by rw [hM1, zw1_n _ _ (by omega), zw1_n _ _ (by omega), zw1_y]; rfl
  have j4 : M1.1 51 39 = nI b := by rw [hM1, zw1_y]
  have j5 : M1.1 51 38 = nI k := by rw [hM1, zw1_n _ _ (by omega), zw1_y]
  have len := acN_len k a
  have e68 : (zw1 T 51 37 0).1 68 b = nI k := by rw [zw1_n _ _ (by omega), fT.1 68 b rfl, k68]
  obtain ⟨U, hU⟩ : ∃ U, U = ntsM 0 (acN k a) M1 := ⟨_, rfl⟩
  have fU : zfr (zk [69] [(51, 37), (51, 38), (51, 39)]) T U := by rw [hU]; exact zfr_tr (zfr_up _ _ fM1 rfl) (zfr_up _ _ (zfr_nM 0 (acN k a) M1) rfl)
  have f : zfr (zk [37, 69] [(35, 3), (35, 4), (35, 5), (51, 37), (51, 38), (51, 39)]) S U := zfr_tr (zfr_up _ _ fT rfl) (zfr_up _ _ fU rfl)
  refine ⟨acV (nI b) k a a3, T, U, ?_, ?_, hfin _ f ⟨0 + (acN k a).length, by omega, ?_, ?_, fun i q1 q2 => ?_⟩⟩
  · rw [hC, zb_t c, if_neg k01, zb_t c2, if_pos (by decide), if_neg ob, n_cl (a := b) (by omega), f0.1 36 b rfl, k36, ← hS1, c_acts sc (by omega) (by omega) g3 g4 g5, ← hT]; rfl
  · show zcI sc zm_X11_act [.ref 51, .int (nI b), .int (nI a), .int a3] T = _
    rw [hM T ((fT.1 51 34 rfl).trans d3), zb_t c, if_pos (by decide), if_neg ob, n_cl (a := b) (by omega), e68, ← hM1]
    rcases (by omega : a = 0 ∨ a = 1 ∨ a = 2 ∨ a = 3) with rfl | rfl | rfl | rfl
    · rw [if_pos (by decide), lv_says _ _ (by omega), if_pos (by omega), m_says sc (by omega) j3 (by omega) j4, hU]; rfl
    · rw [if_neg (by decide), if_pos (by decide), lv_hears _ _ (by omega), if_pos (by omega), m_hears sc (k := k) (by omega) j3 (by omega) j4 (by omega) j5, hU]; rfl
    · rw [if_neg (by decide), if_neg (by decide), if_pos (by decide), lv_marks _ _ (by omega), if_pos (by omega), m_marks sc (k := k) (by omega) j3 (by omega) j4 (by omega) j5, hU]; rfl
    · rw [if_neg (by decide), if_neg (by decide), if_neg (by decide), if_pos (by decide), lv_tells _ _ (by omega), if_pos (by omega), m_tells sc (k := k) (by omega) j3 (by omega) j4 (by omega) j5, hU]; rfl
  · rw [fU.1 35 3 rfl, hT]; exact ntsC_r (acN k a) 0 S1 g3
  · rw [hU]; exact ntsM_r (acN k a) 0 M1 j3
  · rw [fU.1 37 i rfl, hT, hU]
    exact nts_eq (acN k a) 0 S1 M1 (fun i _ q => absurd q (by omega)) i q1 q2
