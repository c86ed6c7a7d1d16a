/-! ===== mend ===== -/
def loI (w : Nat) : Int := if w = 1 then 1 else if w = 2 then -1 else 0
def hiI (w : Nat) : Int := if w = 2 then 15 else if w = 3 then 7 else if w = 4 then 255 else if w = 5 ∨ w = 6 then 9 else if w = 7 then 999 else 99
abbrev fitI (w : Nat) (v : Int32) : Prop := loI w ≤ v.toInt ∧ v.toInt ≤ hiI w
theorem s_fitsN (sc : zSc) (S : zS) {w : Nat} (hw : w < 10) (v : Int32) : zcI sc zm_X4_fits [.int (nI w), .int v] S = some (zb (fitI w v), S) := by
  rw [s_fits]
  refine zb_sm ?_
  unfold zfit fitI
  have e : (zsf 0 (nI w).toNatClampNeg).toInt = loI w ∧ (zsf 1 (nI w).toNatClampNeg).toInt = hiI w ∧ 0 ≤ (nI w).toInt ∧ (nI w).toInt ≤ 9 := by
    rcases (by omega : w = 0 ∨ w = 1 ∨ w = 2 ∨ w = 3 ∨ w = 4 ∨ w = 5 ∨ w = 6 ∨ w = 7 ∨ w = 8 ∨ w = 9) with rfl | rfl | rfl | rfl | rfl | rfl | rfl | rfl | rfl | rfl <;> decide
  rw [e.1, e.2.1]
  exact ⟨fun q => q.2.2, fun q => ⟨e.2.2.1, e.2.2.2, q⟩⟩
theorem m_mayBecome (sc : zSc) (S : zS) {w : Nat} (hw : w < 10) (v : Int32) : zcI sc zm_X11_mayBecome [.int (nI w), .int v] S = some (zb (fitI w v), S) := by
  rcases (by omega : w = 0 ∨ w = 1 ∨ w = 2 ∨ w = 3 ∨ w = 4 ∨ w = 5 ∨ w = 6 ∨ w = 7 ∨ w = 8 ∨ w = 9) with rfl | rfl | rfl | rfl | rfl | rfl | rfl | rfl | rfl | rfl <;>
  · rw [c_X11_mayBecome]
    simp only [m_within, Option.bind_some]
    refine Eq.trans zb_id (zb_sm ?_)
    rw [l32]
    exact Iff.rfl
theorem fit_n {w : Nat} (hw : w < 10) {v : Int32} (h : fitI w v) : ∃ x, v = zpv w x ∧ ftN w x := by
  unfold fitI loI hiI at h
  by_cases c : w = 2
  · subst c
    have h1 : -1 ≤ v.toInt := h.1
    have h2 : v.toInt ≤ 15 := h.2
    refine ⟨(v.toInt + 1).toNat, ?_, by omega⟩
    show v = (if 2 = 2 then zwho (v.toInt + 1).toNat else nI (v.toInt + 1).toNat)
    rw [if_pos rfl]
    by_cases z : v.toInt = -1
    · rw [z]
      rw [show (-1 + 1 : Int).toNat = 0 from rfl, zwho0, zi_eq, z]; rfl
    · obtain ⟨j, hj, rfl⟩ := zi_of (x := v) (by omega)
      rw [zi_nI hj, show ((j : Int) + 1).toNat = j + 1 by omega, zwhoS]
  · obtain ⟨j, hj, rfl⟩ := zi_of (x := v) (by
      have := h.1
      rw [if_neg c] at this
      split at this <;> omega)
    rw [zi_nI hj] at h
    refine ⟨j, ?_, ?_⟩
    · show nI j = (if w = 2 then zwho j else nI j)
      rw [if_neg c]
    · rcases (by omega : w = 0 ∨ w = 1 ∨ w = 3 ∨ w = 4 ∨ w = 5 ∨ w = 6 ∨ w = 7 ∨ w = 8 ∨ w = 9) with rfl | rfl | rfl | rfl | rfl | rfl | rfl | rfl | rfl <;> simp at h <;> omega
theorem vlN_ft {n : Nat} {P : Nat → Nat → Nat} {cs : List Int32} {gap cn ver : Nat} {S : zS} (h : zV1 n P cs gap cn ver S) {p w : Nat} (hv : vld n p w) : ∃ b, vlN P gap cn p w = zpv w b ∧ ftN w b := by
  unfold vlN
  by_cases c : w < 8
  · have := h.1.2.1 p (by omega)
    refine ⟨P p w, if_pos c, ?_⟩
    rcases (by omega : w = 0 ∨ w = 1 ∨ w = 2 ∨ w = 3 ∨ w = 4 ∨ w = 5 ∨ w = 6 ∨ w = 7) with rfl | rfl | rfl | rfl | rfl | rfl | rfl | rfl <;> omega
  · have g1 := h.2.2.2.2.1
    have g2 := h.2.2.2.2.2.1
    rcases (by omega : w = 8 ∨ w = 9) with rfl | rfl
    · exact ⟨gap, rfl, by omega⟩
    · exact ⟨cn, rfl, by omega⟩
/-- the log of changes, one laid down -/
abbrev zEq (i j : Nat) (S S' : zS) : Prop := ∀ c, (c = 31 ∨ c = 32 ∨ c = 33 ∨ c = 34) → S'.1 c j = S.1 c i
abbrev zEm (i j : Nat) (S S' : zS) : Prop := ∀ c, (c = 53 ∨ c = 54 ∨ c = 55) → S'.1 c j = S.1 c i
theorem cpy1 {f g : Nat → Int32} {j : Nat} (h : j < 39) : va_cpy f g 1 0 39 j = f (j + 1) := by
  show (if 0 ≤ j ∧ j < 0 + 39 then f (1 + (j - 0)) else g j) = f (j + 1)
  rw [if_pos ⟨by omega, by omega⟩, Nat.sub_zero, Nat.add_comm]
theorem cpy_ok39 : ¬ ((1 : Int32) < 0 ∨ (0 : Int32) < 0 ∨ (39 : Int32) < 0 ∨ 40 < (1 : Int32).toNatClampNeg + (39 : Int32).toNatClampNeg ∨ 40 < (0 : Int32).toNatClampNeg + (39 : Int32).toNatClampNeg) := by decide
theorem c_add (sc : zSc) {S : zS} {dn : Nat} (hd : dn ≤ 40) (h5 : S.1 30 5 = nI dn) (a1 a2 a3 a4 : Int32) :
    ∃ (dn' : Nat) (S' : zS), zcV sc zm_X1_add [.ref 30, .int a1, .int a2, .int a3, .int a4] S = some S' ∧ dn' = (if dn < 40 then dn else 39) ∧ S'.1 30 5 = nI (dn' + 1) ∧ S'.1 30 6 = nI (dn' + 1) ∧ S'.1 31 dn' = a1 ∧ S'.1 32 dn' = a2 ∧ S'.1 33 dn' = a3 ∧ S'.1 34 dn' = a4 ∧
      (∀ j, j < dn' → zEq (if dn < 40 then j else j + 1) j S S') ∧ zfr (zk [31, 32, 33, 34] [(30, 5), (30, 6)]) S S' := by
  by_cases c : dn < 40
  · have ob : ¬ (nI dn < 0 ∨ 40 ≤ (nI dn).toNatClampNeg) := (by first | (rw [n_ob (by omega)]; omega) | (rw [n_obb (by omega)]; omega))
    refine ⟨dn, zw1 (zw1 (zw1 (zw1 (zw1 (zw1 S 31 dn a1) 32 dn a2) 33 dn a3) 34 dn a4) 30 5 (nI (dn + 1))) 30 6 (nI (dn + 1)), ?_, (if_pos c).symm, ?_, ?_, ?_, ?_, ?_, ?_, fun j hj cc hc => ?_, zfr_w (zfr_w (zfr_w (zfr_w (zfr_w (zfr_w0 31 _ _ rfl) 32 _ _ rfl) 33 _ _ rfl) 34 _ _ rfl) 30 5 _ rfl) 30 6 _ rfl⟩
    · rw [c_X1_add, h5, if_pos (by rw [show (40 : Int32) = nI 40 from rfl, n_lt (by omega) (by omega)]; exact c), if_neg ob, if_neg ob, if_neg ob, if_neg ob, n_cl (by omega), n_s1]
    · simp only [zw1_r]; simp
    · simp only [zw1_r]; simp
    · simp only [zw1_r]; simp
    · simp only [zw1_r]; simp
    · simp only [zw1_r]; simp
    · simp only [zw1_r]; simp
    · rw [if_pos c, zw1_n _ _ (by omega), zw1_n _ _ (by omega), zw1_n _ _ (by omega), zw1_n _ _ (by omega), zw1_n _ _ (by omega), zw1_n _ _ (by omega)]
  · have e : dn = 40 := by omega
    refine ⟨39, zw1 (zw1 (zw1 (zw1 (zw1 (zw1 (zw1 (zwc1 (zwc1 (zwc1 (zwc1 S 31 (va_cpy (S.1 31) (S.1 31) 1 0 39)) 32 (va_cpy (S.1 32) (S.1 32) 1 0 39)) 33 (va_cpy (S.1 33) (S.1 33) 1 0 39)) 34 (va_cpy (S.1 34) (S.1 34) 1 0 39)) 30 5 39) 31 39 a1) 32 39 a2) 33 39 a3) 34 39 a4) 30 5 (39 + 1)) 30 6 (39 + 1), ?_, (if_neg c).symm, ?_, ?_, ?_, ?_, ?_, ?_, fun j hj cc hc => ?_, ?_⟩
    · have r1 : ∀ (c : Nat) (g : Nat → Int32), c ≠ 32 → (zwc1 S c g).1 32 = S.1 32 := fun c g h => by funext i; rw [zc1_r, if_neg (fun q => h q.symm)]
      have f31 : zcV sc zm_X1_forgetFirst [.ref 31] S = some (zwc1 S 31 (va_cpy (S.1 31) (S.1 31) 1 0 39)) := by rw [c_X1_forgetFirst_31, if_neg cpy_ok39]; rfl
      have f32 : zcV sc zm_X1_forgetFirst [.ref 32] (zwc1 S 31 (va_cpy (S.1 31) (S.1 31) 1 0 39)) = some (zwc1 (zwc1 S 31 (va_cpy (S.1 31) (S.1 31) 1 0 39)) 32 (va_cpy (S.1 32) (S.1 32) 1 0 39)) := by rw [c_X1_forgetFirst_32, if_neg cpy_ok39]; rfl
      have f33 : zcV sc zm_X1_forgetFirst [.ref 33] (zwc1 (zwc1 S 31 (va_cpy (S.1 31) (S.1 31) 1 0 39)) 32 (va_cpy (S.1 32) (S.1 32) 1 0 39)) = some (zwc1 (zwc1 (zwc1 S 31 (va_cpy (S.1 31) (S.1 31) 1 0 39)) 32 (va_cpy (S.1 32) (S.1 32) 1 0 39)) 33 (va_cpy (S.1 33) (S.1 33) 1 0 39)) := by rw [c_X1_forgetFirst_33, if_neg cpy_ok39]; rfl
      have f34 : zcV sc zm_X1_forgetFirst [.ref 34] (zwc1 (zwc1 (zwc1 S 31 (va_cpy (S.1 31) (S.1 31) 1 0 39)) 32 (va_cpy (S.1 32) (S.1 32) 1 0 39)) 33 (va_cpy (S.1 33) (S.1 33) 1 0 39)) = some (zwc1 (zwc1 (zwc1 (zwc1 S 31 (va_cpy (S.1 31) (S.1 31) 1 0 39)) 32 (va_cpy (S.1 32) (S.1 32) 1 0 39)) 33 (va_cpy (S.1 33) (S.1 33) 1 0 39)) 34 (va_cpy (S.1 34) (S.1 34) 1 0 39)) := by rw [c_X1_forgetFirst_34, if_neg cpy_ok39]; rfl
      rw [c_X1_add, h5, if_neg (by rw [show (40 : Int32) = nI 40 from rfl, n_lt (by omega) (by omega)]; exact c), f31, Option.bind_some, f32, Option.bind_some, f33, Option.bind_some, f34, Option.bind_some]
    · simp only [zw1_r]; simp; rfl
    · simp only [zw1_r]; simp; rfl
    · simp only [zw1_r]; simp
    · simp only [zw1_r]; simp
    · simp only [zw1_r]; simp
    · simp only [zw1_r]; simp
    · rw [if_neg c, zw1_n _ _ (by omega), zw1_n _ _ (by omega), zw1_n _ _ (by omega), zw1_n _ _ (by omega), zw1_n _ _ (by omega), zw1_n _ _ (by omega), zw1_n _ _ (by omega), zc1_r, zc1_r, zc1_r, zc1_r]
      rcases hc with rfl | rfl | rfl | rfl <;> simp <;> exact cpy1 hj
    · exact zfr_w (zfr_w (zfr_w (zfr_w (zfr_w (zfr_w (zfr_w (zfr_tr (zfr_tr (zfr_tr (zwc_f _ (fun _ => rfl)) (zwc_f _ (fun _ => rfl))) (zwc_f _ (fun _ => rfl))) (zwc_f _ (fun _ => rfl))) 30 5 _ rfl) 31 _ _ rfl) 32 _ _ rfl) 33 _ _ rfl) 34 _ _ rfl) 30 5 _ rfl) 30 6 _ rfl
