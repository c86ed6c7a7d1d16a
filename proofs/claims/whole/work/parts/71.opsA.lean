abbrev zQa (P : Nat → Nat → Nat) (n a b wh : Nat) : Nat → Nat → Nat := fun q u => if q = n then (if u = 0 then a else if u = 1 then b else if u = 2 then wh else if u = 6 then 9 else 0) else P q u
theorem zV1_add {n : Nat} {P : Nat → Nat → Nat} {cs : List Int32} {gap cn ver : Nat} {S S' : zS} (h : zV1 n P cs gap cn ver S) {a b wh : Nat} (h8 : n < 8) (ha : a ≤ 99) (hb1 : 1 ≤ b) (hb : b ≤ 99) (hwh : wh ≤ 16) (hver : ver + 4 < 2147483648)
    (g11 : S'.1 1 1 = nI (n + 1)) (g12 : S'.1 1 2 = nI (ver + 4)) (g2 : ∀ j, S'.1 2 j = if j = 8 * n + 6 then 9 else if j = 8 * n + 2 then zwho wh else if j = 8 * n + 1 then nI b else if j = 8 * n then nI a else S.1 2 j)
    (g52 : ∀ j, S'.1 52 j = if j = 56 + n then 0 else if j = 48 + n then 9 else if j = 40 + n then 0 else if j = 32 + n then 0 else if j = 24 + n then 0 else if j = 16 + n then zwho wh else if j = 8 + n then nI b else if j = n then nI a else S.1 52 j)
    (g67 : S'.1 6 7 = S.1 6 7) (g62 : S'.1 6 2 = S.1 6 2) (g7 : ∀ j, S'.1 7 j = S.1 7 j) (g516 : S'.1 51 6 = nI (n + 1)) (g5111 : S'.1 51 11 = S.1 51 11) (g58 : ∀ j, S'.1 58 j = S.1 58 j) (g5118 : S'.1 51 18 = S.1 51 18) :
    zV1 (n + 1) (zQa P n a b wh) cs gap cn (ver + 4) S' := by
  have z := h.2.2.2.2.2.2
  refine ⟨⟨⟨g11, by omega, fun q u hq hu => ?_⟩, fun q hq => ?_, ?_, zCD_cg h.1.2.2.2.1 g62 g7, fun e => ?_, g12, hver, ?_⟩, ⟨⟨g516, by omega, fun q u hq hu => ?_⟩, ?_, zTX_cg h.2.1.2.2.1 g5111 g58, zTD_cg h.2.1.2.2.2 g5118⟩, ?_, ?_, h.2.2.2.2.1, h.2.2.2.2.2.1, fun q u h1 h2 h3 => ?_⟩
  · rw [g2]
    by_cases c : q = n
    · subst c
      rcases (by omega : u = 0 ∨ u = 1 ∨ u = 2 ∨ u = 3 ∨ u = 4 ∨ u = 5 ∨ u = 6 ∨ u = 7) with rfl | rfl | rfl | rfl | rfl | rfl | rfl | rfl
      · rw [if_neg (by omega), if_neg (by omega), if_neg (by omega), if_pos (by omega)]; simp [zQa, zpv]
      · rw [if_neg (by omega), if_neg (by omega), if_pos (by omega)]; simp [zQa, zpv]
      · rw [if_neg (by omega), if_pos (by omega)]; simp [zQa, zpv]
      · rw [if_neg (by omega), if_neg (by omega), if_neg (by omega), if_neg (by omega), z _ _ (by omega) h8 (by omega)]; simp [zQa, zpv]; rfl
      · rw [if_neg (by omega), if_neg (by omega), if_neg (by omega), if_neg (by omega), z _ _ (by omega) h8 (by omega)]; simp [zQa, zpv]; rfl
      · rw [if_neg (by omega), if_neg (by omega), if_neg (by omega), if_neg (by omega), z _ _ (by omega) h8 (by omega)]; simp [zQa, zpv]; rfl
      · rw [if_pos (by omega)]; simp [zQa, zpv]; rfl
      · rw [if_neg (by omega), if_neg (by omega), if_neg (by omega), if_neg (by omega), z _ _ (by omega) h8 (by omega)]; simp [zQa, zpv]; rfl
    · rw [if_neg (by omega), if_neg (by omega), if_neg (by omega), if_neg (by omega)]
      unfold zQa
      rw [if_neg c]; exact h.1.1.2.2 q u (by omega) hu
  · by_cases c : q = n
    · subst c
      simp [zQa]; omega
    · have k : ∀ u, zQa P n a b wh q u = P q u := fun u => if_neg c
      rw [k, k, k, k, k, k, k, k]
      exact h.1.2.1 q (by omega)
  · rw [g2, if_neg (by omega), if_neg (by omega), if_neg (by omega), if_neg (by omega)]; exact h.1.2.2.1
  · exfalso
    rw [g67, g12] at e
    rcases h.1.2.2.2.2.2.2.2 with k | ⟨x, k1, k2⟩
    · rw [k] at e; exact nI_m1 hver e.symm
    · rw [k2, n_eq (by omega) hver] at e; omega
  · rw [g67]
    rcases h.1.2.2.2.2.2.2.2 with k | ⟨x, k1, k2⟩
    · exact Or.inl k
    · exact Or.inr ⟨x, by omega, k2⟩
  · rw [g52]
    by_cases c : q = n
    · subst c
      rcases (by omega : u = 0 ∨ u = 1 ∨ u = 2 ∨ u = 3 ∨ u = 4 ∨ u = 5 ∨ u = 6 ∨ u = 7) with rfl | rfl | rfl | rfl | rfl | rfl | rfl | rfl
      · rw [if_neg (by omega), if_neg (by omega), if_neg (by omega), if_neg (by omega), if_neg (by omega), if_neg (by omega), if_neg (by omega), if_pos (by omega)]; simp [zQa, zpv]
      · rw [if_neg (by omega), if_neg (by omega), if_neg (by omega), if_neg (by omega), if_neg (by omega), if_neg (by omega), if_pos (by omega)]; simp [zQa, zpv]
      · rw [if_neg (by omega), if_neg (by omega), if_neg (by omega), if_neg (by omega), if_neg (by omega), if_pos (by omega)]; simp [zQa, zpv]
      · rw [if_neg (by omega), if_neg (by omega), if_neg (by omega), if_neg (by omega), if_pos (by omega)]; simp [zQa, zpv]; rfl
      · rw [if_neg (by omega), if_neg (by omega), if_neg (by omega), if_pos (by omega)]; simp [zQa, zpv]; rfl
      · rw [if_neg (by omega), if_neg (by omega), if_pos (by omega)]; simp [zQa, zpv]; rfl
      · rw [if_neg (by omega), if_pos (by omega)]; simp [zQa, zpv]; rfl
      · rw [if_pos (by omega)]; simp [zQa, zpv]; rfl
    · rw [if_neg (by omega), if_neg (by omega), if_neg (by omega), if_neg (by omega), if_neg (by omega), if_neg (by omega), if_neg (by omega), if_neg (by omega)]
      unfold zQa
      rw [if_neg c]; exact h.2.1.1.2.2 q u (by omega) hu
  · rw [g52, if_neg (by omega), if_neg (by omega), if_neg (by omega), if_neg (by omega), if_neg (by omega), if_neg (by omega), if_neg (by omega), if_neg (by omega)]; exact h.2.1.2.1
  · rw [g2, if_neg (by omega), if_neg (by omega), if_neg (by omega), if_neg (by omega)]; exact h.2.2.1
  · rw [g52, if_neg (by omega), if_neg (by omega), if_neg (by omega), if_neg (by omega), if_neg (by omega), if_neg (by omega), if_neg (by omega), if_neg (by omega)]; exact h.2.2.2.1
  · rw [g2, if_neg (by omega), if_neg (by omega), if_neg (by omega), if_neg (by omega)]; exact z q u (by omega) h2 h3
theorem c_padd (sc : zSc) {n ver : Nat} {S : zS} (h8 : n < 8) (h1 : S.1 1 1 = nI n) (h2 : S.1 1 2 = nI ver) (a1 a2 a3 : Int32) :
    zcI sc zm_X4_add [.ref 1, .int a1, .int a2, .int a3] S = some (nI n, zw1 (zw1 (zw1 (zw1 (zw1 (zw1 (zw1 (zw1 (zw1 S 1 1 (nI (n + 1))) 2 (8 * n) a1) 1 2 (nI (ver + 1))) 2 (8 * n + 1) a2) 1 2 (nI (ver + 2))) 2 (8 * n + 2) a3) 1 2 (nI (ver + 3))) 2 (8 * n + 6) 9) 1 2 (nI (ver + 4))) := by
  have st : ∀ (U : zS) (x : Int32) (w v : Nat), U.1 1 1 = nI (n + 1) → w < 8 → U.1 1 2 = nI v → zcV sc zm_X4_set [.ref 1, .int (nI n), .int (nI w), .int x] U = some (zw1 (zw1 U 2 (8 * n + w) x) 1 2 (nI (v + 1))) := fun U x w v u1 hw u2 => by
    have hz : zsz U := by
      unfold zsz
      rw [u1, zi_nI (by omega)]; omega
    have hvd : vld (n + 1) n w := Or.inl ⟨hw, by omega⟩
    rw [s_set sc U _ _ x hz (by rw [u1]; exact (zhas_n (by omega)).mpr ⟨n, w, rfl, rfl, hvd⟩), zsl_n (n := n + 1) (by omega) hvd, u2, n_s1]
    unfold zci
    rw [if_pos hw]
  have s0 : zcV sc zm_X4_set [.ref 1, .int (nI n), .int (0 : Int32), .int a1] (zw1 S 1 1 (nI (n + 1))) = some (zw1 (zw1 (zw1 S 1 1 (nI (n + 1))) 2 (8 * n) a1) 1 2 (nI (ver + 1))) := st (zw1 S 1 1 (nI (n + 1))) a1 0 ver (zw1_y _ _ _ _) (by omega) (by rw [zw1_n _ _ (by omega), h2])
  have s1 : zcV sc zm_X4_set [.ref 1, .int (nI n), .int (1 : Int32), .int a2] (zw1 (zw1 (zw1 S 1 1 (nI (n + 1))) 2 (8 * n) a1) 1 2 (nI (ver + 1))) = some (zw1 (zw1 (zw1 (zw1 (zw1 S 1 1 (nI (n + 1))) 2 (8 * n) a1) 1 2 (nI (ver + 1))) 2 (8 * n + 1) a2) 1 2 (nI (ver + 2))) := st (zw1 (zw1 (zw1 S 1 1 (nI (n + 1))) 2 (8 * n) a1) 1 2 (nI (ver + 1))) a2 1 (ver + 1) (by rw [zw1_n _ _ (by omega), zw1_n _ _ (by omega), zw1_y]) (by omega) (zw1_y _ _ _ _)
  have s2 : zcV sc zm_X4_set [.ref 1, .int (nI n), .int (2 : Int32), .int a3] (zw1 (zw1 (zw1 (zw1 (zw1 S 1 1 (nI (n + 1))) 2 (8 * n) a1) 1 2 (nI (ver + 1))) 2 (8 * n + 1) a2) 1 2 (nI (ver + 2))) = some (zw1 (zw1 (zw1 (zw1 (zw1 (zw1 (zw1 S 1 1 (nI (n + 1))) 2 (8 * n) a1) 1 2 (nI (ver + 1))) 2 (8 * n + 1) a2) 1 2 (nI (ver + 2))) 2 (8 * n + 2) a3) 1 2 (nI (ver + 3))) := st (zw1 (zw1 (zw1 (zw1 (zw1 S 1 1 (nI (n + 1))) 2 (8 * n) a1) 1 2 (nI (ver + 1))) 2 (8 * n + 1) a2) 1 2 (nI (ver + 2))) a3 2 (ver + 2) (by rw [zw1_n _ _ (by omega), zw1_n _ _ (by omega), zw1_n _ _ (by omega), zw1_n _ _ (by omega), zw1_y]) (by omega) (zw1_y _ _ _ _)
  have s3 : zcV sc zm_X4_set [.ref 1, .int (nI n), .int (6 : Int32), .int 9] (zw1 (zw1 (zw1 (zw1 (zw1 (zw1 (zw1 S 1 1 (nI (n + 1))) 2 (8 * n) a1) 1 2 (nI (ver + 1))) 2 (8 * n + 1) a2) 1 2 (nI (ver + 2))) 2 (8 * n + 2) a3) 1 2 (nI (ver + 3))) = some (zw1 (zw1 (zw1 (zw1 (zw1 (zw1 (zw1 (zw1 (zw1 S 1 1 (nI (n + 1))) 2 (8 * n) a1) 1 2 (nI (ver + 1))) 2 (8 * n + 1) a2) 1 2 (nI (ver + 2))) 2 (8 * n + 2) a3) 1 2 (nI (ver + 3))) 2 (8 * n + 6) 9) 1 2 (nI (ver + 4))) := st (zw1 (zw1 (zw1 (zw1 (zw1 (zw1 (zw1 S 1 1 (nI (n + 1))) 2 (8 * n) a1) 1 2 (nI (ver + 1))) 2 (8 * n + 1) a2) 1 2 (nI (ver + 2))) 2 (8 * n + 2) a3) 1 2 (nI (ver + 3))) 9 6 (ver + 3) (by rw [zw1_n _ _ (by omega), zw1_n _ _ (by omega), zw1_n _ _ (by omega), zw1_n _ _ (by omega), zw1_n _ _ (by omega), zw1_n _ _ (by omega), zw1_y]) (by omega) (zw1_y _ _ _ _)
  rw [c_X4_add, h1, if_pos (by rw [show (8 : Int32) = nI 8 from rfl, n_lt (by omega) (by omega)]; exact h8), n_s1]
  rw [s0, Option.bind_some, s1, Option.bind_some, s2, Option.bind_some, s3, Option.bind_some]
theorem m_adds (sc : zSc) {n : Nat} {S : zS} (h8 : n < 8) (h1 : S.1 51 6 = nI n) (a1 a2 a3 : Int32) :
    zcV sc zm_X11_adds [.ref 51, .int a1, .int a2, .int a3] S = some (zw1 (zw1 (zw1 (zw1 (zw1 (zw1 (zw1 (zw1 (zw1 (zw1 S 52 n a1) 52 (8 + n) a2) 52 (16 + n) a3) 52 (24 + n) 0) 52 (32 + n) 0) 52 (40 + n) 0) 52 (48 + n) 9) 52 (56 + n) 0) 56 n 0) 51 6 (nI (n + 1))) := by
  have e (k : Nat) : nI k + nI n = nI (k + n) := zn_add _ _
  have e8 : (8 : Int32) + nI n = nI (8 + n) := e 8
  have e16 : (16 : Int32) + nI n = nI (16 + n) := e 16
  have e24 : (24 : Int32) + nI n = nI (24 + n) := e 24
  have e32 : (32 : Int32) + nI n = nI (32 + n) := e 32
  have e40 : (40 : Int32) + nI n = nI (40 + n) := e 40
  have e48 : (48 : Int32) + nI n = nI (48 + n) := e 48
  have e56 : (56 : Int32) + nI n = nI (56 + n) := e 56
  have ob (k : Nat) (hk : k < 66) : ¬ (nI k < 0 ∨ 66 ≤ (nI k).toNatClampNeg) := (by first | (rw [n_ob (by omega)]; omega) | (rw [n_obb (by omega)]; omega))
  rw [c_X11_adds, h1, e8, e16, e24, e32, e40, e48, e56, if_neg (ob n (by omega)), if_neg (ob (8 + n) (by omega)), if_neg (ob (16 + n) (by omega)), if_neg (ob (24 + n) (by omega)), if_neg (ob (32 + n) (by omega)), if_neg (ob (40 + n) (by omega)), if_neg (ob (48 + n) (by omega)), if_neg (ob (56 + n) (by omega)), if_neg (by first | (rw [n_ob (by omega)]; omega) | (rw [n_obb (by omega)]; omega)), n_s1, n_cl (a := n) (by omega), n_cl (a := 8 + n) (by omega), n_cl (a := 16 + n) (by omega), n_cl (a := 24 + n) (by omega), n_cl (a := 32 + n) (by omega), n_cl (a := 40 + n) (by omega), n_cl (a := 48 + n) (by omega), n_cl (a := 56 + n) (by omega)]
