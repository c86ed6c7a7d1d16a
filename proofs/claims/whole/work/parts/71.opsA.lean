abbrev zQa (P : Nat → Nat → Nat) (n a b wh : Nat) : Nat → Nat → Nat := fun q u => if q = n then (if u = 0 then a else if u = 1 then b else if u = 2 then wh else if u = 6 then 9 else 0) else P q u
theorem zV1_add {n : Nat} {P : Nat → Nat → Nat} {cs : List Int32} {gap cn ver : Nat} {S S' : zS} (h : zV1 n P cs gap cn ver S) {a b wh : Nat} (h8 : n < 8) (ha : a ≤ 99) (hb1 : 1 ≤ b) (hb : b ≤ 99) (hwh : wh ≤ 16) (hver : ver + 4 < 2147483648)
    (g11 : S'.1 1 1 = nI (n + 1)) (g12 : S'.1 1 2 = nI (ver + 4)) (g2 : ∀ j, S'.1 2 j = if j = 8 * n + 6 then 9 else if j = 8 * n + 2 then zwho wh else if j = 8 * n + 1 then nI b else if j = 8 * n then nI a else S.1 2 j)
    (g52 : ∀ j, S'.1 52 j = if j = 56 + n then 0 else if j = 48 + n then 9 else if j = 40 + n then 0 else if j = 32 + n then 0 else if j = 24 + n then 0 else if j = 16 + n then zwho wh else if j = 8 + n then nI b else if j = n then nI a else S.1 52 j)
    (g67 : S'.1 6 7 = S.1 6 7) (g62 : S'.1 6 2 = S.1 6 2) (g7 : ∀ j, S'.1 7 j = S.1 7 j) (g516 : S'.1 51 6 = nI (n + 1)) (g5111 : S'.1 51 11 = S.1 51 11) (g58 : ∀ j, S'.1 58 j = S.1 58 j) (g5118 : S'.1 51 18 = S.1 51 18) :
    zV1 (n + 1) (zQa P n a b wh) cs gap cn (ver + 4) S' := by
  have z := h.2.2.2.2.2.2
  refine ⟨⟨⟨g11, by omega, fun q u hq hu => ?_⟩, fun q hq => ?_, ?_, zCD_cg h.1.2.2.2.1 g62 g7, fun e => ?_, g12, hver, ?_⟩, ⟨⟨g516, by omega, fun q u hq hu => ?_⟩, ?_, zTX_cg h.2.1.2.2.1 g5111 g58, zTD_cg h.2.1.2.2.2 g5118⟩, ?_, ?_, h.2.2.2.2.1, h.2.2.2.2.2.1, fun q u h1 h2 h3 => ?_⟩
  · rw [g2]
    by_cases c : q = n
    · subst c
      rcases (by omega : u = 0 ∨ u = 1 ∨ u = 2 ∨ u = 3 ∨ u = 4 ∨ u = 5 ∨ u = 6 ∨ u = 7) with rfl | rfl | rfl | rfl | rfl | rfl | rfl | rfl
      · rw [if_neg (by omega), if_neg (by omega), if_neg (by omega), if_pos (by omega)]; simp [zQa, zpv]
      · rw [if_neg (by omega), if_neg (by omega), if_pos (by omega)]; simp [zQa, zpv]
      · rw [if_neg (by omega), if_pos (by omega)]; simp [zQa, zpv]
      · rw [if_neg (by omega), if_neg (by omega), if_neg (by omega), if_neg (by omega), z _ _ (by omega) h8 (by omega)]; simp [zQa, zpv]; rfl
      · rw [if_neg (by omega), if_neg (by omega), if_neg (by omega), if_neg (by omega), z _ _ (by omega) h8 (by omega)]; simp [zQa, zpv]; rfl
      · rw [if_neg (by omega), if_neg (by omega), if_neg (by omega), if_neg (by omega), z _ _ (by omega) h8 (by omega)]; simp [zQa, zpv]; rfl
      · rw [if_pos (by omega)]; simp [zQa, zpv]; rfl
      · rw [if_neg (by omega), if_neg (by omega), if_neg (by omega), if_neg (by omega), z _ _ (by omega) h8 (by omega)]; simp [zQa, zpv]; rfl
    · rw [if_neg (by omega), if_neg (by omega), if_neg (by omega), if_neg (by omega)]
      unfold zQa
      rw [if_neg c]; exact h.1.1.2.2 q u (by omega) hu
  · by_cases c : q = n
    · subst c
      simp [zQa]; omega
    · have k : ∀ u, zQa P n a b wh q u = P q u := fun u => if_neg c
      rw [k, k, k, k, k, k, k, k]
      exact h.1.2.1 q (by omega)
  · rw [g2, if_neg (by omega), if_neg (by omega), if_neg (by omega), if_neg (by omega)]; exact h.1.2.2.1
  · exfalso
    rw [g67, g12] at e
    rcases h.1.2.2.2.2.2.2.2 with k | ⟨x, k1, k2⟩
    · rw [k] at e; exact nI_m1 hver e.symm
    · rw [k2, n_eq (by omega) hver] at e; omega
  · rw [g67]
    rcases h.1.2.2.2.2.2.2.2 with k | ⟨x, k1, k2⟩
    · exact Or.inl k
    · exact Or.inr ⟨x, by omega, k2⟩
  · rw [g52]
    by_cases c : q = n
    · subst c
      rcases (by omega : u = 0 ∨ u = 1 ∨ u = 2 ∨ u = 3 ∨ u = 4 ∨ u = 5 ∨ u = 6 ∨ u = 7) with rfl | rfl | rfl | rfl | rfl | rfl | rfl | rfl
      · rw [if_neg (by omega), if_neg (by omega), if_neg (by omega), if_neg (by omega), if_neg (by omega), if_neg (by omega), if_neg (by omega), if_pos (by omega)]; simp [zQa, zpv]
      · rw [if_neg (by omega), if_neg (by omega), if_neg (by omega), if_neg (by omega), if_neg (by omega), if_neg (by omega), if_pos (by omega)]; simp [zQa, zpv]
      · rw [if_neg (by omega), if_neg (by omega), if_neg (by omega), if_neg (by omega), if_neg (by omega), if_pos (by omega)]; simp [zQa, zpv]
      · rw [if_neg (by omega), if_neg (by omega), if_neg (by omega), if_neg (by omega), if_pos (by omega)]; simp [zQa, zpv]; rfl
      · rw [if_neg (by omega), if_neg (by omega), if_neg (by omega), if_pos (by omega)]; simp [zQa, zpv]; rfl
      · rw [if_neg (by omega), if_neg (by omega), if_pos (by omega)]; simp [zQa, zpv]; rfl
      · rw [if_neg (by omega), if_pos (by omega)]; simp [zQa, zpv]; rfl
      · rw [if_pos (by omega)]; simp [zQa, zpv]; rfl
    · rw [if_neg (by omega), if_neg (by omega), if_neg (by omega), if_neg (by omega), if_neg (by omega), if_neg (by omega), if_neg (by omega), if_neg (by omega)]
      unfold zQa
      rw [if_neg c]; exact h.2.1.1.2.2 q u (by omega) hu
  · rw [g52, if_neg (by omega), if_neg (by omega), if_neg (by omega), if_neg (by omega), if_neg (by omega), if_neg (by omega), if_neg (by omega), if_neg (by omega)]; exact h.2.1.2.1
  · rw [g2, if_neg (by omega), if_neg (by omega), if_neg (by omega), if_neg (by omega)]; exact h.2.2.1
  · rw [g52, if_neg (by omega), if_neg (by omega), if_neg (by omega), if_neg (by omega), if_neg (by omega), if_neg (by omega), if_neg (by omega), if_neg (by omega)]; exact h.2.2.2.1
  · rw [g2, if_neg (by omega), if_neg (by omega), if_neg (by omega), if_neg (by omega)]; exact z q u (by omega) h2 h3
