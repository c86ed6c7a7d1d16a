/-! ===== what holds between two calls ===== -/
abbrev zV1 (n : Nat) (P : Nat → Nat → Nat) (cs : List Int32) (gap cn ver : Nat) (S : zS) : Prop :=
  zCE n P cs gap ver S ∧ zME n P cs gap none S ∧ S.1 2 65 = nI cn ∧ S.1 52 65 = nI cn ∧ gap ≤ 99 ∧ cn ≤ 99 ∧ ∀ p w, n ≤ p → p < 8 → (w = 3 ∨ w = 4 ∨ w = 5 ∨ w = 7) → S.1 2 (8 * p + w) = 0
def zV2 (S : zS) : Prop := ∃ (tn : Nat) (tb : Nat → Nat), tn ≤ 120 ∧ S.1 3 2 = nI tn ∧ S.1 51 9 = nI tn ∧ ∀ i, i < tn → tb i < 256 ∧ S.1 4 i = nI (tb i) ∧ S.1 57 i = nI (tb i)
def zIm (n : Nat) (S : zS) : Prop := (S.1 24 7 = 0 ∧ S.1 51 29 = 0) ∨ (S.1 24 7 = 1 ∧ S.1 51 29 = 1 ∧ ∃ kn, kn ≤ n ∧ S.1 24 6 = nI kn ∧ S.1 51 30 = nI kn ∧ (∀ p, p < kn → ∃ b : Nat, b ≤ 7 ∧ S.1 28 p = nI b ∧ S.1 65 p = nI b) ∧ (∀ p, p < kn → S.1 27 p = S.1 66 p) ∧ (∀ p, kn ≤ p → p < 8 → S.1 27 p = 0) ∧ ∀ k, k < 5 → S.1 29 k = S.1 67 k)
def zV3 (n : Nat) (S : zS) : Prop := (∀ p, p < 8 → S.1 25 p = S.1 56 p) ∧ (∀ k, k < 5 → S.1 26 k = S.1 64 k) ∧ (∀ p, n ≤ p → p < 8 → S.1 25 p = 0) ∧ zIm n S
/-- a number that may stand for what -/
abbrev ftN (w x : Nat) : Prop := (w = 0 ∧ x ≤ 99) ∨ (w = 1 ∧ 1 ≤ x ∧ x ≤ 99) ∨ (w = 2 ∧ x ≤ 16) ∨ (w = 3 ∧ x ≤ 7) ∨ (w = 4 ∧ x ≤ 255) ∨ (w = 5 ∧ x ≤ 9) ∨ (w = 6 ∧ x ≤ 9) ∨ (w = 7 ∧ x ≤ 999) ∨ (w = 8 ∧ x ≤ 99) ∨ (w = 9 ∧ x ≤ 99)
abbrev zpl (p w : Nat) : Nat := if w < 8 then 8 * w + p else 56 + w
def zEn (n i : Nat) (S : zS) : Prop := ∃ p w b a : Nat, ((w < 8 ∧ p < n) ∨ (8 ≤ w ∧ w < 10 ∧ p = 0)) ∧ ftN w b ∧ ftN w a ∧ S.1 31 i = nI p ∧ S.1 32 i = nI w ∧ S.1 53 i = nI (zpl p w) ∧ S.1 33 i = zpv w b ∧ S.1 34 i = zpv w a ∧ S.1 54 i = zpv w b ∧ S.1 55 i = zpv w a
def zV4 (n : Nat) (S : zS) : Prop := ∃ dn sz : Nat, dn ≤ sz ∧ sz ≤ 40 ∧ S.1 30 5 = nI dn ∧ S.1 51 5 = nI dn ∧ S.1 30 6 = nI sz ∧ S.1 51 4 = nI sz ∧ ∀ i, i < sz → zEn n i S
def zV5 (vs : Nat) (S : zS) : Prop := vs ≤ 50 ∧ S.1 35 2 = nI vs ∧ S.1 51 34 = nI vs ∧ (∀ i, i < vs → ∃ k : Nat, k < 8 ∧ S.1 36 i = nI k ∧ S.1 68 i = nI k) ∧ ∃ r : Nat, r < 100000 ∧ S.1 35 3 = nI r ∧ S.1 51 37 = nI r ∧ ∀ i, i < 24 → i < r → S.1 37 i = S.1 69 i
def zInv (t : Nat) (S : zS) : Prop := ∃ (n : Nat) (P : Nat → Nat → Nat) (cs : List Int32) (gap cn ver vs : Nat), ver ≤ t ∧ zV1 n P cs gap cn ver S ∧ zV2 S ∧ zV3 n S ∧ zV4 n S ∧ zV5 vs S ∧ zSHs vs S
/-! what does not touch a part leaves it -/
theorem zV2_cg {S S' : zS} (h : zV2 S) (f1 : S'.1 3 2 = S.1 3 2) (f2 : S'.1 51 9 = S.1 51 9) (f3 : ∀ i, S'.1 4 i = S.1 4 i) (f4 : ∀ i, S'.1 57 i = S.1 57 i) : zV2 S' := by
  obtain ⟨tn, tb, a, b, c, d⟩ := h
  exact ⟨tn, tb, a, f1.trans b, f2.trans c, fun i k => ⟨(d i k).1, (f3 i).trans (d i k).2.1, (f4 i).trans (d i k).2.2⟩⟩
theorem zIm_cg {n : Nat} {S S' : zS} (h : zIm n S) (f1 : S'.1 24 7 = S.1 24 7) (f2 : S'.1 51 29 = S.1 51 29) (f3 : S'.1 24 6 = S.1 24 6) (f4 : S'.1 51 30 = S.1 51 30) (f : ∀ c i, (c = 27 ∨ c = 28 ∨ c = 29 ∨ c = 65 ∨ c = 66 ∨ c = 67) → S'.1 c i = S.1 c i) : zIm n S' := by
  rcases h with ⟨a, b⟩ | ⟨a, b, kn, c, d, e, g1, g2, g3, g4⟩
  · exact Or.inl ⟨f1.trans a, f2.trans b⟩
  · refine Or.inr ⟨f1.trans a, f2.trans b, kn, c, f3.trans d, f4.trans e, fun p k => ?_, fun p k => ?_, fun p k1 k2 => ?_, fun p k => ?_⟩
    · obtain ⟨x, y1, y2, y3⟩ := g1 p k
      exact ⟨x, y1, (f 28 p (by omega)).trans y2, (f 65 p (by omega)).trans y3⟩
    · rw [f 27 p (by omega), f 66 p (by omega)]; exact g2 p k
    · rw [f 27 p (by omega)]; exact g3 p k1 k2
    · rw [f 29 p (by omega), f 67 p (by omega)]; exact g4 p k
theorem zIm_n {n n' : Nat} {S : zS} (h : zIm n S) (hn : n ≤ n') : zIm n' S := by
  rcases h with h | ⟨a, b, kn, c, d⟩
  · exact Or.inl h
  · exact Or.inr ⟨a, b, kn, Nat.le_trans c hn, d⟩
theorem zV3_cg {n : Nat} {S S' : zS} (h : zV3 n S) (f1 : S'.1 24 7 = S.1 24 7) (f2 : S'.1 51 29 = S.1 51 29) (f3 : S'.1 24 6 = S.1 24 6) (f4 : S'.1 51 30 = S.1 51 30) (f : ∀ c i, (c = 27 ∨ c = 28 ∨ c = 29 ∨ c = 65 ∨ c = 66 ∨ c = 67) → S'.1 c i = S.1 c i) (g : ∀ c i, (c = 25 ∨ c = 26 ∨ c = 56 ∨ c = 64) → S'.1 c i = S.1 c i) : zV3 n S' := by
  refine ⟨fun p k => ?_, fun p k => ?_, fun p k1 k2 => ?_, zIm_cg h.2.2.2 f1 f2 f3 f4 f⟩
  · rw [g 25 p (by omega), g 56 p (by omega)]; exact h.1 p k
  · rw [g 26 p (by omega), g 64 p (by omega)]; exact h.2.1 p k
  · rw [g 25 p (by omega)]; exact h.2.2.1 p k1 k2
theorem zEn_cg {n i j : Nat} {S S' : zS} (h : zEn n i S) (f : ∀ c, (c = 31 ∨ c = 32 ∨ c = 33 ∨ c = 34 ∨ c = 53 ∨ c = 54 ∨ c = 55) → S'.1 c j = S.1 c i) : zEn n j S' := by
  obtain ⟨p, w, b, a, h1, h2, h3, h4, h5, h6, h7, h8, h9, h10⟩ := h
  exact ⟨p, w, b, a, h1, h2, h3, (f 31 (by omega)).trans h4, (f 32 (by omega)).trans h5, (f 53 (by omega)).trans h6, (f 33 (by omega)).trans h7, (f 34 (by omega)).trans h8, (f 54 (by omega)).trans h9, (f 55 (by omega)).trans h10⟩
theorem zEn_n {n n' i : Nat} {S : zS} (h : zEn n i S) (hn : n ≤ n') : zEn n' i S := by
  obtain ⟨p, w, b, a, h1, h2⟩ := h
  exact ⟨p, w, b, a, by omega, h2⟩
theorem zV4_cg {n : Nat} {S S' : zS} (h : zV4 n S) (f1 : S'.1 30 5 = S.1 30 5) (f2 : S'.1 51 5 = S.1 51 5) (f3 : S'.1 30 6 = S.1 30 6) (f4 : S'.1 51 4 = S.1 51 4) (f : ∀ c i, (c = 31 ∨ c = 32 ∨ c = 33 ∨ c = 34 ∨ c = 53 ∨ c = 54 ∨ c = 55) → S'.1 c i = S.1 c i) : zV4 n S' := by
  obtain ⟨dn, sz, a, b, c, d, e, g, k⟩ := h
  exact ⟨dn, sz, a, b, f1.trans c, f2.trans d, f3.trans e, f4.trans g, fun i hi => zEn_cg (k i hi) (fun c hc => f c i hc)⟩
theorem zV5_cg {vs : Nat} {S S' : zS} (h : zV5 vs S) (f1 : S'.1 35 2 = S.1 35 2) (f2 : S'.1 51 34 = S.1 51 34) (f3 : S'.1 35 3 = S.1 35 3) (f4 : S'.1 51 37 = S.1 51 37) (f : ∀ c i, (c = 36 ∨ c = 37 ∨ c = 68 ∨ c = 69) → S'.1 c i = S.1 c i) : zV5 vs S' := by
  obtain ⟨a, b, c, d, r, e1, e2, e3, e4⟩ := h
  refine ⟨a, f1.trans b, f2.trans c, fun i k => ?_, r, e1, f3.trans e2, f4.trans e3, fun i k1 k2 => ?_⟩
  · obtain ⟨x, y1, y2, y3⟩ := d i k
    exact ⟨x, y1, (f 36 i (by omega)).trans y2, (f 68 i (by omega)).trans y3⟩
  · rw [f 37 i (by omega), f 69 i (by omega)]; exact e4 i k1 k2
theorem zSHs_cg {vs : Nat} {S S' : zS} (h : zSHs vs S) (f : ∀ c i, (c = 39 ∨ c = 41 ∨ c = 43 ∨ c = 45 ∨ c = 47 ∨ c = 49 ∨ c = 70 ∨ c = 71) → S'.1 c i = S.1 c i) (g : S'.2 = S.2) : zSHs vs S' := by
  obtain ⟨h0, h1, h2, h3, h4, h5⟩ := h
  exact ⟨zSh_cg h0 (fun i => f 39 i (by omega)) (f 71 0 (by omega)) (f 70 0 (by omega)) g, zSh_cg h1 (fun i => f 41 i (by omega)) (f 71 1 (by omega)) (f 70 1 (by omega)) g, zSh_cg h2 (fun i => f 43 i (by omega)) (f 71 2 (by omega)) (f 70 2 (by omega)) g, zSh_cg h3 (fun i => f 45 i (by omega)) (f 71 3 (by omega)) (f 70 3 (by omega)) g, zSh_cg h4 (fun i => f 47 i (by omega)) (f 71 4 (by omega)) (f 70 4 (by omega)) g, zSh_cg h5 (fun i => f 49 i (by omega)) (f 71 5 (by omega)) (f 70 5 (by omega)) g⟩
abbrev zkQ : Nat → Nat → Bool := zk [8, 9, 10, 11, 12, 13, 14, 15, 16, 17, 18, 19, 20, 21, 22, 59, 60, 61, 62, 63] [(6, 7), (51, 12), (51, 13), (51, 14), (51, 15), (51, 16), (51, 21), (51, 22), (51, 23), (51, 24), (51, 25)]
theorem zCE_M {n : Nat} {P : Nat → Nat → Nat} {cs : List Int32} {gap ver : Nat} {S S' : zS} (h : zCE n P cs gap ver S) (f : zfr zkMq S S') : zCE n P cs gap ver S' := by
  refine ⟨zPC_cg h.1 (f.1 1 1 rfl) (fun j => f.1 2 j rfl), h.2.1, (f.1 2 64 rfl).trans h.2.2.1, zCD_cg h.2.2.2.1 (f.1 6 2 rfl) (fun j => f.1 7 j rfl), fun e => ?_, (f.1 1 2 rfl).trans h.2.2.2.2.2.1, h.2.2.2.2.2.2.1, ?_⟩
  · rw [f.1 6 7 rfl, f.1 1 2 rfl] at e
    exact zCL_cg (h.2.2.2.2.1 e) (f.1 6 2 rfl) (fun j => f.1 7 j rfl) (f.1 8 1 rfl) (fun j => f.1 10 j rfl) (fun j => f.1 11 j rfl)
  · rw [f.1 6 7 rfl]; exact h.2.2.2.2.2.2.2
/-- the parts that a question leaves -/
theorem zVs_q {n vs : Nat} {S S' : zS} (f : zfr zkQ S S') (h2 : zV2 S) (h3 : zV3 n S) (h4 : zV4 n S) (h5 : zV5 vs S) (h6 : zSHs vs S) : zV2 S' ∧ zV3 n S' ∧ zV4 n S' ∧ zV5 vs S' ∧ zSHs vs S' := by
  refine ⟨zV2_cg h2 (f.1 3 2 rfl) (f.1 51 9 rfl) (fun i => f.1 4 i rfl) (fun i => f.1 57 i rfl), zV3_cg h3 (f.1 24 7 rfl) (f.1 51 29 rfl) (f.1 24 6 rfl) (f.1 51 30 rfl) (fun c i h => ?_) (fun c i h => ?_), zV4_cg h4 (f.1 30 5 rfl) (f.1 51 5 rfl) (f.1 30 6 rfl) (f.1 51 4 rfl) (fun c i h => ?_), zV5_cg h5 (f.1 35 2 rfl) (f.1 51 34 rfl) (f.1 35 3 rfl) (f.1 51 37 rfl) (fun c i h => ?_), zSHs_cg h6 (fun c i h => ?_) f.2⟩
  · rcases h with rfl | rfl | rfl | rfl | rfl | rfl <;> exact f.1 _ i rfl
  · rcases h with rfl | rfl | rfl | rfl <;> exact f.1 _ i rfl
  · rcases h with rfl | rfl | rfl | rfl | rfl | rfl | rfl <;> exact f.1 _ i rfl
  · rcases h with rfl | rfl | rfl | rfl <;> exact f.1 _ i rfl
  · rcases h with rfl | rfl | rfl | rfl | rfl | rfl | rfl | rfl <;> exact f.1 _ i rfl
/-- a call of both, and what holds then -/
abbrev zOp (t : Nat) (C : Option (Int32 × zS)) (M : zS → Option (Int32 × zS)) : Prop := ∃ v S1 S2, C = some (v, S1) ∧ M S1 = some (v, S2) ∧ zInv (t + 32) S2
theorem zOp_q {t : Nat} {S : zS} {n : Nat} {P : Nat → Nat → Nat} {cs : List Int32} {gap cn ver vs : Nat} (ht : ver ≤ t) (h1 : zV1 n P cs gap cn ver S) (h2 : zV2 S) (h3 : zV3 n S) (h4 : zV4 n S) (h5 : zV5 vs S) (h6 : zSHs vs S) {C : Option (Int32 × zS)} {M : zS → Option (Int32 × zS)} (q : zQ n P cs gap ver C M S) : zOp t C M := by
  obtain ⟨v, S1, S2, q1, q2, q3, q4, q5⟩ := q
  have f : zfr zkQ S S2 := zfr_tr (zfr_up _ _ q4 rfl) (zfr_up _ _ q5 rfl)
  obtain ⟨k2, k3, k4, k5, k6⟩ := zVs_q f h2 h3 h4 h5 h6
  refine ⟨v, S1, S2, q1, q2, n, P, cs, gap, cn, ver, vs, by omega, ⟨zCE_M q3 q5, ?_, (f.1 2 65 rfl).trans h1.2.2.1, (f.1 52 65 rfl).trans h1.2.2.2.1, h1.2.2.2.2.1, h1.2.2.2.2.2.1, fun p w a b c => (f.1 2 _ rfl).trans (h1.2.2.2.2.2.2 p w a b c)⟩, k2, k3, k4, k5, k6⟩
  exact ⟨zPM_cg h1.2.1.1 (f.1 51 6 rfl) (fun j => f.1 52 j rfl), (f.1 52 64 rfl).trans h1.2.1.2.1, zTX_cg h1.2.1.2.2.1 (f.1 51 11 rfl) (fun j => f.1 58 j rfl), zTD_cg h1.2.1.2.2.2 (f.1 51 18 rfl)⟩
theorem zInv_up {t t' : Nat} {S : zS} (h : zInv t S) (k : t ≤ t') : zInv t' S := by
  obtain ⟨n, P, cs, gap, cn, ver, vs, a, b⟩ := h
  exact ⟨n, P, cs, gap, cn, ver, vs, Nat.le_trans a k, b⟩
