/-! ===== the law's loop ===== -/
abbrev lvL (x : Int32) : List (Option Value) := [some (.ref 1010), some (.ref 0), some (.ref 51), some (.int x)]
theorem l_ob {L i k : Nat} (hL : L ≤ 3072) (h : 6 * i + 6 ≤ L) (hk : k < 6) : ¬ (nI (6 * i) + nI k < 0 ∨ L ≤ (nI (6 * i) + nI k).toNatClampNeg) := by
  rw [zn_add, n_ob (by omega)]; omega
theorem l_case0 (sc : zSc) {S : zS} {i t : Nat} (hL : sc.2 ≤ 3072) (hi : 6 * i + 6 ≤ sc.2) (hT : t < 1000000) (h : zInv t S) : ∃ S', zInv (t + 32) S' ∧ zO zgI sc (zg1, (zm_L_law, 200), 212, S, lvL (nI (6 * i)), []) = zO zgI sc (zg1, (zm_L_law, 200), 18, S', lvL ((nI (6 * i)) + (6 : Int32)), []) := by
  have ob1 : ¬ ((nI (6 * i)) + (1 : Int32) < 0 ∨ sc.2 ≤ ((nI (6 * i)) + (1 : Int32)).toNatClampNeg) := l_ob hL hi (k := 1) (by omega)
  have ob2 : ¬ ((nI (6 * i)) + (2 : Int32) < 0 ∨ sc.2 ≤ ((nI (6 * i)) + (2 : Int32)).toNatClampNeg) := l_ob hL hi (k := 2) (by omega)
  obtain ⟨v, S1, S2, c, m, hI⟩ := o_pupil sc hT h ((sc.1 (((nI (6 * i)) + (1 : Int32)).toNatClampNeg))) ((sc.1 (((nI (6 * i)) + (2 : Int32)).toNatClampNeg)))
  refine ⟨S2, hI, ?_⟩
  dsimp only at m
  rw [e_L_law_212, if_neg ob1, if_neg ob2, c, Option.bind_some]
  dsimp only
  rw [if_neg ob1, if_neg ob2, m, Option.bind_some]
  exact if_pos rfl
theorem l_case1 (sc : zSc) {S : zS} {i t : Nat} (hL : sc.2 ≤ 3072) (hi : 6 * i + 6 ≤ sc.2) (hT : t < 1000000) (h : zInv t S) : ∃ S', zInv (t + 32) S' ∧ zO zgI sc (zg1, (zm_L_law, 200), 245, S, lvL (nI (6 * i)), []) = zO zgI sc (zg1, (zm_L_law, 200), 18, S', lvL ((nI (6 * i)) + (6 : Int32)), []) := by
  have ob1 : ¬ ((nI (6 * i)) + (1 : Int32) < 0 ∨ sc.2 ≤ ((nI (6 * i)) + (1 : Int32)).toNatClampNeg) := l_ob hL hi (k := 1) (by omega)
  have ob2 : ¬ ((nI (6 * i)) + (2 : Int32) < 0 ∨ sc.2 ≤ ((nI (6 * i)) + (2 : Int32)).toNatClampNeg) := l_ob hL hi (k := 2) (by omega)
  have ob3 : ¬ ((nI (6 * i)) + (3 : Int32) < 0 ∨ sc.2 ≤ ((nI (6 * i)) + (3 : Int32)).toNatClampNeg) := l_ob hL hi (k := 3) (by omega)
  obtain ⟨v, S1, S2, c, m, hI⟩ := o_pupils sc hT h ((sc.1 (((nI (6 * i)) + (1 : Int32)).toNatClampNeg))) ((sc.1 (((nI (6 * i)) + (2 : Int32)).toNatClampNeg))) ((sc.1 (((nI (6 * i)) + (3 : Int32)).toNatClampNeg)))
  refine ⟨S2, hI, ?_⟩
  dsimp only at m
  rw [e_L_law_245, if_neg ob1, if_neg ob2, if_neg ob3, c, Option.bind_some]
  dsimp only
  rw [if_neg ob1, if_neg ob2, if_neg ob3, m, Option.bind_some]
  exact if_pos rfl
theorem l_case2 (sc : zSc) {S : zS} {i t : Nat} (hL : sc.2 ≤ 3072) (hi : 6 * i + 6 ≤ sc.2) (hT : t < 1000000) (h : zInv t S) : ∃ S', zInv (t + 32) S' ∧ zO zgI sc (zg1, (zm_L_law, 200), 288, S, lvL (nI (6 * i)), []) = zO zgI sc (zg1, (zm_L_law, 200), 18, S', lvL ((nI (6 * i)) + (6 : Int32)), []) := by
  have ob1 : ¬ ((nI (6 * i)) + (1 : Int32) < 0 ∨ sc.2 ≤ ((nI (6 * i)) + (1 : Int32)).toNatClampNeg) := l_ob hL hi (k := 1) (by omega)
  have ob2 : ¬ ((nI (6 * i)) + (2 : Int32) < 0 ∨ sc.2 ≤ ((nI (6 * i)) + (2 : Int32)).toNatClampNeg) := l_ob hL hi (k := 2) (by omega)
  have ob3 : ¬ ((nI (6 * i)) + (3 : Int32) < 0 ∨ sc.2 ≤ ((nI (6 * i)) + (3 : Int32)).toNatClampNeg) := l_ob hL hi (k := 3) (by omega)
  obtain ⟨v, S1, S2, c, m, hI⟩ := o_mend sc hT h ((sc.1 (((nI (6 * i)) + (1 : Int32)).toNatClampNeg))) ((sc.1 (((nI (6 * i)) + (2 : Int32)).toNatClampNeg))) ((sc.1 (((nI (6 * i)) + (3 : Int32)).toNatClampNeg)))
  refine ⟨S2, hI, ?_⟩
  dsimp only at m
  rw [e_L_law_288, if_neg ob1, if_neg ob2, if_neg ob3, c, Option.bind_some]
  dsimp only
  rw [if_neg ob1, if_neg ob2, if_neg ob3, m, Option.bind_some]
  exact if_pos rfl
theorem l_case3 (sc : zSc) {S : zS} {i t : Nat} (hL : sc.2 ≤ 3072) (hi : 6 * i + 6 ≤ sc.2) (hT : t < 1000000) (h : zInv t S) : ∃ S', zInv (t + 32) S' ∧ zO zgI sc (zg1, (zm_L_law, 200), 331, S, lvL (nI (6 * i)), []) = zO zgI sc (zg1, (zm_L_law, 200), 18, S', lvL ((nI (6 * i)) + (6 : Int32)), []) := by
  have ob1 : ¬ ((nI (6 * i)) + (1 : Int32) < 0 ∨ sc.2 ≤ ((nI (6 * i)) + (1 : Int32)).toNatClampNeg) := l_ob hL hi (k := 1) (by omega)
  have ob2 : ¬ ((nI (6 * i)) + (2 : Int32) < 0 ∨ sc.2 ≤ ((nI (6 * i)) + (2 : Int32)).toNatClampNeg) := l_ob hL hi (k := 2) (by omega)
  obtain ⟨v, S1, S2, c, m, hI⟩ := o_of sc h ((sc.1 (((nI (6 * i)) + (1 : Int32)).toNatClampNeg))) ((sc.1 (((nI (6 * i)) + (2 : Int32)).toNatClampNeg)))
  refine ⟨S2, hI, ?_⟩
  dsimp only at m
  rw [e_L_law_331, if_neg ob1, if_neg ob2, c, Option.bind_some]
  dsimp only
  rw [if_neg ob1, if_neg ob2, m, Option.bind_some]
  exact if_pos rfl
theorem l_case4 (sc : zSc) {S : zS} {i t : Nat} (hL : sc.2 ≤ 3072) (hi : 6 * i + 6 ≤ sc.2) (hT : t < 1000000) (h : zInv t S) : ∃ S', zInv (t + 32) S' ∧ zO zgI sc (zg1, (zm_L_law, 200), 364, S, lvL (nI (6 * i)), []) = zO zgI sc (zg1, (zm_L_law, 200), 18, S', lvL ((nI (6 * i)) + (6 : Int32)), []) := by
  have ob1 : ¬ ((nI (6 * i)) + (1 : Int32) < 0 ∨ sc.2 ≤ ((nI (6 * i)) + (1 : Int32)).toNatClampNeg) := l_ob hL hi (k := 1) (by omega)
  obtain ⟨v, S1, S2, c, m, hI⟩ := o_feed sc h ((sc.1 (((nI (6 * i)) + (1 : Int32)).toNatClampNeg)))
  refine ⟨S2, hI, ?_⟩
  dsimp only at m
  rw [e_L_law_364, if_neg ob1, c, Option.bind_some]
  dsimp only
  rw [if_neg ob1, m, Option.bind_some]
  exact if_pos rfl
theorem l_case5 (sc : zSc) {S : zS} {i t : Nat} (hL : sc.2 ≤ 3072) (hi : 6 * i + 6 ≤ sc.2) (hT : t < 1000000) (h : zInv t S) : ∃ S', zInv (t + 32) S' ∧ zO zgI sc (zg1, (zm_L_law, 200), 387, S, lvL (nI (6 * i)), []) = zO zgI sc (zg1, (zm_L_law, 200), 18, S', lvL ((nI (6 * i)) + (6 : Int32)), []) := by
  obtain ⟨v, S1, S2, c, m, hI⟩ := o_law sc h
  refine ⟨S2, hI, ?_⟩
  dsimp only at m
  rw [e_L_law_387, c, Option.bind_some]
  dsimp only
  rw [m, Option.bind_some]
  exact if_pos rfl
theorem l_case6 (sc : zSc) {S : zS} {i t : Nat} (hL : sc.2 ≤ 3072) (hi : 6 * i + 6 ≤ sc.2) (hT : t < 1000000) (h : zInv t S) : ∃ S', zInv (t + 32) S' ∧ zO zgI sc (zg1, (zm_L_law, 200), 400, S, lvL (nI (6 * i)), []) = zO zgI sc (zg1, (zm_L_law, 200), 18, S', lvL ((nI (6 * i)) + (6 : Int32)), []) := by
  have ob1 : ¬ ((nI (6 * i)) + (1 : Int32) < 0 ∨ sc.2 ≤ ((nI (6 * i)) + (1 : Int32)).toNatClampNeg) := l_ob hL hi (k := 1) (by omega)
  have ob2 : ¬ ((nI (6 * i)) + (2 : Int32) < 0 ∨ sc.2 ≤ ((nI (6 * i)) + (2 : Int32)).toNatClampNeg) := l_ob hL hi (k := 2) (by omega)
  have ob3 : ¬ ((nI (6 * i)) + (3 : Int32) < 0 ∨ sc.2 ≤ ((nI (6 * i)) + (3 : Int32)).toNatClampNeg) := l_ob hL hi (k := 3) (by omega)
  obtain ⟨v, S1, S2, c, m, hI⟩ := o_called sc h ((sc.1 (((nI (6 * i)) + (1 : Int32)).toNatClampNeg))) ((sc.1 (((nI (6 * i)) + (2 : Int32)).toNatClampNeg))) ((sc.1 (((nI (6 * i)) + (3 : Int32)).toNatClampNeg)))
  refine ⟨S2, hI, ?_⟩
  dsimp only at m
  rw [e_L_law_400, if_neg ob1, if_neg ob2, if_neg ob3, c, Option.bind_some]
  dsimp only
  rw [if_neg ob1, if_neg ob2, if_neg ob3, m, Option.bind_some]
  exact if_pos rfl
theorem l_case7 (sc : zSc) {S : zS} {i t : Nat} (hL : sc.2 ≤ 3072) (hi : 6 * i + 6 ≤ sc.2) (hT : t < 1000000) (h : zInv t S) : ∃ S', zInv (t + 32) S' ∧ zO zgI sc (zg1, (zm_L_law, 200), 443, S, lvL (nI (6 * i)), []) = zO zgI sc (zg1, (zm_L_law, 200), 18, S', lvL ((nI (6 * i)) + (6 : Int32)), []) := by
  have ob1 : ¬ ((nI (6 * i)) + (1 : Int32) < 0 ∨ sc.2 ≤ ((nI (6 * i)) + (1 : Int32)).toNatClampNeg) := l_ob hL hi (k := 1) (by omega)
  have ob2 : ¬ ((nI (6 * i)) + (2 : Int32) < 0 ∨ sc.2 ≤ ((nI (6 * i)) + (2 : Int32)).toNatClampNeg) := l_ob hL hi (k := 2) (by omega)
  have ob3 : ¬ ((nI (6 * i)) + (3 : Int32) < 0 ∨ sc.2 ≤ ((nI (6 * i)) + (3 : Int32)).toNatClampNeg) := l_ob hL hi (k := 3) (by omega)
  obtain ⟨v, S1, S2, c, m, hI⟩ := o_answers sc h ((sc.1 (((nI (6 * i)) + (1 : Int32)).toNatClampNeg))) ((sc.1 (((nI (6 * i)) + (2 : Int32)).toNatClampNeg))) ((sc.1 (((nI (6 * i)) + (3 : Int32)).toNatClampNeg)))
  refine ⟨S2, hI, ?_⟩
  dsimp only at m
  rw [e_L_law_443, if_neg ob1, if_neg ob2, if_neg ob3, c, Option.bind_some]
  dsimp only
  rw [if_neg ob1, if_neg ob2, if_neg ob3, m, Option.bind_some]
  exact if_pos rfl
theorem l_case8 (sc : zSc) {S : zS} {i t : Nat} (hL : sc.2 ≤ 3072) (hi : 6 * i + 6 ≤ sc.2) (hT : t < 1000000) (h : zInv t S) : ∃ S', zInv (t + 32) S' ∧ zO zgI sc (zg1, (zm_L_law, 200), 486, S, lvL (nI (6 * i)), []) = zO zgI sc (zg1, (zm_L_law, 200), 18, S', lvL ((nI (6 * i)) + (6 : Int32)), []) := by
  have ob1 : ¬ ((nI (6 * i)) + (1 : Int32) < 0 ∨ sc.2 ≤ ((nI (6 * i)) + (1 : Int32)).toNatClampNeg) := l_ob hL hi (k := 1) (by omega)
  have ob2 : ¬ ((nI (6 * i)) + (2 : Int32) < 0 ∨ sc.2 ≤ ((nI (6 * i)) + (2 : Int32)).toNatClampNeg) := l_ob hL hi (k := 2) (by omega)
  obtain ⟨v, S1, S2, c, m, hI⟩ := o_bestWay sc h ((sc.1 (((nI (6 * i)) + (1 : Int32)).toNatClampNeg))) ((sc.1 (((nI (6 * i)) + (2 : Int32)).toNatClampNeg)))
  refine ⟨S2, hI, ?_⟩
  dsimp only at m
  rw [e_L_law_486, if_neg ob1, if_neg ob2, c, Option.bind_some]
  dsimp only
  rw [if_neg ob1, if_neg ob2, m, Option.bind_some]
  exact if_pos rfl
theorem l_case9 (sc : zSc) {S : zS} {i t : Nat} (hL : sc.2 ≤ 3072) (hi : 6 * i + 6 ≤ sc.2) (hT : t < 1000000) (h : zInv t S) : ∃ S', zInv (t + 32) S' ∧ zO zgI sc (zg1, (zm_L_law, 200), 519, S, lvL (nI (6 * i)), []) = zO zgI sc (zg1, (zm_L_law, 200), 18, S', lvL ((nI (6 * i)) + (6 : Int32)), []) := by
  have ob1 : ¬ ((nI (6 * i)) + (1 : Int32) < 0 ∨ sc.2 ≤ ((nI (6 * i)) + (1 : Int32)).toNatClampNeg) := l_ob hL hi (k := 1) (by omega)
  have ob2 : ¬ ((nI (6 * i)) + (2 : Int32) < 0 ∨ sc.2 ≤ ((nI (6 * i)) + (2 : Int32)).toNatClampNeg) := l_ob hL hi (k := 2) (by omega)
  obtain ⟨v, S1, S2, c, m, hI⟩ := o_enough sc h ((sc.1 (((nI (6 * i)) + (1 : Int32)).toNatClampNeg))) ((sc.1 (((nI (6 * i)) + (2 : Int32)).toNatClampNeg)))
  refine ⟨S2, hI, ?_⟩
  dsimp only at m
  rw [e_L_law_519, if_neg ob1, if_neg ob2, c, Option.bind_some]
  dsimp only
  rw [if_neg ob1, if_neg ob2, m, Option.bind_some]
  exact if_pos rfl
theorem l_case10 (sc : zSc) {S : zS} {i t : Nat} (hL : sc.2 ≤ 3072) (hi : 6 * i + 6 ≤ sc.2) (hT : t < 1000000) (h : zInv t S) : ∃ S', zInv (t + 32) S' ∧ zO zgI sc (zg1, (zm_L_law, 200), 552, S, lvL (nI (6 * i)), []) = zO zgI sc (zg1, (zm_L_law, 200), 18, S', lvL ((nI (6 * i)) + (6 : Int32)), []) := by
  have ob1 : ¬ ((nI (6 * i)) + (1 : Int32) < 0 ∨ sc.2 ≤ ((nI (6 * i)) + (1 : Int32)).toNatClampNeg) := l_ob hL hi (k := 1) (by omega)
  have ob2 : ¬ ((nI (6 * i)) + (2 : Int32) < 0 ∨ sc.2 ≤ ((nI (6 * i)) + (2 : Int32)).toNatClampNeg) := l_ob hL hi (k := 2) (by omega)
  have ob3 : ¬ ((nI (6 * i)) + (3 : Int32) < 0 ∨ sc.2 ≤ ((nI (6 * i)) + (3 : Int32)).toNatClampNeg) := l_ob hL hi (k := 3) (by omega)
  obtain ⟨v, S1, S2, c, m, hI⟩ := o_next sc h ((sc.1 (((nI (6 * i)) + (1 : Int32)).toNatClampNeg))) ((sc.1 (((nI (6 * i)) + (2 : Int32)).toNatClampNeg))) ((sc.1 (((nI (6 * i)) + (3 : Int32)).toNatClampNeg)))
  refine ⟨S2, hI, ?_⟩
  dsimp only at m
  rw [e_L_law_552, if_neg ob1, if_neg ob2, if_neg ob3, c, Option.bind_some]
  dsimp only
  rw [if_neg ob1, if_neg ob2, if_neg ob3, m, Option.bind_some]
  exact if_pos rfl
theorem l_case11 (sc : zSc) {S : zS} {i t : Nat} (hL : sc.2 ≤ 3072) (hi : 6 * i + 6 ≤ sc.2) (hT : t < 1000000) (h : zInv t S) : ∃ S', zInv (t + 32) S' ∧ zO zgI sc (zg1, (zm_L_law, 200), 595, S, lvL (nI (6 * i)), []) = zO zgI sc (zg1, (zm_L_law, 200), 18, S', lvL ((nI (6 * i)) + (6 : Int32)), []) := by
  have ob1 : ¬ ((nI (6 * i)) + (1 : Int32) < 0 ∨ sc.2 ≤ ((nI (6 * i)) + (1 : Int32)).toNatClampNeg) := l_ob hL hi (k := 1) (by omega)
  have ob2 : ¬ ((nI (6 * i)) + (2 : Int32) < 0 ∨ sc.2 ≤ ((nI (6 * i)) + (2 : Int32)).toNatClampNeg) := l_ob hL hi (k := 2) (by omega)
  obtain ⟨v, S1, S2, c, m, hI⟩ := o_heads sc h ((sc.1 (((nI (6 * i)) + (1 : Int32)).toNatClampNeg))) ((sc.1 (((nI (6 * i)) + (2 : Int32)).toNatClampNeg)))
  refine ⟨S2, hI, ?_⟩
  dsimp only at m
  rw [e_L_law_595, if_neg ob1, if_neg ob2, c, Option.bind_some]
  dsimp only
  rw [if_neg ob1, if_neg ob2, m, Option.bind_some]
  exact if_pos rfl
theorem l_case12 (sc : zSc) {S : zS} {i t : Nat} (hL : sc.2 ≤ 3072) (hi : 6 * i + 6 ≤ sc.2) (hT : t < 1000000) (h : zInv t S) : ∃ S', zInv (t + 32) S' ∧ zO zgI sc (zg1, (zm_L_law, 200), 628, S, lvL (nI (6 * i)), []) = zO zgI sc (zg1, (zm_L_law, 200), 18, S', lvL ((nI (6 * i)) + (6 : Int32)), []) := by
  have ob1 : ¬ ((nI (6 * i)) + (1 : Int32) < 0 ∨ sc.2 ≤ ((nI (6 * i)) + (1 : Int32)).toNatClampNeg) := l_ob hL hi (k := 1) (by omega)
  have ob2 : ¬ ((nI (6 * i)) + (2 : Int32) < 0 ∨ sc.2 ≤ ((nI (6 * i)) + (2 : Int32)).toNatClampNeg) := l_ob hL hi (k := 2) (by omega)
  have ob3 : ¬ ((nI (6 * i)) + (3 : Int32) < 0 ∨ sc.2 ≤ ((nI (6 * i)) + (3 : Int32)).toNatClampNeg) := l_ob hL hi (k := 3) (by omega)
  obtain ⟨v, S1, S2, c, m, hI⟩ := o_absent sc h ((sc.1 (((nI (6 * i)) + (1 : Int32)).toNatClampNeg))) ((sc.1 (((nI (6 * i)) + (2 : Int32)).toNatClampNeg))) ((sc.1 (((nI (6 * i)) + (3 : Int32)).toNatClampNeg)))
  refine ⟨S2, hI, ?_⟩
  dsimp only at m
  rw [e_L_law_628, if_neg ob1, if_neg ob2, if_neg ob3, c, Option.bind_some]
  dsimp only
  rw [if_neg ob1, if_neg ob2, if_neg ob3, m, Option.bind_some]
  exact if_pos rfl
theorem l_case13 (sc : zSc) {S : zS} {i t : Nat} (hL : sc.2 ≤ 3072) (hi : 6 * i + 6 ≤ sc.2) (hT : t < 1000000) (h : zInv t S) : ∃ S', zInv (t + 32) S' ∧ zO zgI sc (zg1, (zm_L_law, 200), 671, S, lvL (nI (6 * i)), []) = zO zgI sc (zg1, (zm_L_law, 200), 18, S', lvL ((nI (6 * i)) + (6 : Int32)), []) := by
  have ob1 : ¬ ((nI (6 * i)) + (1 : Int32) < 0 ∨ sc.2 ≤ ((nI (6 * i)) + (1 : Int32)).toNatClampNeg) := l_ob hL hi (k := 1) (by omega)
  have ob2 : ¬ ((nI (6 * i)) + (2 : Int32) < 0 ∨ sc.2 ≤ ((nI (6 * i)) + (2 : Int32)).toNatClampNeg) := l_ob hL hi (k := 2) (by omega)
  obtain ⟨v, S1, S2, c, m, hI⟩ := o_ask sc h ((sc.1 (((nI (6 * i)) + (1 : Int32)).toNatClampNeg))) ((sc.1 (((nI (6 * i)) + (2 : Int32)).toNatClampNeg)))
  refine ⟨S2, hI, ?_⟩
  dsimp only at m
  rw [e_L_law_671, if_neg ob1, if_neg ob2, c, Option.bind_some]
  dsimp only
  rw [if_neg ob1, if_neg ob2, m, Option.bind_some]
  exact if_pos rfl
theorem l_case14 (sc : zSc) {S : zS} {i t : Nat} (hL : sc.2 ≤ 3072) (hi : 6 * i + 6 ≤ sc.2) (hT : t < 1000000) (h : zInv t S) : ∃ S', zInv (t + 32) S' ∧ zO zgI sc (zg1, (zm_L_law, 200), 704, S, lvL (nI (6 * i)), []) = zO zgI sc (zg1, (zm_L_law, 200), 18, S', lvL ((nI (6 * i)) + (6 : Int32)), []) := by
  have ob1 : ¬ ((nI (6 * i)) + (1 : Int32) < 0 ∨ sc.2 ≤ ((nI (6 * i)) + (1 : Int32)).toNatClampNeg) := l_ob hL hi (k := 1) (by omega)
  have ob2 : ¬ ((nI (6 * i)) + (2 : Int32) < 0 ∨ sc.2 ≤ ((nI (6 * i)) + (2 : Int32)).toNatClampNeg) := l_ob hL hi (k := 2) (by omega)
  obtain ⟨v, S1, S2, c, m, hI⟩ := o_inTime sc h ((sc.1 (((nI (6 * i)) + (1 : Int32)).toNatClampNeg))) ((sc.1 (((nI (6 * i)) + (2 : Int32)).toNatClampNeg)))
  refine ⟨S2, hI, ?_⟩
  dsimp only at m
  rw [e_L_law_704, if_neg ob1, if_neg ob2, c, Option.bind_some]
  dsimp only
  rw [if_neg ob1, if_neg ob2, m, Option.bind_some]
  exact if_pos rfl
theorem l_case15 (sc : zSc) {S : zS} {i t : Nat} (hL : sc.2 ≤ 3072) (hi : 6 * i + 6 ≤ sc.2) (hT : t < 1000000) (h : zInv t S) : ∃ S', zInv (t + 32) S' ∧ zO zgI sc (zg1, (zm_L_law, 200), 737, S, lvL (nI (6 * i)), []) = zO zgI sc (zg1, (zm_L_law, 200), 18, S', lvL ((nI (6 * i)) + (6 : Int32)), []) := by
  have ob1 : ¬ ((nI (6 * i)) + (1 : Int32) < 0 ∨ sc.2 ≤ ((nI (6 * i)) + (1 : Int32)).toNatClampNeg) := l_ob hL hi (k := 1) (by omega)
  have ob2 : ¬ ((nI (6 * i)) + (2 : Int32) < 0 ∨ sc.2 ≤ ((nI (6 * i)) + (2 : Int32)).toNatClampNeg) := l_ob hL hi (k := 2) (by omega)
  obtain ⟨v, S1, S2, c, m, hI⟩ := o_fire sc h ((sc.1 (((nI (6 * i)) + (1 : Int32)).toNatClampNeg))) ((sc.1 (((nI (6 * i)) + (2 : Int32)).toNatClampNeg)))
  refine ⟨S2, hI, ?_⟩
  dsimp only at m
  rw [e_L_law_737, if_neg ob1, if_neg ob2, c, Option.bind_some]
  dsimp only
  rw [if_neg ob1, if_neg ob2, m, Option.bind_some]
  exact if_pos rfl
theorem l_case16 (sc : zSc) {S : zS} {i t : Nat} (hL : sc.2 ≤ 3072) (hi : 6 * i + 6 ≤ sc.2) (hT : t < 1000000) (h : zInv t S) : ∃ S', zInv (t + 32) S' ∧ zO zgI sc (zg1, (zm_L_law, 200), 770, S, lvL (nI (6 * i)), []) = zO zgI sc (zg1, (zm_L_law, 200), 18, S', lvL ((nI (6 * i)) + (6 : Int32)), []) := by
  have ob1 : ¬ ((nI (6 * i)) + (1 : Int32) < 0 ∨ sc.2 ≤ ((nI (6 * i)) + (1 : Int32)).toNatClampNeg) := l_ob hL hi (k := 1) (by omega)
  have ob2 : ¬ ((nI (6 * i)) + (2 : Int32) < 0 ∨ sc.2 ≤ ((nI (6 * i)) + (2 : Int32)).toNatClampNeg) := l_ob hL hi (k := 2) (by omega)
  have ob3 : ¬ ((nI (6 * i)) + (3 : Int32) < 0 ∨ sc.2 ≤ ((nI (6 * i)) + (3 : Int32)).toNatClampNeg) := l_ob hL hi (k := 3) (by omega)
  obtain ⟨v, S1, S2, c, m, hI⟩ := o_day sc h ((sc.1 (((nI (6 * i)) + (1 : Int32)).toNatClampNeg))) ((sc.1 (((nI (6 * i)) + (2 : Int32)).toNatClampNeg))) ((sc.1 (((nI (6 * i)) + (3 : Int32)).toNatClampNeg)))
  refine ⟨S2, hI, ?_⟩
  dsimp only at m
  rw [e_L_law_770, if_neg ob1, if_neg ob2, if_neg ob3, c, Option.bind_some]
  dsimp only
  rw [if_neg ob1, if_neg ob2, if_neg ob3, m, Option.bind_some]
  exact if_pos rfl
theorem l_case17 (sc : zSc) {S : zS} {i t : Nat} (hL : sc.2 ≤ 3072) (hi : 6 * i + 6 ≤ sc.2) (hT : t < 1000000) (h : zInv t S) : ∃ S', zInv (t + 32) S' ∧ zO zgI sc (zg1, (zm_L_law, 200), 813, S, lvL (nI (6 * i)), []) = zO zgI sc (zg1, (zm_L_law, 200), 18, S', lvL ((nI (6 * i)) + (6 : Int32)), []) := by
  have ob1 : ¬ ((nI (6 * i)) + (1 : Int32) < 0 ∨ sc.2 ≤ ((nI (6 * i)) + (1 : Int32)).toNatClampNeg) := l_ob hL hi (k := 1) (by omega)
  have ob2 : ¬ ((nI (6 * i)) + (2 : Int32) < 0 ∨ sc.2 ≤ ((nI (6 * i)) + (2 : Int32)).toNatClampNeg) := l_ob hL hi (k := 2) (by omega)
  obtain ⟨v, S1, S2, c, m, hI⟩ := o_order sc h ((sc.1 (((nI (6 * i)) + (1 : Int32)).toNatClampNeg))) ((sc.1 (((nI (6 * i)) + (2 : Int32)).toNatClampNeg)))
  refine ⟨S2, hI, ?_⟩
  dsimp only at m
  rw [e_L_law_813, if_neg ob1, if_neg ob2, c, Option.bind_some]
  dsimp only
  rw [if_neg ob1, if_neg ob2, m, Option.bind_some]
  exact if_pos rfl
theorem l_case18 (sc : zSc) {S : zS} {i t : Nat} (hL : sc.2 ≤ 3072) (hi : 6 * i + 6 ≤ sc.2) (hT : t < 1000000) (h : zInv t S) : ∃ S', zInv (t + 32) S' ∧ zO zgI sc (zg1, (zm_L_law, 200), 846, S, lvL (nI (6 * i)), []) = zO zgI sc (zg1, (zm_L_law, 200), 18, S', lvL ((nI (6 * i)) + (6 : Int32)), []) := by
  have ob1 : ¬ ((nI (6 * i)) + (1 : Int32) < 0 ∨ sc.2 ≤ ((nI (6 * i)) + (1 : Int32)).toNatClampNeg) := l_ob hL hi (k := 1) (by omega)
  have ob2 : ¬ ((nI (6 * i)) + (2 : Int32) < 0 ∨ sc.2 ≤ ((nI (6 * i)) + (2 : Int32)).toNatClampNeg) := l_ob hL hi (k := 2) (by omega)
  obtain ⟨v, S1, S2, c, m, hI⟩ := o_judge sc h ((sc.1 (((nI (6 * i)) + (1 : Int32)).toNatClampNeg))) ((sc.1 (((nI (6 * i)) + (2 : Int32)).toNatClampNeg)))
  refine ⟨S2, hI, ?_⟩
  dsimp only at m
  rw [e_L_law_846, if_neg ob1, if_neg ob2, c, Option.bind_some]
  dsimp only
  rw [if_neg ob1, if_neg ob2, m, Option.bind_some]
  exact if_pos rfl
theorem l_case19 (sc : zSc) {S : zS} {i t : Nat} (hL : sc.2 ≤ 3072) (hi : 6 * i + 6 ≤ sc.2) (hT : t < 1000000) (h : zInv t S) : ∃ S', zInv (t + 32) S' ∧ zO zgI sc (zg1, (zm_L_law, 200), 879, S, lvL (nI (6 * i)), []) = zO zgI sc (zg1, (zm_L_law, 200), 18, S', lvL ((nI (6 * i)) + (6 : Int32)), []) := by
  have ob1 : ¬ ((nI (6 * i)) + (1 : Int32) < 0 ∨ sc.2 ≤ ((nI (6 * i)) + (1 : Int32)).toNatClampNeg) := l_ob hL hi (k := 1) (by omega)
  have ob2 : ¬ ((nI (6 * i)) + (2 : Int32) < 0 ∨ sc.2 ≤ ((nI (6 * i)) + (2 : Int32)).toNatClampNeg) := l_ob hL hi (k := 2) (by omega)
  obtain ⟨v, S1, S2, c, m, hI⟩ := o_who sc h ((sc.1 (((nI (6 * i)) + (1 : Int32)).toNatClampNeg))) ((sc.1 (((nI (6 * i)) + (2 : Int32)).toNatClampNeg)))
  refine ⟨S2, hI, ?_⟩
  dsimp only at m
  rw [e_L_law_879, if_neg ob1, if_neg ob2, c, Option.bind_some]
  dsimp only
  rw [if_neg ob1, if_neg ob2, m, Option.bind_some]
  exact if_pos rfl
theorem l_case20 (sc : zSc) {S : zS} {i t : Nat} (hL : sc.2 ≤ 3072) (hi : 6 * i + 6 ≤ sc.2) (hT : t < 1000000) (h : zInv t S) : ∃ S', zInv (t + 32) S' ∧ zO zgI sc (zg1, (zm_L_law, 200), 912, S, lvL (nI (6 * i)), []) = zO zgI sc (zg1, (zm_L_law, 200), 18, S', lvL ((nI (6 * i)) + (6 : Int32)), []) := by
  have ob1 : ¬ ((nI (6 * i)) + (1 : Int32) < 0 ∨ sc.2 ≤ ((nI (6 * i)) + (1 : Int32)).toNatClampNeg) := l_ob hL hi (k := 1) (by omega)
  have ob2 : ¬ ((nI (6 * i)) + (2 : Int32) < 0 ∨ sc.2 ≤ ((nI (6 * i)) + (2 : Int32)).toNatClampNeg) := l_ob hL hi (k := 2) (by omega)
  have ob3 : ¬ ((nI (6 * i)) + (3 : Int32) < 0 ∨ sc.2 ≤ ((nI (6 * i)) + (3 : Int32)).toNatClampNeg) := l_ob hL hi (k := 3) (by omega)
  obtain ⟨v, S1, S2, c, m, hI⟩ := o_howBold sc h ((sc.1 (((nI (6 * i)) + (1 : Int32)).toNatClampNeg))) ((sc.1 (((nI (6 * i)) + (2 : Int32)).toNatClampNeg))) ((sc.1 (((nI (6 * i)) + (3 : Int32)).toNatClampNeg)))
  refine ⟨S2, hI, ?_⟩
  dsimp only at m
  rw [e_L_law_912, if_neg ob1, if_neg ob2, if_neg ob3, c, Option.bind_some]
  dsimp only
  rw [if_neg ob1, if_neg ob2, if_neg ob3, m, Option.bind_some]
  exact if_pos rfl
theorem l_case21 (sc : zSc) {S : zS} {i t : Nat} (hL : sc.2 ≤ 3072) (hi : 6 * i + 6 ≤ sc.2) (hT : t < 1000000) (h : zInv t S) : ∃ S', zInv (t + 32) S' ∧ zO zgI sc (zg1, (zm_L_law, 200), 955, S, lvL (nI (6 * i)), []) = zO zgI sc (zg1, (zm_L_law, 200), 18, S', lvL ((nI (6 * i)) + (6 : Int32)), []) := by
  have ob1 : ¬ ((nI (6 * i)) + (1 : Int32) < 0 ∨ sc.2 ≤ ((nI (6 * i)) + (1 : Int32)).toNatClampNeg) := l_ob hL hi (k := 1) (by omega)
  have ob2 : ¬ ((nI (6 * i)) + (2 : Int32) < 0 ∨ sc.2 ≤ ((nI (6 * i)) + (2 : Int32)).toNatClampNeg) := l_ob hL hi (k := 2) (by omega)
  have ob3 : ¬ ((nI (6 * i)) + (3 : Int32) < 0 ∨ sc.2 ≤ ((nI (6 * i)) + (3 : Int32)).toNatClampNeg) := l_ob hL hi (k := 3) (by omega)
  have ob4 : ¬ ((nI (6 * i)) + (4 : Int32) < 0 ∨ sc.2 ≤ ((nI (6 * i)) + (4 : Int32)).toNatClampNeg) := l_ob hL hi (k := 4) (by omega)
  obtain ⟨v, S1, S2, c, m, hI⟩ := o_forWhom sc h ((sc.1 (((nI (6 * i)) + (1 : Int32)).toNatClampNeg))) ((sc.1 (((nI (6 * i)) + (2 : Int32)).toNatClampNeg))) ((sc.1 (((nI (6 * i)) + (3 : Int32)).toNatClampNeg))) ((sc.1 (((nI (6 * i)) + (4 : Int32)).toNatClampNeg)))
  refine ⟨S2, hI, ?_⟩
  dsimp only at m
  rw [e_L_law_955, if_neg ob1, if_neg ob2, if_neg ob3, if_neg ob4, c, Option.bind_some]
  dsimp only
  rw [if_neg ob1, if_neg ob2, if_neg ob3, if_neg ob4, m, Option.bind_some]
  exact if_pos rfl
theorem l_case22 (sc : zSc) {S : zS} {i t : Nat} (hL : sc.2 ≤ 3072) (hi : 6 * i + 6 ≤ sc.2) (hT : t < 1000000) (h : zInv t S) : ∃ S', zInv (t + 32) S' ∧ zO zgI sc (zg1, (zm_L_law, 200), 1008, S, lvL (nI (6 * i)), []) = zO zgI sc (zg1, (zm_L_law, 200), 18, S', lvL ((nI (6 * i)) + (6 : Int32)), []) := by
  have ob1 : ¬ ((nI (6 * i)) + (1 : Int32) < 0 ∨ sc.2 ≤ ((nI (6 * i)) + (1 : Int32)).toNatClampNeg) := l_ob hL hi (k := 1) (by omega)
  have ob2 : ¬ ((nI (6 * i)) + (2 : Int32) < 0 ∨ sc.2 ≤ ((nI (6 * i)) + (2 : Int32)).toNatClampNeg) := l_ob hL hi (k := 2) (by omega)
  obtain ⟨v, S1, S2, c, m, hI⟩ := o_partners sc h ((sc.1 (((nI (6 * i)) + (1 : Int32)).toNatClampNeg))) ((sc.1 (((nI (6 * i)) + (2 : Int32)).toNatClampNeg)))
  refine ⟨S2, hI, ?_⟩
  dsimp only at m
  rw [e_L_law_1008, if_neg ob1, if_neg ob2, c, Option.bind_some]
  dsimp only
  rw [if_neg ob1, if_neg ob2, m, Option.bind_some]
  exact if_pos rfl
theorem l_case23 (sc : zSc) {S : zS} {i t : Nat} (hL : sc.2 ≤ 3072) (hi : 6 * i + 6 ≤ sc.2) (hT : t < 1000000) (h : zInv t S) : ∃ S', zInv (t + 32) S' ∧ zO zgI sc (zg1, (zm_L_law, 200), 1041, S, lvL (nI (6 * i)), []) = zO zgI sc (zg1, (zm_L_law, 200), 18, S', lvL ((nI (6 * i)) + (6 : Int32)), []) := by
  have ob1 : ¬ ((nI (6 * i)) + (1 : Int32) < 0 ∨ sc.2 ≤ ((nI (6 * i)) + (1 : Int32)).toNatClampNeg) := l_ob hL hi (k := 1) (by omega)
  have ob2 : ¬ ((nI (6 * i)) + (2 : Int32) < 0 ∨ sc.2 ≤ ((nI (6 * i)) + (2 : Int32)).toNatClampNeg) := l_ob hL hi (k := 2) (by omega)
  have ob3 : ¬ ((nI (6 * i)) + (3 : Int32) < 0 ∨ sc.2 ≤ ((nI (6 * i)) + (3 : Int32)).toNatClampNeg) := l_ob hL hi (k := 3) (by omega)
  have ob4 : ¬ ((nI (6 * i)) + (4 : Int32) < 0 ∨ sc.2 ≤ ((nI (6 * i)) + (4 : Int32)).toNatClampNeg) := l_ob hL hi (k := 4) (by omega)
  obtain ⟨v, S1, S2, c, m, hI⟩ := o_drawn sc h ((sc.1 (((nI (6 * i)) + (1 : Int32)).toNatClampNeg))) ((sc.1 (((nI (6 * i)) + (2 : Int32)).toNatClampNeg))) ((sc.1 (((nI (6 * i)) + (3 : Int32)).toNatClampNeg))) ((sc.1 (((nI (6 * i)) + (4 : Int32)).toNatClampNeg)))
  refine ⟨S2, hI, ?_⟩
  dsimp only at m
  rw [e_L_law_1041, if_neg ob1, if_neg ob2, if_neg ob3, if_neg ob4, c, Option.bind_some]
  dsimp only
  rw [if_neg ob1, if_neg ob2, if_neg ob3, if_neg ob4, m, Option.bind_some]
  exact if_pos rfl
theorem l_case24 (sc : zSc) {S : zS} {i t : Nat} (hL : sc.2 ≤ 3072) (hi : 6 * i + 6 ≤ sc.2) (hT : t < 1000000) (h : zInv t S) : ∃ S', zInv (t + 32) S' ∧ zO zgI sc (zg1, (zm_L_law, 200), 1094, S, lvL (nI (6 * i)), []) = zO zgI sc (zg1, (zm_L_law, 200), 18, S', lvL ((nI (6 * i)) + (6 : Int32)), []) := by
  have ob1 : ¬ ((nI (6 * i)) + (1 : Int32) < 0 ∨ sc.2 ≤ ((nI (6 * i)) + (1 : Int32)).toNatClampNeg) := l_ob hL hi (k := 1) (by omega)
  have ob2 : ¬ ((nI (6 * i)) + (2 : Int32) < 0 ∨ sc.2 ≤ ((nI (6 * i)) + (2 : Int32)).toNatClampNeg) := l_ob hL hi (k := 2) (by omega)
  obtain ⟨v, S1, S2, c, m, hI⟩ := o_call sc h ((sc.1 (((nI (6 * i)) + (1 : Int32)).toNatClampNeg))) ((sc.1 (((nI (6 * i)) + (2 : Int32)).toNatClampNeg)))
  refine ⟨S2, hI, ?_⟩
  dsimp only at m
  rw [e_L_law_1094, if_neg ob1, if_neg ob2, c, Option.bind_some]
  dsimp only
  rw [if_neg ob1, if_neg ob2, m, Option.bind_some]
  exact if_pos rfl
theorem l_case25 (sc : zSc) {S : zS} {i t : Nat} (hL : sc.2 ≤ 3072) (hi : 6 * i + 6 ≤ sc.2) (hT : t < 1000000) (h : zInv t S) : ∃ S', zInv (t + 32) S' ∧ zO zgI sc (zg1, (zm_L_law, 200), 1127, S, lvL (nI (6 * i)), []) = zO zgI sc (zg1, (zm_L_law, 200), 18, S', lvL ((nI (6 * i)) + (6 : Int32)), []) := by
  have ob1 : ¬ ((nI (6 * i)) + (1 : Int32) < 0 ∨ sc.2 ≤ ((nI (6 * i)) + (1 : Int32)).toNatClampNeg) := l_ob hL hi (k := 1) (by omega)
  obtain ⟨v, S1, S2, c, m, hI⟩ := o_punish sc hT h ((sc.1 (((nI (6 * i)) + (1 : Int32)).toNatClampNeg)))
  refine ⟨S2, hI, ?_⟩
  dsimp only at m
  rw [e_L_law_1127, if_neg ob1, c, Option.bind_some]
  dsimp only
  rw [if_neg ob1, m, Option.bind_some]
  exact if_pos rfl
theorem l_case26 (sc : zSc) {S : zS} {i t : Nat} (hL : sc.2 ≤ 3072) (hi : 6 * i + 6 ≤ sc.2) (hT : t < 1000000) (h : zInv t S) : ∃ S', zInv (t + 32) S' ∧ zO zgI sc (zg1, (zm_L_law, 200), 1150, S, lvL (nI (6 * i)), []) = zO zgI sc (zg1, (zm_L_law, 200), 18, S', lvL ((nI (6 * i)) + (6 : Int32)), []) := by
  have ob1 : ¬ ((nI (6 * i)) + (1 : Int32) < 0 ∨ sc.2 ≤ ((nI (6 * i)) + (1 : Int32)).toNatClampNeg) := l_ob hL hi (k := 1) (by omega)
  obtain ⟨v, S1, S2, c, m, hI⟩ := o_led sc h ((sc.1 (((nI (6 * i)) + (1 : Int32)).toNatClampNeg)))
  refine ⟨S2, hI, ?_⟩
  dsimp only at m
  rw [e_L_law_1150, if_neg ob1, c, Option.bind_some]
  dsimp only
  rw [if_neg ob1, m, Option.bind_some]
  exact if_pos rfl
theorem l_case27 (sc : zSc) {S : zS} {i t : Nat} (hL : sc.2 ≤ 3072) (hi : 6 * i + 6 ≤ sc.2) (hT : t < 1000000) (h : zInv t S) : ∃ S', zInv (t + 32) S' ∧ zO zgI sc (zg1, (zm_L_law, 200), 1173, S, lvL (nI (6 * i)), []) = zO zgI sc (zg1, (zm_L_law, 200), 18, S', lvL ((nI (6 * i)) + (6 : Int32)), []) := by
  obtain ⟨v, S1, S2, c, m, hI⟩ := o_image sc h
  refine ⟨S2, hI, ?_⟩
  dsimp only at m
  rw [e_L_law_1173, c, Option.bind_some]
  dsimp only
  rw [m, Option.bind_some]
  exact if_pos rfl
theorem l_case28 (sc : zSc) {S : zS} {i t : Nat} (hL : sc.2 ≤ 3072) (hi : 6 * i + 6 ≤ sc.2) (hT : t < 1000000) (h : zInv t S) : ∃ S', zInv (t + 32) S' ∧ zO zgI sc (zg1, (zm_L_law, 200), 1186, S, lvL (nI (6 * i)), []) = zO zgI sc (zg1, (zm_L_law, 200), 18, S', lvL ((nI (6 * i)) + (6 : Int32)), []) := by
  obtain ⟨v, S1, S2, c, m, hI⟩ := o_back sc hT h
  refine ⟨S2, hI, ?_⟩
  dsimp only at m
  rw [e_L_law_1186, c, Option.bind_some]
  dsimp only
  rw [m, Option.bind_some]
  exact if_pos rfl
theorem l_case29 (sc : zSc) {S : zS} {i t : Nat} (hL : sc.2 ≤ 3072) (hi : 6 * i + 6 ≤ sc.2) (hT : t < 1000000) (h : zInv t S) : ∃ S', zInv (t + 32) S' ∧ zO zgI sc (zg1, (zm_L_law, 200), 1199, S, lvL (nI (6 * i)), []) = zO zgI sc (zg1, (zm_L_law, 200), 18, S', lvL ((nI (6 * i)) + (6 : Int32)), []) := by
  obtain ⟨v, S1, S2, c, m, hI⟩ := o_undo sc hT h
  refine ⟨S2, hI, ?_⟩
  dsimp only at m
  rw [e_L_law_1199, c, Option.bind_some]
  dsimp only
  rw [m, Option.bind_some]
  exact if_pos rfl
theorem l_case30 (sc : zSc) {S : zS} {i t : Nat} (hL : sc.2 ≤ 3072) (hi : 6 * i + 6 ≤ sc.2) (hT : t < 1000000) (h : zInv t S) : ∃ S', zInv (t + 32) S' ∧ zO zgI sc (zg1, (zm_L_law, 200), 1212, S, lvL (nI (6 * i)), []) = zO zgI sc (zg1, (zm_L_law, 200), 18, S', lvL ((nI (6 * i)) + (6 : Int32)), []) := by
  obtain ⟨v, S1, S2, c, m, hI⟩ := o_redo sc hT h
  refine ⟨S2, hI, ?_⟩
  dsimp only at m
  rw [e_L_law_1212, c, Option.bind_some]
  dsimp only
  rw [m, Option.bind_some]
  exact if_pos rfl
theorem l_case31 (sc : zSc) {S : zS} {i t : Nat} (hL : sc.2 ≤ 3072) (hi : 6 * i + 6 ≤ sc.2) (hT : t < 1000000) (h : zInv t S) : ∃ S', zInv (t + 32) S' ∧ zO zgI sc (zg1, (zm_L_law, 200), 1225, S, lvL (nI (6 * i)), []) = zO zgI sc (zg1, (zm_L_law, 200), 18, S', lvL ((nI (6 * i)) + (6 : Int32)), []) := by
  have ob1 : ¬ ((nI (6 * i)) + (1 : Int32) < 0 ∨ sc.2 ≤ ((nI (6 * i)) + (1 : Int32)).toNatClampNeg) := l_ob hL hi (k := 1) (by omega)
  obtain ⟨v, S1, S2, c, m, hI⟩ := o_body sc h ((sc.1 (((nI (6 * i)) + (1 : Int32)).toNatClampNeg)))
  refine ⟨S2, hI, ?_⟩
  dsimp only at m
  rw [e_L_law_1225, if_neg ob1, c, Option.bind_some]
  dsimp only
  rw [if_neg ob1, m, Option.bind_some]
  exact if_pos rfl
theorem l_case32 (sc : zSc) {S : zS} {i t : Nat} (hL : sc.2 ≤ 3072) (hi : 6 * i + 6 ≤ sc.2) (hT : t < 1000000) (h : zInv t S) : ∃ S', zInv (t + 32) S' ∧ zO zgI sc (zg1, (zm_L_law, 200), 1248, S, lvL (nI (6 * i)), []) = zO zgI sc (zg1, (zm_L_law, 200), 18, S', lvL ((nI (6 * i)) + (6 : Int32)), []) := by
  have ob1 : ¬ ((nI (6 * i)) + (1 : Int32) < 0 ∨ sc.2 ≤ ((nI (6 * i)) + (1 : Int32)).toNatClampNeg) := l_ob hL hi (k := 1) (by omega)
  have ob2 : ¬ ((nI (6 * i)) + (2 : Int32) < 0 ∨ sc.2 ≤ ((nI (6 * i)) + (2 : Int32)).toNatClampNeg) := l_ob hL hi (k := 2) (by omega)
  have ob3 : ¬ ((nI (6 * i)) + (3 : Int32) < 0 ∨ sc.2 ≤ ((nI (6 * i)) + (3 : Int32)).toNatClampNeg) := l_ob hL hi (k := 3) (by omega)
  obtain ⟨v, S1, S2, c, m, hI⟩ := o_act sc h ((sc.1 (((nI (6 * i)) + (1 : Int32)).toNatClampNeg))) ((sc.1 (((nI (6 * i)) + (2 : Int32)).toNatClampNeg))) ((sc.1 (((nI (6 * i)) + (3 : Int32)).toNatClampNeg)))
  refine ⟨S2, hI, ?_⟩
  dsimp only at m
  rw [e_L_law_1248, if_neg ob1, if_neg ob2, if_neg ob3, c, Option.bind_some]
  dsimp only
  rw [if_neg ob1, if_neg ob2, if_neg ob3, m, Option.bind_some]
  exact if_pos rfl
theorem l_case33 (sc : zSc) {S : zS} {i t : Nat} (hL : sc.2 ≤ 3072) (hi : 6 * i + 6 ≤ sc.2) (hT : t < 1000000) (h : zInv t S) : ∃ S', zInv (t + 32) S' ∧ zO zgI sc (zg1, (zm_L_law, 200), 1291, S, lvL (nI (6 * i)), []) = zO zgI sc (zg1, (zm_L_law, 200), 18, S', lvL ((nI (6 * i)) + (6 : Int32)), []) := by
  have ob1 : ¬ ((nI (6 * i)) + (1 : Int32) < 0 ∨ sc.2 ≤ ((nI (6 * i)) + (1 : Int32)).toNatClampNeg) := l_ob hL hi (k := 1) (by omega)
  obtain ⟨v, S1, S2, c, m, hI⟩ := o_trace sc h ((sc.1 (((nI (6 * i)) + (1 : Int32)).toNatClampNeg)))
  refine ⟨S2, hI, ?_⟩
  dsimp only at m
  rw [e_L_law_1291, if_neg ob1, c, Option.bind_some]
  dsimp only
  rw [if_neg ob1, m, Option.bind_some]
  exact if_pos rfl
theorem l_case34 (sc : zSc) {S : zS} {i t : Nat} (hL : sc.2 ≤ 3072) (hi : 6 * i + 6 ≤ sc.2) (hT : t < 1000000) (h : zInv t S) : ∃ S', zInv (t + 32) S' ∧ zO zgI sc (zg1, (zm_L_law, 200), 1314, S, lvL (nI (6 * i)), []) = zO zgI sc (zg1, (zm_L_law, 200), 18, S', lvL ((nI (6 * i)) + (6 : Int32)), []) := by
  have ob1 : ¬ ((nI (6 * i)) + (1 : Int32) < 0 ∨ sc.2 ≤ ((nI (6 * i)) + (1 : Int32)).toNatClampNeg) := l_ob hL hi (k := 1) (by omega)
  have ob2 : ¬ ((nI (6 * i)) + (2 : Int32) < 0 ∨ sc.2 ≤ ((nI (6 * i)) + (2 : Int32)).toNatClampNeg) := l_ob hL hi (k := 2) (by omega)
  obtain ⟨v, S1, S2, c, m, hI⟩ := o_keep sc h ((sc.1 (((nI (6 * i)) + (1 : Int32)).toNatClampNeg))) ((sc.1 (((nI (6 * i)) + (2 : Int32)).toNatClampNeg)))
  refine ⟨S2, hI, ?_⟩
  dsimp only at m
  rw [e_L_law_1314, if_neg ob1, if_neg ob2, c, Option.bind_some]
  dsimp only
  rw [if_neg ob1, if_neg ob2, m, Option.bind_some]
  exact if_pos rfl
theorem l_case35 (sc : zSc) {S : zS} {i t : Nat} (hL : sc.2 ≤ 3072) (hi : 6 * i + 6 ≤ sc.2) (hT : t < 1000000) (h : zInv t S) : ∃ S', zInv (t + 32) S' ∧ zO zgI sc (zg1, (zm_L_law, 200), 1347, S, lvL (nI (6 * i)), []) = zO zgI sc (zg1, (zm_L_law, 200), 18, S', lvL ((nI (6 * i)) + (6 : Int32)), []) := by
  have ob1 : ¬ ((nI (6 * i)) + (1 : Int32) < 0 ∨ sc.2 ≤ ((nI (6 * i)) + (1 : Int32)).toNatClampNeg) := l_ob hL hi (k := 1) (by omega)
  have ob2 : ¬ ((nI (6 * i)) + (2 : Int32) < 0 ∨ sc.2 ≤ ((nI (6 * i)) + (2 : Int32)).toNatClampNeg) := l_ob hL hi (k := 2) (by omega)
  have ob3 : ¬ ((nI (6 * i)) + (3 : Int32) < 0 ∨ sc.2 ≤ ((nI (6 * i)) + (3 : Int32)).toNatClampNeg) := l_ob hL hi (k := 3) (by omega)
  obtain ⟨v, S1, S2, c, m, hI⟩ := o_row sc h ((sc.1 (((nI (6 * i)) + (1 : Int32)).toNatClampNeg))) ((sc.1 (((nI (6 * i)) + (2 : Int32)).toNatClampNeg))) ((sc.1 (((nI (6 * i)) + (3 : Int32)).toNatClampNeg)))
  refine ⟨S2, hI, ?_⟩
  dsimp only at m
  rw [e_L_law_1347, if_neg ob1, if_neg ob2, if_neg ob3, c, Option.bind_some]
  dsimp only
  rw [if_neg ob1, if_neg ob2, if_neg ob3, m, Option.bind_some]
  exact if_pos rfl
theorem l_case36 (sc : zSc) {S : zS} {i t : Nat} (hL : sc.2 ≤ 3072) (hi : 6 * i + 6 ≤ sc.2) (hT : t < 1000000) (h : zInv t S) : ∃ S', zInv (t + 32) S' ∧ zO zgI sc (zg1, (zm_L_law, 200), 1390, S, lvL (nI (6 * i)), []) = zO zgI sc (zg1, (zm_L_law, 200), 18, S', lvL ((nI (6 * i)) + (6 : Int32)), []) := by
  have ob1 : ¬ ((nI (6 * i)) + (1 : Int32) < 0 ∨ sc.2 ≤ ((nI (6 * i)) + (1 : Int32)).toNatClampNeg) := l_ob hL hi (k := 1) (by omega)
  have ob2 : ¬ ((nI (6 * i)) + (2 : Int32) < 0 ∨ sc.2 ≤ ((nI (6 * i)) + (2 : Int32)).toNatClampNeg) := l_ob hL hi (k := 2) (by omega)
  have ob3 : ¬ ((nI (6 * i)) + (3 : Int32) < 0 ∨ sc.2 ≤ ((nI (6 * i)) + (3 : Int32)).toNatClampNeg) := l_ob hL hi (k := 3) (by omega)
  have ob4 : ¬ ((nI (6 * i)) + (4 : Int32) < 0 ∨ sc.2 ≤ ((nI (6 * i)) + (4 : Int32)).toNatClampNeg) := l_ob hL hi (k := 4) (by omega)
  obtain ⟨v, S1, S2, c, m, hI⟩ := o_put sc h ((sc.1 (((nI (6 * i)) + (1 : Int32)).toNatClampNeg))) ((sc.1 (((nI (6 * i)) + (2 : Int32)).toNatClampNeg))) (((((sc.1 (((nI (6 * i)) + (3 : Int32)).toNatClampNeg)).toInt64) <<< ((32 : Int32).toInt64 &&& 63)) ||| (((sc.1 (((nI (6 * i)) + (4 : Int32)).toNatClampNeg)).toInt64) &&& (4294967295 : Int64))))
  refine ⟨S2, hI, ?_⟩
  dsimp only at m
  rw [e_L_law_1390, if_neg ob1, if_neg ob2, if_neg ob3, if_neg ob4, c, Option.bind_some]
  dsimp only
  rw [if_neg ob1, if_neg ob2, if_neg ob3, if_neg ob4, m, Option.bind_some]
  exact if_pos rfl
theorem l_case37 (sc : zSc) {S : zS} {i t : Nat} (hL : sc.2 ≤ 3072) (hi : 6 * i + 6 ≤ sc.2) (hT : t < 1000000) (h : zInv t S) : ∃ S', zInv (t + 32) S' ∧ zO zgI sc (zg1, (zm_L_law, 200), 1463, S, lvL (nI (6 * i)), []) = zO zgI sc (zg1, (zm_L_law, 200), 18, S', lvL ((nI (6 * i)) + (6 : Int32)), []) := by
  have ob1 : ¬ ((nI (6 * i)) + (1 : Int32) < 0 ∨ sc.2 ≤ ((nI (6 * i)) + (1 : Int32)).toNatClampNeg) := l_ob hL hi (k := 1) (by omega)
  have ob2 : ¬ ((nI (6 * i)) + (2 : Int32) < 0 ∨ sc.2 ≤ ((nI (6 * i)) + (2 : Int32)).toNatClampNeg) := l_ob hL hi (k := 2) (by omega)
  obtain ⟨v, S1, S2, c, m, hI⟩ := o_element sc h ((sc.1 (((nI (6 * i)) + (1 : Int32)).toNatClampNeg))) ((sc.1 (((nI (6 * i)) + (2 : Int32)).toNatClampNeg)))
  refine ⟨S2, hI, ?_⟩
  dsimp only at m
  rw [e_L_law_1463, if_neg ob1, if_neg ob2, c, Option.bind_some]
  dsimp only
  rw [if_neg ob1, if_neg ob2, m, Option.bind_some]
  exact if_pos ((lg_cmp_eq _ _).mpr rfl)
theorem l_case38 (sc : zSc) {S : zS} {i t : Nat} (hL : sc.2 ≤ 3072) (hi : 6 * i + 6 ≤ sc.2) (hT : t < 1000000) (h : zInv t S) : ∃ S', zInv (t + 32) S' ∧ zO zgI sc (zg1, (zm_L_law, 200), 1497, S, lvL (nI (6 * i)), []) = zO zgI sc (zg1, (zm_L_law, 200), 18, S', lvL ((nI (6 * i)) + (6 : Int32)), []) := by
  have ob1 : ¬ ((nI (6 * i)) + (1 : Int32) < 0 ∨ sc.2 ≤ ((nI (6 * i)) + (1 : Int32)).toNatClampNeg) := l_ob hL hi (k := 1) (by omega)
  have ob2 : ¬ ((nI (6 * i)) + (2 : Int32) < 0 ∨ sc.2 ≤ ((nI (6 * i)) + (2 : Int32)).toNatClampNeg) := l_ob hL hi (k := 2) (by omega)
  have ob3 : ¬ ((nI (6 * i)) + (3 : Int32) < 0 ∨ sc.2 ≤ ((nI (6 * i)) + (3 : Int32)).toNatClampNeg) := l_ob hL hi (k := 3) (by omega)
  have ob4 : ¬ ((nI (6 * i)) + (4 : Int32) < 0 ∨ sc.2 ≤ ((nI (6 * i)) + (4 : Int32)).toNatClampNeg) := l_ob hL hi (k := 4) (by omega)
  have ob5 : ¬ ((nI (6 * i)) + (5 : Int32) < 0 ∨ sc.2 ≤ ((nI (6 * i)) + (5 : Int32)).toNatClampNeg) := l_ob hL hi (k := 5) (by omega)
  obtain ⟨v, S1, S2, c, m, hI⟩ := o_shift sc h ((sc.1 (((nI (6 * i)) + (1 : Int32)).toNatClampNeg))) ((sc.1 (((nI (6 * i)) + (2 : Int32)).toNatClampNeg))) ((sc.1 (((nI (6 * i)) + (3 : Int32)).toNatClampNeg))) ((sc.1 (((nI (6 * i)) + (4 : Int32)).toNatClampNeg))) ((sc.1 (((nI (6 * i)) + (5 : Int32)).toNatClampNeg)))
  refine ⟨S2, hI, ?_⟩
  dsimp only at m
  rw [e_L_law_1497, if_neg ob1, if_neg ob2, if_neg ob3, if_neg ob4, if_neg ob5, c, Option.bind_some]
  dsimp only
  rw [if_neg ob1, if_neg ob2, if_neg ob3, if_neg ob4, if_neg ob5, m, Option.bind_some]
  exact if_pos rfl
theorem l_case39 (sc : zSc) {S : zS} {i t : Nat} (hL : sc.2 ≤ 3072) (hi : 6 * i + 6 ≤ sc.2) (hT : t < 1000000) (h : zInv t S) : ∃ S', zInv (t + 32) S' ∧ zO zgI sc (zg1, (zm_L_law, 200), 1560, S, lvL (nI (6 * i)), []) = zO zgI sc (zg1, (zm_L_law, 200), 18, S', lvL ((nI (6 * i)) + (6 : Int32)), []) := by
  have ob1 : ¬ ((nI (6 * i)) + (1 : Int32) < 0 ∨ sc.2 ≤ ((nI (6 * i)) + (1 : Int32)).toNatClampNeg) := l_ob hL hi (k := 1) (by omega)
  have ob2 : ¬ ((nI (6 * i)) + (2 : Int32) < 0 ∨ sc.2 ≤ ((nI (6 * i)) + (2 : Int32)).toNatClampNeg) := l_ob hL hi (k := 2) (by omega)
  obtain ⟨v, S1, S2, c, m, hI⟩ := o_taken sc h ((sc.1 (((nI (6 * i)) + (1 : Int32)).toNatClampNeg))) ((sc.1 (((nI (6 * i)) + (2 : Int32)).toNatClampNeg)))
  refine ⟨S2, hI, ?_⟩
  dsimp only at m
  rw [e_L_law_1560, if_neg ob1, if_neg ob2, c, Option.bind_some]
  dsimp only
  rw [if_neg ob1, if_neg ob2, m, Option.bind_some]
  exact if_pos rfl
theorem l_case40 (sc : zSc) {S : zS} {i t : Nat} (hL : sc.2 ≤ 3072) (hi : 6 * i + 6 ≤ sc.2) (hT : t < 1000000) (h : zInv t S) : ∃ S', zInv (t + 32) S' ∧ zO zgI sc (zg1, (zm_L_law, 200), 1593, S, lvL (nI (6 * i)), []) = zO zgI sc (zg1, (zm_L_law, 200), 18, S', lvL ((nI (6 * i)) + (6 : Int32)), []) := by
  have ob1 : ¬ ((nI (6 * i)) + (1 : Int32) < 0 ∨ sc.2 ≤ ((nI (6 * i)) + (1 : Int32)).toNatClampNeg) := l_ob hL hi (k := 1) (by omega)
  obtain ⟨v, S1, S2, c, m, hI⟩ := o_count sc h ((sc.1 (((nI (6 * i)) + (1 : Int32)).toNatClampNeg)))
  refine ⟨S2, hI, ?_⟩
  dsimp only at m
  rw [e_L_law_1593, if_neg ob1, c, Option.bind_some]
  dsimp only
  rw [if_neg ob1, m, Option.bind_some]
  exact if_pos rfl
set_option maxHeartbeats 4000000 in
theorem law_go (sc : zSc) (hL : sc.2 ≤ 3072) : ∀ (f i : Nat) (S : zS), f + i = 513 → zInv (32 * i) S → ∃ S', zO zgI sc (zg1, (zm_L_law, 200), 18, S, lvL (nI (6 * i)), []) = some (1, S')
  | 0, i, S, hf, h => by
    refine ⟨S, ?_⟩
    have e6 : (6 : Int32).toInt = 6 := rfl
    have e2 : (Int32.ofNat sc.2).toInt = sc.2 := zi_nI (n := sc.2) (by omega)
    rw [e_L_law_18, if_pos (by rw [zi_lt, zi_sub (by rw [e2, e6]; omega) (by rw [e2, e6]; omega), e2, e6, zi_nI (by omega)]; omega)]
  | f + 1, i, S, hf, h => by
    have e6 : (6 : Int32).toInt = 6 := rfl
    have e2 : (Int32.ofNat sc.2).toInt = sc.2 := zi_nI (n := sc.2) (by omega)
    by_cases hi : 6 * i + 6 ≤ sc.2
    case neg =>
      refine ⟨S, ?_⟩
      rw [e_L_law_18, if_pos (by rw [zi_lt, zi_sub (by rw [e2, e6]; omega) (by rw [e2, e6]; omega), e2, e6, zi_nI (by omega)]; omega)]
    have hT : 32 * i < 1000000 := by omega
    have next : ∀ S' : zS, zInv (32 * i + 32) S' → ∃ S'', zO zgI sc (zg1, (zm_L_law, 200), 18, S', lvL ((nI (6 * i)) + (6 : Int32)), []) = some (1, S'') := fun S' h' => by
      have := law_go sc hL f (i + 1) S' (by omega) h'
      rw [show 6 * (i + 1) = 6 * i + 6 by omega] at this
      rw [show nI (6 * i) + (6 : Int32) = nI (6 * i + 6) from zn_add (6 * i) 6]
      exact this
    rw [e_L_law_18, if_neg (by rw [zi_lt, zi_sub (by rw [e2, e6]; omega) (by rw [e2, e6]; omega), e2, e6, zi_nI (by omega)]; omega), if_neg (by first | (rw [n_ob (by omega)]; omega) | (rw [n_obb (by omega)]; omega))]
    generalize hw : (sc.1 (nI (6 * i)).toNatClampNeg) &&& (63 : Int32) = w
    by_cases c0 : w = (0 : Int32)
    · rw [if_pos c0]
      obtain ⟨S', h1, h2⟩ := l_case0 sc hL hi hT h
      rw [h2]; exact next S' h1
    rw [if_neg c0]
    by_cases c1 : w = (1 : Int32)
    · rw [if_pos c1]
      obtain ⟨S', h1, h2⟩ := l_case1 sc hL hi hT h
      rw [h2]; exact next S' h1
    rw [if_neg c1]
    by_cases c2 : w = (2 : Int32)
    · rw [if_pos c2]
      obtain ⟨S', h1, h2⟩ := l_case2 sc hL hi hT h
      rw [h2]; exact next S' h1
    rw [if_neg c2]
    by_cases c3 : w = (3 : Int32)
    · rw [if_pos c3]
      obtain ⟨S', h1, h2⟩ := l_case3 sc hL hi hT h
      rw [h2]; exact next S' h1
    rw [if_neg c3]
    by_cases c4 : w = (4 : Int32)
    · rw [if_pos c4]
      obtain ⟨S', h1, h2⟩ := l_case4 sc hL hi hT h
      rw [h2]; exact next S' h1
    rw [if_neg c4]
    by_cases c5 : w = (5 : Int32)
    · rw [if_pos c5]
      obtain ⟨S', h1, h2⟩ := l_case5 sc hL hi hT h
      rw [h2]; exact next S' h1
    rw [if_neg c5]
    by_cases c6 : w = (6 : Int32)
    · rw [if_pos c6]
      obtain ⟨S', h1, h2⟩ := l_case6 sc hL hi hT h
      rw [h2]; exact next S' h1
    rw [if_neg c6]
    by_cases c7 : w = (7 : Int32)
    · rw [if_pos c7]
      obtain ⟨S', h1, h2⟩ := l_case7 sc hL hi hT h
      rw [h2]; exact next S' h1
    rw [if_neg c7]
    by_cases c8 : w = (8 : Int32)
    · rw [if_pos c8]
      obtain ⟨S', h1, h2⟩ := l_case8 sc hL hi hT h
      rw [h2]; exact next S' h1
    rw [if_neg c8]
    by_cases c9 : w = (9 : Int32)
    · rw [if_pos c9]
      obtain ⟨S', h1, h2⟩ := l_case9 sc hL hi hT h
      rw [h2]; exact next S' h1
    rw [if_neg c9]
    by_cases c10 : w = (10 : Int32)
    · rw [if_pos c10]
      obtain ⟨S', h1, h2⟩ := l_case10 sc hL hi hT h
      rw [h2]; exact next S' h1
    rw [if_neg c10]
    by_cases c11 : w = (11 : Int32)
    · rw [if_pos c11]
      obtain ⟨S', h1, h2⟩ := l_case11 sc hL hi hT h
      rw [h2]; exact next S' h1
    rw [if_neg c11]
    by_cases c12 : w = (12 : Int32)
    · rw [if_pos c12]
      obtain ⟨S', h1, h2⟩ := l_case12 sc hL hi hT h
      rw [h2]; exact next S' h1
    rw [if_neg c12]
    by_cases c13 : w = (13 : Int32)
    · rw [if_pos c13]
      obtain ⟨S', h1, h2⟩ := l_case13 sc hL hi hT h
      rw [h2]; exact next S' h1
    rw [if_neg c13]
    by_cases c14 : w = (14 : Int32)
    · rw [if_pos c14]
      obtain ⟨S', h1, h2⟩ := l_case14 sc hL hi hT h
      rw [h2]; exact next S' h1
    rw [if_neg c14]
    by_cases c15 : w = (15 : Int32)
    · rw [if_pos c15]
      obtain ⟨S', h1, h2⟩ := l_case15 sc hL hi hT h
      rw [h2]; exact next S' h1
    rw [if_neg c15]
    by_cases c16 : w = (16 : Int32)
    · rw [if_pos c16]
      obtain ⟨S', h1, h2⟩ := l_case16 sc hL hi hT h
      rw [h2]; exact next S' h1
    rw [if_neg c16]
    by_cases c17 : w = (17 : Int32)
    · rw [if_pos c17]
      obtain ⟨S', h1, h2⟩ := l_case17 sc hL hi hT h
      rw [h2]; exact next S' h1
    rw [if_neg c17]
    by_cases c18 : w = (18 : Int32)
    · rw [if_pos c18]
      obtain ⟨S', h1, h2⟩ := l_case18 sc hL hi hT h
      rw [h2]; exact next S' h1
    rw [if_neg c18]
    by_cases c19 : w = (19 : Int32)
    · rw [if_pos c19]
      obtain ⟨S', h1, h2⟩ := l_case19 sc hL hi hT h
      rw [h2]; exact next S' h1
    rw [if_neg c19]
    by_cases c20 : w = (20 : Int32)
    · rw [if_pos c20]
      obtain ⟨S', h1, h2⟩ := l_case20 sc hL hi hT h
      rw [h2]; exact next S' h1
    rw [if_neg c20]
    by_cases c21 : w = (21 : Int32)
    · rw [if_pos c21]
      obtain ⟨S', h1, h2⟩ := l_case21 sc hL hi hT h
      rw [h2]; exact next S' h1
    rw [if_neg c21]
    by_cases c22 : w = (22 : Int32)
    · rw [if_pos c22]
      obtain ⟨S', h1, h2⟩ := l_case22 sc hL hi hT h
      rw [h2]; exact next S' h1
    rw [if_neg c22]
    by_cases c23 : w = (23 : Int32)
    · rw [if_pos c23]
      obtain ⟨S', h1, h2⟩ := l_case23 sc hL hi hT h
      rw [h2]; exact next S' h1
    rw [if_neg c23]
    by_cases c24 : w = (24 : Int32)
    · rw [if_pos c24]
      obtain ⟨S', h1, h2⟩ := l_case24 sc hL hi hT h
      rw [h2]; exact next S' h1
    rw [if_neg c24]
    by_cases c25 : w = (25 : Int32)
    · rw [if_pos c25]
      obtain ⟨S', h1, h2⟩ := l_case25 sc hL hi hT h
      rw [h2]; exact next S' h1
    rw [if_neg c25]
    by_cases c26 : w = (26 : Int32)
    · rw [if_pos c26]
      obtain ⟨S', h1, h2⟩ := l_case26 sc hL hi hT h
      rw [h2]; exact next S' h1
    rw [if_neg c26]
    by_cases c27 : w = (27 : Int32)
    · rw [if_pos c27]
      obtain ⟨S', h1, h2⟩ := l_case27 sc hL hi hT h
      rw [h2]; exact next S' h1
    rw [if_neg c27]
    by_cases c28 : w = (28 : Int32)
    · rw [if_pos c28]
      obtain ⟨S', h1, h2⟩ := l_case28 sc hL hi hT h
      rw [h2]; exact next S' h1
    rw [if_neg c28]
    by_cases c29 : w = (29 : Int32)
    · rw [if_pos c29]
      obtain ⟨S', h1, h2⟩ := l_case29 sc hL hi hT h
      rw [h2]; exact next S' h1
    rw [if_neg c29]
    by_cases c30 : w = (30 : Int32)
    · rw [if_pos c30]
      obtain ⟨S', h1, h2⟩ := l_case30 sc hL hi hT h
      rw [h2]; exact next S' h1
    rw [if_neg c30]
    by_cases c31 : w = (31 : Int32)
    · rw [if_pos c31]
      obtain ⟨S', h1, h2⟩ := l_case31 sc hL hi hT h
      rw [h2]; exact next S' h1
    rw [if_neg c31]
    by_cases c32 : w = (32 : Int32)
    · rw [if_pos c32]
      obtain ⟨S', h1, h2⟩ := l_case32 sc hL hi hT h
      rw [h2]; exact next S' h1
    rw [if_neg c32]
    by_cases c33 : w = (33 : Int32)
    · rw [if_pos c33]
      obtain ⟨S', h1, h2⟩ := l_case33 sc hL hi hT h
      rw [h2]; exact next S' h1
    rw [if_neg c33]
    by_cases c34 : w = (34 : Int32)
    · rw [if_pos c34]
      obtain ⟨S', h1, h2⟩ := l_case34 sc hL hi hT h
      rw [h2]; exact next S' h1
    rw [if_neg c34]
    by_cases c35 : w = (35 : Int32)
    · rw [if_pos c35]
      obtain ⟨S', h1, h2⟩ := l_case35 sc hL hi hT h
      rw [h2]; exact next S' h1
    rw [if_neg c35]
    by_cases c36 : w = (36 : Int32)
    · rw [if_pos c36]
      obtain ⟨S', h1, h2⟩ := l_case36 sc hL hi hT h
      rw [h2]; exact next S' h1
    rw [if_neg c36]
    by_cases c37 : w = (37 : Int32)
    · rw [if_pos c37]
      obtain ⟨S', h1, h2⟩ := l_case37 sc hL hi hT h
      rw [h2]; exact next S' h1
    rw [if_neg c37]
    by_cases c38 : w = (38 : Int32)
    · rw [if_pos c38]
      obtain ⟨S', h1, h2⟩ := l_case38 sc hL hi hT h
      rw [h2]; exact next S' h1
    rw [if_neg c38]
    by_cases c39 : w = (39 : Int32)
    · rw [if_pos c39]
      obtain ⟨S', h1, h2⟩ := l_case39 sc hL hi hT h
      rw [h2]; exact next S' h1
    rw [if_neg c39]
    by_cases c40 : w = (40 : Int32)
    · rw [if_pos c40]
      obtain ⟨S', h1, h2⟩ := l_case40 sc hL hi hT h
      rw [h2]; exact next S' h1
    rw [if_neg c40]
    exact next S (zInv_up h (by omega))
