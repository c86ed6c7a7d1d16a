/-! ===== Pupils ===== -/
abbrev zsz (S : zS) : Prop := 0 ≤ (S.1 1 1).toInt ∧ (S.1 1 1).toInt ≤ 8
/-- a number (a) and what (b) of it that are there -/
abbrev zhas (n a b : Int32) : Prop := (0 ≤ b.toInt ∧ b.toInt ≤ 7 ∧ 0 ≤ a.toInt ∧ a.toInt < n.toInt) ∨ (8 ≤ b.toInt ∧ b.toInt ≤ 9 ∧ a.toInt = 0)
def zsl (a b : Int32) : Nat := if b.toInt ≤ 7 then 8 * a.toNatClampNeg + b.toNatClampNeg else 56 + b.toNatClampNeg
abbrev zfit (a v : Int32) : Prop := 0 ≤ a.toInt ∧ a.toInt ≤ 9 ∧ (zsf 0 a.toNatClampNeg).toInt ≤ v.toInt ∧ v.toInt ≤ (zsf 1 a.toNatClampNeg).toInt
theorem zb_sm {p q : Prop} {i : Decidable p} {j : Decidable q} {S : zS} (h : p ↔ q) : some (@zb p i, S) = some (@zb q j, S) := by rw [zb_cg h]
theorem zb_np {p : Prop} : (¬ p ∨ p) ↔ True := ⟨fun _ => trivial, fun _ => (Classical.em p).symm⟩
theorem zi_sub1 {x : Int32} (h : 0 ≤ x.toInt) : (x - 1).toInt = x.toInt - 1 := by
  have := zi_ub x
  exact zi_sub (y := 1) (by show _ ≤ x.toInt - 1; omega) (by show x.toInt - 1 < _; omega)
theorem s_isOne (sc : zSc) (S : zS) (a : Int32) (h : zsz S) : zcI sc zm_X4_isOne [.ref 1, .int a] S = some (zb (0 ≤ a.toInt ∧ a.toInt < (S.1 1 1).toInt), S) := by
  rw [c_X4_isOne, s_within]
  simp only [Option.bind_some, zb_01, if_true]
  refine zb_sm ?_
  rw [zi_sub1 h.1, show (0 : Int32).toInt = 0 from rfl]
  omega
theorem s_has (sc : zSc) (S : zS) (a b : Int32) (h : zsz S) : zcI sc zm_X4_has [.ref 1, .int a, .int b] S = some (zb (zhas (S.1 1 1) a b), S) := by
  rw [c_X4_has]
  simp only [s_within, Option.bind_some, zb_0, zb_1, zb_np, if_true, ite_not]
  rw [zi_sub1 h.1, show (0 : Int32).toInt = 0 from rfl, show (7 : Int32).toInt = 7 from rfl, show (8 : Int32).toInt = 8 from rfl, show (9 : Int32).toInt = 9 from rfl]
  unfold zhas
  by_cases h1 : 0 ≤ b.toInt ∧ b.toInt ≤ 7
  · rw [if_pos h1]
    refine zb_sm ?_
    constructor <;> intro q <;> omega
  · rw [if_neg h1]
    by_cases h2 : 8 ≤ b.toInt ∧ b.toInt ≤ 9
    · rw [if_pos h2]
      by_cases h3 : a = 0
      · rw [if_pos h3, zb_t]
        subst h3
        exact Or.inr ⟨h2.1, h2.2, rfl⟩
      · rw [if_neg h3, zb_f]
        have : ¬ a.toInt = 0 := fun q => h3 (zi_eq.mpr q)
        omega
    · rw [if_neg h2, zb_f]
      omega
theorem s_fits (sc : zSc) (S : zS) (a v : Int32) : zcI sc zm_X4_fits [.int a, .int v] S = some (zb (zfit a v), S) := by
  rw [c_X4_fits]
  simp only [s_within, Option.bind_some, zb_0]
  rw [show (0 : Int32).toInt = 0 from rfl, show (9 : Int32).toInt = 9 from rfl]
  by_cases h1 : 0 ≤ a.toInt ∧ a.toInt ≤ 9
  · rw [if_neg (fun q => q h1), if_neg (zob.mpr ⟨h1.1, by omega⟩), if_neg (zob.mpr ⟨h1.1, by omega⟩)]
    by_cases h2 : (zsf 0 a.toNatClampNeg).toInt ≤ v.toInt ∧ v.toInt ≤ (zsf 1 a.toNatClampNeg).toInt
    · rw [if_neg (fun q => q h2), zb_t ⟨h1.1, h1.2, h2.1, h2.2⟩]
    · rw [if_pos h2, zb_f (fun q => h2 ⟨q.2.2.1, q.2.2.2⟩)]
  · rw [if_pos h1, zb_f (fun q => h1 ⟨q.1, q.2.1⟩)]
theorem zcl_toInt {x : Int32} (h : 0 ≤ x.toInt) : (x.toNatClampNeg : Int) = x.toInt := by rw [zi_cl]; omega
theorem s_slot (sc : zSc) (S : zS) (n a b : Int32) (hn : n.toInt ≤ 8) (h : zhas n a b) : ∃ x : Int32, zcI sc zm_X4_slot [.int a, .int b] S = some (x, S) ∧ x.toNatClampNeg = zsl a b ∧ ¬ (x < 0 ∨ 66 ≤ x.toNatClampNeg) := by
  rw [c_X4_slot]
  simp only [zi_le, show (8 : Int32).toInt = 8 from rfl]
  unfold zsl
  rcases h with ⟨h1, h2, h3, h4⟩ | ⟨h1, h2, h3⟩
  · have ha := zcl_toInt h3
    have hb := zcl_toInt h1
    have hm : (a * 8).toInt = a.toInt * 8 := zi_mul (y := 8) (by show _ ≤ a.toInt * 8; omega) (by show a.toInt * 8 < _; omega)
    have hs : (a * 8 + b).toInt = a.toInt * 8 + b.toInt := by rw [zi_add (by rw [hm]; omega) (by rw [hm]; omega), hm]
    rw [if_neg (by omega), if_pos h2]
    refine ⟨_, rfl, ?_, ?_⟩
    · have := zcl_toInt (x := a * 8 + b) (by omega)
      omega
    · rw [zob, hs]; omega
  · have hb := zcl_toInt (x := b) (by omega)
    have hm : (64 + b).toInt = 64 + b.toInt := zi_add (x := 64) (by show _ ≤ 64 + b.toInt; omega) (by show 64 + b.toInt < _; omega)
    have hs : (64 + b - 8).toInt = 64 + b.toInt - 8 := by rw [zi_sub (y := 8) (by rw [hm]; show _ ≤ _ - 8; omega) (by rw [hm]; show _ - 8 < _; omega), hm]; rfl
    rw [if_pos h1, if_neg (by omega)]
    refine ⟨_, rfl, ?_, ?_⟩
    · have := zcl_toInt (x := 64 + b - 8) (by omega)
      omega
    · rw [zob, hs]; omega
theorem s_get (sc : zSc) (S : zS) (a b : Int32) (hz : zsz S) (h : zhas (S.1 1 1) a b) : zcI sc zm_X4_get [.ref 1, .int a, .int b] S = some (S.1 2 (zsl a b), S) := by
  obtain ⟨x, h1, h2, h3⟩ := s_slot sc S _ a b hz.2 h
  rw [c_X4_get, s_has _ _ _ _ hz]
  simp only [Option.bind_some, zb_0, h1]
  rw [if_neg (fun q => q h), if_neg h3, h2]
theorem s_set (sc : zSc) (S : zS) (a b v : Int32) (hz : zsz S) (h : zhas (S.1 1 1) a b) : zcV sc zm_X4_set [.ref 1, .int a, .int b, .int v] S = some (zw1 (zw1 S 2 (zsl a b) v) 1 2 (S.1 1 2 + 1)) := by
  obtain ⟨x, h1, h2, h3⟩ := s_slot sc S _ a b hz.2 h
  rw [c_X4_set, s_has _ _ _ _ hz]
  simp only [Option.bind_some, zb_0, h1]
  rw [if_neg (fun q => q h), if_neg h3, h2]
