/-! ===== LAYER B: what the methods answer. Small facts first ===== -/
theorem zw1_r (S : zS) (c i : Nat) (x : Int32) (d j : Nat) : (zw1 S c i x).1 d j = if d = c ∧ j = i then x else S.1 d j := by
  unfold zw1 upd
  dsimp only
  by_cases h : d = c
  · by_cases h2 : j = i <;> simp [h, h2]
  · simp [h]
theorem zw1_l (S : zS) (c i : Nat) (x : Int32) : (zw1 S c i x).2 = S.2 := rfl
theorem zw2_r (S : zS) (c i : Nat) (x : Int64) (d j : Nat) : (zw2 S c i x).2 d j = if d = c ∧ j = i then x else S.2 d j := by
  unfold zw2 vp_updL
  dsimp only
  by_cases h : d = c
  · by_cases h2 : j = i <;> simp [h, h2]
  · simp [h]
theorem zw2_l (S : zS) (c i : Nat) (x : Int64) : (zw2 S c i x).1 = S.1 := rfl
theorem zc1_r (S : zS) (c : Nat) (f : Nat → Int32) (d j : Nat) : (zwc1 S c f).1 d j = if d = c then f j else S.1 d j := by
  unfold zwc1
  dsimp only
  by_cases h : d = c <;> simp [h]
theorem zc1_l (S : zS) (c : Nat) (f : Nat → Int32) : (zwc1 S c f).2 = S.2 := rfl
theorem zc2_r (S : zS) (c : Nat) (f : Nat → Int64) (d j : Nat) : (zwc2 S c f).2 d j = if d = c then f j else S.2 d j := by
  unfold zwc2
  dsimp only
  by_cases h : d = c <;> simp [h]
theorem zc2_l (S : zS) (c : Nat) (f : Nat → Int64) : (zwc2 S c f).1 = S.1 := rfl
/-- a truth as the machine keeps it -/
def zb (p : Prop) [i : Decidable p] : Int32 := if p then 1 else 0
theorem zb_t {p : Prop} {i : Decidable p} (h : p) : @zb p i = 1 := if_pos h
theorem zb_f {p : Prop} {i : Decidable p} (h : ¬ p) : @zb p i = 0 := if_neg h
theorem zb_0 {p : Prop} {i : Decidable p} : @zb p i = 0 ↔ ¬ p := by
  by_cases h : p
  · rw [zb_t h]; exact ⟨fun q => absurd q (by decide), fun q => absurd h q⟩
  · rw [zb_f h]; exact ⟨fun _ => h, fun _ => rfl⟩
theorem zb_n {p : Prop} {i : Decidable p} : @zb p i ≠ 0 ↔ p := by rw [ne_eq, zb_0]; exact Decidable.not_not
theorem zb_01 {p : Prop} {i : Decidable p} : (@zb p i = 0 ∨ @zb p i = 1) ↔ True := by
  refine ⟨fun _ => trivial, fun _ => ?_⟩
  by_cases h : p
  · exact Or.inr (zb_t h)
  · exact Or.inl (zb_f h)
theorem zb_1 {p : Prop} {i : Decidable p} : @zb p i = 1 ↔ p := by
  by_cases h : p
  · rw [zb_t h]; exact ⟨fun _ => h, fun _ => rfl⟩
  · rw [zb_f h]; exact ⟨fun q => absurd q (by decide), fun q => absurd q h⟩
theorem zb_cg {p q : Prop} {i : Decidable p} {j : Decidable q} (h : p ↔ q) : @zb p i = @zb q j := by
  by_cases hp : p
  · rw [zb_t hp, zb_t (h.mp hp)]
  · rw [zb_f hp, zb_f (fun k => hp (h.mpr k))]
-- numbers: an Int32 by its Int
theorem zi_lt {x y : Int32} : x < y ↔ x.toInt < y.toInt := Int32.lt_iff_toInt_lt
theorem zi_le {x y : Int32} : x ≤ y ↔ x.toInt ≤ y.toInt := Int32.le_iff_toInt_le
theorem zi_eq {x y : Int32} : x = y ↔ x.toInt = y.toInt := ⟨fun h => by rw [h], Int32.toInt_inj.mp⟩
theorem zi_nI {n : Nat} (h : n < 2147483648) : (nI n).toInt = (n : Int) := nI_toInt h
theorem zi_lb (x : Int32) : -2147483648 ≤ x.toInt := by have := Int32.le_toInt x; simpa using this
theorem zi_ub (x : Int32) : x.toInt < 2147483648 := by have := Int32.toInt_lt x; simpa using this
/-- a small number not below 0 -/
theorem zi_of {x : Int32} (h : 0 ≤ x.toInt) : ∃ j : Nat, j < 2147483648 ∧ x = nI j := by
  have h2 := zi_ub x
  refine ⟨x.toInt.toNat, by omega, ?_⟩
  rw [zi_eq, zi_nI (by omega)]
  omega
theorem zn_cl {n : Nat} (h : n < 2147483648) : (nI n).toNatClampNeg = n := nI_clamp h
theorem zi_cl (x : Int32) : (x.toNatClampNeg : Int) = max 0 x.toInt := by
  rcases Int.lt_or_le x.toInt 0 with h | h
  · have : x.toNatClampNeg = 0 := by
      unfold Int32.toNatClampNeg
      omega
    omega
  · obtain ⟨j, hj, rfl⟩ := zi_of h
    rw [zn_cl hj, zi_nI hj]
    omega
/-- in a row of n places -/
theorem zob {x : Int32} {n : Nat} : ¬ (x < 0 ∨ n ≤ x.toNatClampNeg) ↔ (0 ≤ x.toInt ∧ x.toInt < n) := by
  have h := zi_cl x
  rw [zi_lt, show (0 : Int32).toInt = 0 from rfl]
  omega
theorem zob_nI {j n : Nat} (h : j < n) (hn : n < 2147483648) : ¬ (nI j < 0 ∨ n ≤ (nI j).toNatClampNeg) := by
  rw [zob, zi_nI (by omega)]
  omega
/-! ===== the smallest methods ===== -/
theorem s_within (sc : zSc) (S : zS) (a b c : Int32) : zcI sc zm_X10_within [.int a, .int b, .int c] S = some (zb (b.toInt ≤ a.toInt ∧ a.toInt ≤ c.toInt), S) := by
  rw [c_X10_within]
  simp only [zi_lt]
  by_cases h1 : a.toInt < b.toInt
  · rw [if_pos h1, zb_f (by omega)]
  · rw [if_neg h1]
    by_cases h2 : c.toInt < a.toInt
    · rw [if_pos h2, zb_f (by omega)]
    · rw [if_neg h2, zb_t (by omega)]
/-! ===== sums that don't wrap ===== -/
theorem zi_bmod {a : Int} (h1 : -2147483648 ≤ a) (h2 : a < 2147483648) : a.bmod 4294967296 = a := Int.bmod_eq_of_le (by omega) (by omega)
theorem zi_add {x y : Int32} (h1 : -2147483648 ≤ x.toInt + y.toInt) (h2 : x.toInt + y.toInt < 2147483648) : (x + y).toInt = x.toInt + y.toInt := by
  rw [Int32.toInt_add]; exact zi_bmod h1 h2
theorem zi_sub {x y : Int32} (h1 : -2147483648 ≤ x.toInt - y.toInt) (h2 : x.toInt - y.toInt < 2147483648) : (x - y).toInt = x.toInt - y.toInt := by
  rw [Int32.toInt_sub]; exact zi_bmod h1 h2
theorem zi_mul {x y : Int32} (h1 : -2147483648 ≤ x.toInt * y.toInt) (h2 : x.toInt * y.toInt < 2147483648) : (x * y).toInt = x.toInt * y.toInt := by
  rw [Int32.toInt_mul]; exact zi_bmod h1 h2
theorem zi_inj {x : Int32} {n : Nat} (h : x.toInt = n) : x = nI n := by
  have h2 := zi_ub x
  rw [zi_eq, zi_nI (by omega), h]
theorem zn_add (a b : Nat) : nI a + nI b = nI (a + b) := nI_add a b
theorem zn_mul (a b : Nat) : nI a * nI b = nI (a * b) := pk_mul a b
theorem zn_sub {a b : Nat} (h : b ≤ a) : nI a - nI b = nI (a - b) := pk_sub h
theorem zn_lit (n : Nat) : (OfNat.ofNat n : Int32) = nI n := rfl
theorem zn_eq {a b : Nat} (ha : a < 2147483648) (hb : b < 2147483648) : nI a = nI b ↔ a = b := nI_eq ha hb
