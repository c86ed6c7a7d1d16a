/-! ===== numbers by naturals ===== -/
theorem n_lt {a b : Nat} (ha : a < 2147483648) (hb : b < 2147483648) : (nI a < nI b) = (a < b) := by
  rw [zi_lt, zi_nI ha, zi_nI hb]; exact propext Int.ofNat_lt
theorem n_le {a b : Nat} (ha : a < 2147483648) (hb : b < 2147483648) : (nI a ≤ nI b) = (a ≤ b) := by
  rw [zi_le, zi_nI ha, zi_nI hb]; exact propext Int.ofNat_le
theorem n_eq {a b : Nat} (ha : a < 2147483648) (hb : b < 2147483648) : (nI a = nI b) = (a = b) := propext (zn_eq ha hb)
theorem n_lt0 {a : Nat} (ha : a < 2147483648) : (nI a < 0) = False := by
  rw [show (0 : Int32) = nI 0 from rfl, n_lt ha (by omega)]; exact propext ⟨fun h => absurd h (by omega), False.elim⟩
theorem n_le0 {a : Nat} (ha : a < 2147483648) : (nI a ≤ 0) = (a = 0) := by
  rw [show (0 : Int32) = nI 0 from rfl, n_le ha (by omega)]; exact propext ⟨fun h => by omega, fun h => by omega⟩
theorem n_0le {a : Nat} (ha : a < 2147483648) : (0 ≤ nI a) = True := by
  rw [show (0 : Int32) = nI 0 from rfl, n_le (by omega) ha]; exact propext ⟨fun _ => trivial, fun _ => by omega⟩
theorem n_eq0 {a : Nat} (ha : a < 2147483648) : (nI a = 0) = (a = 0) := by
  rw [show (0 : Int32) = nI 0 from rfl, n_eq ha (by omega)]
theorem n_ob {a N : Nat} (ha : a < 2147483648) : (nI a < 0 ∨ N ≤ (nI a).toNatClampNeg) = (N ≤ a) := by
  rw [n_lt0 ha, zn_cl ha]; exact propext ⟨fun h => h.elim False.elim id, Or.inr⟩
theorem n_obb {a N M : Nat} (ha : a < 2147483648) : (nI a < 0 ∨ N ≤ M) = (N ≤ M) := by
  rw [n_lt0 ha]; exact propext ⟨fun h => h.elim False.elim id, Or.inr⟩
theorem n_s1 (a : Nat) : nI a + (1 : Int32) = nI (a + 1) := zn_add a 1
theorem n_p1 {a : Nat} (h : 1 ≤ a) : nI a - (1 : Int32) = nI (a - 1) := zn_sub h
theorem n_m1 {a : Nat} (h : 1 ≤ a) : nI a + (-1 : Int32) = nI (a - 1) := by
  rw [← Int32.sub_eq_add_neg]; exact n_p1 h
theorem n_cl {a : Nat} (h : a < 2147483648) : (nI a).toNatClampNeg = a := zn_cl h
theorem ifc {α : Type} {p q : Prop} {i : Decidable p} [j : Decidable q] {a b : α} (h : p = q) : @ite α p i a b = @ite α q j a b := by
  subst h; congr
theorem n_ne {a b : Nat} (ha : a < 2147483648) (hb : b < 2147483648) : (nI a ≠ nI b) = (a ≠ b) := by rw [ne_eq, n_eq ha hb]
theorem n_ne0 {a : Nat} (ha : a < 2147483648) : (nI a ≠ 0) = (a ≠ 0) := by rw [ne_eq, n_eq0 ha]
theorem n_0 : (0 : Int32) = nI 0 := rfl
theorem n_1 : (1 : Int32) = nI 1 := rfl
theorem n_2 : (2 : Int32) = nI 2 := rfl
theorem n_3 : (3 : Int32) = nI 3 := rfl
theorem n_7 : (7 : Int32) = nI 7 := rfl
theorem n_8 : (8 : Int32) = nI 8 := rfl
theorem n_9 : (9 : Int32) = nI 9 := rfl
theorem n_10 : (10 : Int32) = nI 10 := rfl
theorem n_of {x : Int32} (h : 0 ≤ x.toInt) : ∃ j : Nat, j < 2147483648 ∧ x = nI j := zi_of h
/-- an arbitrary number of a small range is a natural one -/
theorem n_rg {x : Int32} {a b : Int} (h : a ≤ x.toInt ∧ x.toInt ≤ b) (ha : 0 ≤ a) : ∃ j : Nat, x = nI j ∧ a ≤ (j : Int) ∧ (j : Int) ≤ b := by
  obtain ⟨j, hj, e⟩ := zi_of (x := x) (by omega)
  subst e
  rw [zi_nI hj] at h
  exact ⟨j, rfl, h.1, h.2⟩
/-! ===== sets of bits, by naturals ===== -/
theorem n_or (a b : Nat) : nI a ||| nI b = nI (a ||| b) := by
  apply Int32.toBitVec_inj.mp
  rw [Int32.toBitVec_or]
  show BitVec.ofNat 32 a ||| BitVec.ofNat 32 b = BitVec.ofNat 32 (a ||| b)
  exact BitVec.ofNat_or.symm
theorem n_and (a b : Nat) : nI a &&& nI b = nI (a &&& b) := by
  apply Int32.toBitVec_inj.mp
  rw [Int32.toBitVec_and]
  show BitVec.ofNat 32 a &&& BitVec.ofNat 32 b = BitVec.ofNat 32 (a &&& b)
  exact BitVec.ofNat_and.symm
theorem n_xor (a b : Nat) : nI a ^^^ nI b = nI (a ^^^ b) := by
  apply Int32.toBitVec_inj.mp
  rw [Int32.toBitVec_xor]
  show BitVec.ofNat 32 a ^^^ BitVec.ofNat 32 b = BitVec.ofNat 32 (a ^^^ b)
  exact BitVec.ofNat_xor.symm
set_option maxRecDepth 20000 in
theorem n_sh8 : ∀ p : Nat, p < 8 → ((1 : Int32) <<< (nI p &&& 31)) = nI (2 ^ p) := by decide +kernel
theorem n_sh {p : Nat} (h : p < 8) : ((1 : Int32) <<< (nI p &&& 31)) = nI (2 ^ p) := n_sh8 p h
set_option maxRecDepth 20000 in
theorem n_bt8 : ∀ m : Nat, m < 256 → ∀ p : Nat, p < 8 → (decide ((nI m >>> (nI p &&& 31)) &&& 1 = (1 : Int32)) = Nat.testBit m p) := by decide +kernel
theorem n_bt {m p : Nat} (hm : m < 256) (hp : p < 8) : ((nI m >>> (nI p &&& 31)) &&& 1 = (1 : Int32)) = (Nat.testBit m p = true) := by
  rw [← n_bt8 m hm p hp]; exact propext decide_eq_true_iff.symm
theorem n_p2 {p : Nat} (h : p < 8) : 2 ^ p < 256 := Nat.pow_lt_pow_right (by omega) h
theorem n_orlt {a b : Nat} (ha : a < 256) (hb : b < 256) : a ||| b < 256 := Nat.or_lt_two_pow (n := 8) ha hb
/-- what is in a and not in b -/
theorem n_andnot {a b : Nat} (ha : a < 256) (hb : b < 256) : nI a &&& (nI b ^^^ (-1 : Int32)) = nI (a &&& (255 - b)) := by
  apply Int32.toBitVec_inj.mp
  rw [Int32.toBitVec_and, Int32.toBitVec_xor]
  show BitVec.ofNat 32 a &&& (BitVec.ofNat 32 b ^^^ (-1 : Int32).toBitVec) = BitVec.ofNat 32 (a &&& (255 - b))
  rw [show (-1 : Int32).toBitVec = BitVec.allOnes 32 from by decide]
  apply BitVec.eq_of_getLsbD_eq
  intro i hi
  rw [BitVec.getLsbD_and, BitVec.getLsbD_xor, BitVec.getLsbD_ofNat, BitVec.getLsbD_ofNat, BitVec.getLsbD_ofNat, BitVec.getLsbD_allOnes, Nat.testBit_and]
  have h1 : (255 - b).testBit i = (decide (i < 8) && !b.testBit i) := by
    have := Nat.testBit_two_pow_sub_succ (n := 8) (x := b) (by omega) i
    rw [show 2 ^ 8 - (b + 1) = 255 - b by omega] at this
    exact this
  rw [h1]
  by_cases h8 : i < 8
  · simp [hi, h8]
  · have h2 : a.testBit i = false := Nat.testBit_lt_two_pow (Nat.lt_of_lt_of_le ha (Nat.pow_le_pow_right (n := 2) (by omega) (by omega : 8 ≤ i)))
    simp [h2]
theorem s_holds (sc : zSc) (S : zS) {m p : Nat} (hm : m < 256) (hp : p < 8) : zcI sc zm_X10_holds [.int (nI m), .int (nI p)] S = some (zb (Nat.testBit m p = true), S) := by
  rw [c_X10_holds]
  by_cases h : Nat.testBit m p = true
  · rw [zb_t h, if_neg (by rw [ne_eq, n_bt hm hp]; exact fun q => q h)]
  · rw [zb_f h, if_pos (by rw [ne_eq, n_bt hm hp]; exact h)]
/-! ===== what stays ===== -/
/-- all ints with a mark stay, and the longs -/
abbrev zfr (K : Nat → Nat → Bool) (S S' : zS) : Prop := (∀ c i, K c i = true → S'.1 c i = S.1 c i) ∧ S'.2 = S.2
theorem zfr_refl (K : Nat → Nat → Bool) (S : zS) : zfr K S S := ⟨fun _ _ _ => rfl, rfl⟩
theorem zfr_tr {K : Nat → Nat → Bool} {S S' S'' : zS} (h : zfr K S S') (g : zfr K S' S'') : zfr K S S'' :=
  ⟨fun c i k => (g.1 c i k).trans (h.1 c i k), g.2.trans h.2⟩
theorem zfr_mono {K J : Nat → Nat → Bool} {S S' : zS} (h : zfr K S S') (g : ∀ c i, J c i = true → K c i = true) : zfr J S S' :=
  ⟨fun c i k => h.1 c i (g c i k), h.2⟩
theorem zfr_w {K : Nat → Nat → Bool} {S S' : zS} (h : zfr K S S') (c i : Nat) (x : Int32) (k : K c i = false) : zfr K S (zw1 S' c i x) := by
  refine ⟨fun d j q => ?_, h.2⟩
  rw [zw1_r]
  by_cases e : d = c ∧ j = i
  · exfalso
    rw [e.1, e.2, k] at q
    exact absurd q (by decide)
  · rw [if_neg e]; exact h.1 d j q
theorem zfr_w0 {K : Nat → Nat → Bool} {S : zS} (c i : Nat) (x : Int32) (k : K c i = false) : zfr K S (zw1 S c i x) := zfr_w (zfr_refl K S) c i x k
/-- all but some cells, and some places of others, stay -/
def zk (l : List Nat) (o : List (Nat × Nat)) : Nat → Nat → Bool := fun c i => !(l.contains c) && !(o.any (fun q => q.1 == c && q.2 == i))
abbrev zx1 (a : Nat) : Nat → Nat → Bool := zk [a] []
theorem zk_sub (l : List Nat) (o : List (Nat × Nat)) (l' : List Nat) (o' : List (Nat × Nat)) (h : (l.all (fun a => l'.contains a) && o.all (fun q => l'.contains q.1 || o'.any (fun r => r.1 == q.1 && r.2 == q.2))) = true) (c i : Nat) (k : zk l' o' c i = true) : zk l o c i = true := by
  unfold zk at k ⊢
  rw [Bool.and_eq_true] at h k ⊢
  obtain ⟨h1, h2⟩ := h
  obtain ⟨k1, k2⟩ := k
  rw [List.all_eq_true] at h1 h2
  have k1' : ¬ c ∈ l' := by simpa using k1
  have k2' : ∀ q, q ∈ o' → ¬ (q.1 = c ∧ q.2 = i) := by simpa using k2
  constructor
  · have : ¬ c ∈ l := fun q => k1' (by simpa using h1 c q)
    simpa using this
  · have : ∀ q, q ∈ o → ¬ (q.1 = c ∧ q.2 = i) := by
      intro q hq e
      have := h2 q hq
      rw [Bool.or_eq_true] at this
      rcases this with g | g
      · exact k1' (by rw [← e.1]; simpa using g)
      · rw [List.any_eq_true] at g
        obtain ⟨r, hr, g⟩ := g
        have g' : r.1 = q.1 ∧ r.2 = q.2 := by simpa using g
        exact k2' r hr ⟨g'.1.trans e.1, g'.2.trans e.2⟩
    simpa using this
theorem zfr_up {l : List Nat} {o : List (Nat × Nat)} {S S' : zS} (l' : List Nat) (o' : List (Nat × Nat)) (h : zfr (zk l o) S S') (e : (l.all (fun a => l'.contains a) && o.all (fun q => l'.contains q.1 || o'.any (fun r => r.1 == q.1 && r.2 == q.2))) = true) : zfr (zk l' o') S S' :=
  zfr_mono h (fun c i k => zk_sub l o l' o' e c i k)
theorem zw1_n (S : zS) {c i d j : Nat} (x : Int32) (h : ¬ (d = c ∧ j = i)) : (zw1 S c i x).1 d j = S.1 d j := by rw [zw1_r, if_neg h]
theorem zw1_y (S : zS) (c i : Nat) (x : Int32) : (zw1 S c i x).1 c i = x := by rw [zw1_r, if_pos ⟨rfl, rfl⟩]
/-- a row filled -/
theorem fillG (F : zS → Int32 → Option zS) (c N : Nat) (hN : N < 2147483648) (v : Int32) (eq : ∀ S i, F S i = if nI N ≤ i then some S else if i < 0 ∨ N ≤ i.toNatClampNeg then none else F (zw1 S c i.toNatClampNeg v) (i + 1)) :
    ∀ (k i : Nat) (S : zS), i + k = N → ∃ S', F S (nI i) = some S' ∧ (∀ j, i ≤ j → j < N → S'.1 c j = v) ∧ (∀ j, j < i → S'.1 c j = S.1 c j) ∧ zfr (zx1 c) S S'
  | 0, i, S, h => by
    refine ⟨S, ?_, fun j h1 h2 => by omega, fun _ _ => rfl, zfr_refl _ _⟩
    rw [eq, if_pos (by rw [n_le (by omega) (by omega)]; omega)]
  | k + 1, i, S, h => by
    obtain ⟨S', e, f, g, fr⟩ := fillG F c N hN v eq k (i + 1) (zw1 S c i v) (by omega)
    refine ⟨S', ?_, ?_, ?_, zfr_tr (zfr_w0 c i v (by simp [zk])) fr⟩
    · rw [eq, if_neg (by rw [n_le (by omega) (by omega)]; omega), if_neg (by rw [n_ob (by omega)]; omega), n_cl (by omega), n_s1, e]
    · intro j h1 h2
      by_cases q : j = i
      · subst q
        rw [g j (by omega), zw1_y]
      · exact f j (by omega) h2
    · intro j h1
      rw [g j (by omega), zw1_n _ _ (by omega)]
theorem s_fill11 (sc : zSc) (S : zS) (v : Int32) : ∃ S', zcV sc zm_J7_fill_53178 [.ref 11, .int v] S = some S' ∧ (∀ j, j < 432 → S'.1 11 j = v) ∧ zfr (zx1 11) S S' := by
  obtain ⟨S', e, f, _, fr⟩ := fillG (fun S i => zO zgV sc (zg1, (zm_J7_fill_53178, 1), 5, S, [some (.ref 11), some (.int v), some (.int i), some (.int (nI 432))], [])) 11 432 (by omega) v (fun S i => e_J7_fill_53178_11_5 sc S v i (nI 432)) 432 0 S (by omega)
  exact ⟨S', (c_J7_fill_53178_11 sc S v).trans e, fun j h => f j (by omega) h, fr⟩
theorem s_fill16 (sc : zSc) (S : zS) (v : Int32) : ∃ S', zcV sc zm_J7_fill_53178 [.ref 16, .int v] S = some S' ∧ (∀ j, j < 8 → S'.1 16 j = v) ∧ zfr (zx1 16) S S' := by
  obtain ⟨S', e, f, _, fr⟩ := fillG (fun S i => zO zgV sc (zg1, (zm_J7_fill_53178, 1), 5, S, [some (.ref 16), some (.int v), some (.int i), some (.int (nI 8))], [])) 16 8 (by omega) v (fun S i => e_J7_fill_53178_16_5 sc S v i (nI 8)) 8 0 S (by omega)
  exact ⟨S', (c_J7_fill_53178_16 sc S v).trans e, fun j h => f j (by omega) h, fr⟩
theorem s_fill17 (sc : zSc) (S : zS) (v : Int32) : ∃ S', zcV sc zm_J7_fill_53178 [.ref 17, .int v] S = some S' ∧ (∀ j, j < 8 → S'.1 17 j = v) ∧ zfr (zx1 17) S S' := by
  obtain ⟨S', e, f, _, fr⟩ := fillG (fun S i => zO zgV sc (zg1, (zm_J7_fill_53178, 1), 5, S, [some (.ref 17), some (.int v), some (.int i), some (.int (nI 8))], [])) 17 8 (by omega) v (fun S i => e_J7_fill_53178_17_5 sc S v i (nI 8)) 8 0 S (by omega)
  exact ⟨S', (c_J7_fill_53178_17 sc S v).trans e, fun j h => f j (by omega) h, fr⟩
theorem s_fill21 (sc : zSc) (S : zS) (v : Int32) : ∃ S', zcV sc zm_J7_fill_53178 [.ref 21, .int v] S = some S' ∧ (∀ j, j < 8 → S'.1 21 j = v) ∧ zfr (zx1 21) S S' := by
  obtain ⟨S', e, f, _, fr⟩ := fillG (fun S i => zO zgV sc (zg1, (zm_J7_fill_53178, 1), 5, S, [some (.ref 21), some (.int v), some (.int i), some (.int (nI 8))], [])) 21 8 (by omega) v (fun S i => e_J7_fill_53178_21_5 sc S v i (nI 8)) 8 0 S (by omega)
  exact ⟨S', (c_J7_fill_53178_21 sc S v).trans e, fun j h => f j (by omega) h, fr⟩
theorem s_fill22 (sc : zSc) (S : zS) (v : Int32) : ∃ S', zcV sc zm_J7_fill_53178 [.ref 22, .int v] S = some S' ∧ (∀ j, j < 80 → S'.1 22 j = v) ∧ zfr (zx1 22) S S' := by
  obtain ⟨S', e, f, _, fr⟩ := fillG (fun S i => zO zgV sc (zg1, (zm_J7_fill_53178, 1), 5, S, [some (.ref 22), some (.int v), some (.int i), some (.int (nI 80))], [])) 22 80 (by omega) v (fun S i => e_J7_fill_53178_22_5 sc S v i (nI 80)) 80 0 S (by omega)
  exact ⟨S', (c_J7_fill_53178_22 sc S v).trans e, fun j h => f j (by omega) h, fr⟩
