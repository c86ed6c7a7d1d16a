set_option maxRecDepth 100000 in
theorem zblt_f {M k : Nat} (h : k ≤ M) : Nat.blt M k = false := by
  cases hb : Nat.blt M k with
  | false => rfl
  | true => rw [Nat.blt_eq] at hb; omega
set_option maxRecDepth 100000 in
theorem zbeq_f {M k : Nat} (h : k < M) : Nat.beq M k = false := by
  cases hb : Nat.beq M k with
  | false => rfl
  | true => rw [Nat.beq_eq] at hb; omega
set_option maxRecDepth 100000 in
theorem zcode_no {M : Nat} (h : 244 ≤ M) : zcode M = [] := by
  unfold zcode
  simp (disch := omega) only [zblt_f, zbeq_f, cond_false]
set_option maxRecDepth 100000 in
theorem zops_ok : zops := by
  intro M pc ins len a b v h
  rcases Nat.lt_or_ge M 244 with hM | hM
  · have hq := zql244 M hM
    have h1 : decode (zby M) pc = .ok (ins, len) := hq.1 (pc, ins, len, a, b, v) h
    have h2 : zckop M (pc, ins, len, a, b, v) = true := List.all_eq_true.mp hq.2 (pc, ins, len, a, b, v) h
    exact ⟨h1, zckop_ok h2⟩
  · rw [zcode_no hM] at h; cases h
set_option maxRecDepth 100000 in
theorem zF_all : zfacts := ⟨zops_ok, zmol243, zus_ok, zmx_max, zmx_min⟩
