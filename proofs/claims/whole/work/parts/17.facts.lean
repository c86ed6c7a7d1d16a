set_option maxRecDepth 100000 in
theorem zblt_f {M k : Nat} (h : k ≤ M) : Nat.blt M k = false := by
  cases hb : Nat.blt M k with
  | false => rfl
  | true => rw [Nat.blt_eq] at hb; omega
set_option maxRecDepth 100000 in
theorem zbeq_f {M k : Nat} (h : k < M) : Nat.beq M k = false := by
  cases hb : Nat.beq M k with
  | false => rfl
  | true => rw [Nat.beq_eq] at hb; omega
set_option maxRecDepth 100000 in
theorem zcode_no {M : Nat} (h : 244 ≤ M) : zcode M = [] := by
  simp (disch := omega) only [zcode, zcode_0_122, zcode_0_15, zcode_0_30, zcode_0_61, zcode_106_16, zcode_122_122, zcode_122_15, zcode_122_30, zcode_122_61, zcode_137_15, zcode_152_15, zcode_152_31, zcode_15_15, zcode_167_16, zcode_183_15, zcode_183_30, zcode_183_61, zcode_198_15, zcode_213_15, zcode_213_31, zcode_228_16, zcode_30_15, zcode_30_31, zcode_45_16, zcode_61_15, zcode_61_30, zcode_61_61, zcode_76_15, zcode_91_15, zcode_91_31, zblt_f, zbeq_f, cond_false]
set_option maxRecDepth 100000 in
theorem zops_ok : zops := by
  intro M pc ins len a b v h
  rcases Nat.lt_or_ge M 244 with hM | hM
  · have hq := zql244 M hM
    have h1 : decode (zby M) pc = .ok (ins, len) := hq.1 (pc, ins, len, a, b, v) h
    have h2 : zckop M (pc, ins, len, a, b, v) = true := List.all_eq_true.mp hq.2 (pc, ins, len, a, b, v) h
    exact ⟨h1, zckop_ok h2⟩
  · rw [zcode_no hM] at h; cases h
set_option maxRecDepth 100000 in
theorem zF_all : zfacts := ⟨zops_ok, zmol243, zus_ok, zmx_max, zmx_min⟩
