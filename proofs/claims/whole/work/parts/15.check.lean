/-! ===== a check of the rows of the code, to be run by the kernel ===== -/
def zany3 (l : List (Nat × Nat × Nat)) (a b c : Nat) : Bool := l.any (fun q => Nat.beq q.1 a && Nat.beq q.2.1 b && Nat.beq q.2.2 c)
theorem zany3_ok {l : List (Nat × Nat × Nat)} {a b c : Nat} (h : zany3 l a b c = true) : (a, b, c) ∈ l := by
  obtain ⟨q, hq, h2⟩ := List.any_eq_true.mp h
  simp only [Bool.and_eq_true, Nat.beq_eq] at h2
  obtain ⟨⟨rfl, rfl⟩, rfl⟩ := h2
  exact hq
def zany4 (l : List (Nat × Nat × Nat × Nat)) (a b c d : Nat) : Bool := l.any (fun q => Nat.beq q.1 a && Nat.beq q.2.1 b && Nat.beq q.2.2.1 c && Nat.beq q.2.2.2 d)
theorem zany4_ok {l : List (Nat × Nat × Nat × Nat)} {a b c d : Nat} (h : zany4 l a b c d = true) : (a, b, c, d) ∈ l := by
  obtain ⟨q, hq, h2⟩ := List.any_eq_true.mp h
  simp only [Bool.and_eq_true, Nat.beq_eq] at h2
  obtain ⟨⟨⟨rfl, rfl⟩, rfl⟩, rfl⟩ := h2
  exact hq
def zany2 (l : List (Nat × Nat)) (a b : Nat) : Bool := l.any (fun q => Nat.beq q.1 a && Nat.beq q.2 b)
theorem zany2_ok {l : List (Nat × Nat)} {a b : Nat} (h : zany2 l a b = true) : (a, b) ∈ l := by
  obtain ⟨q, hq, h2⟩ := List.any_eq_true.mp h
  simp only [Bool.and_eq_true, Nat.beq_eq] at h2
  obtain ⟨rfl, rfl⟩ := h2
  exact hq
def zanyK (l : List (Nat × Nat × Int32)) (a b : Nat) (v : Int32) : Bool := l.any (fun q => Nat.beq q.1 a && Nat.beq q.2.1 b && decide (q.2.2 = v))
theorem zanyK_ok {l : List (Nat × Nat × Int32)} {a b : Nat} {v : Int32} (h : zanyK l a b v = true) : (a, b, v) ∈ l := by
  obtain ⟨q, hq, h2⟩ := List.any_eq_true.mp h
  simp only [Bool.and_eq_true, Nat.beq_eq, decide_eq_true_eq] at h2
  obtain ⟨⟨rfl, rfl⟩, rfl⟩ := h2
  exact hq
/-- a final field is put only by its own class's constructor -/
def zckf (M a b : Nat) : Bool := !(zT b a).2.2.2 || (zin M && Nat.beq b (zow M))
def zckop (M : Nat) (o : zP) : Bool :=
  match o with
  | (pc, ins, len, a, b, v) =>
  match ins with
  | .iload _ | .lload _ | .aload _ | .istore _ | .astore _ => Nat.beq len 2
  | .iload_n _ | .lload_n _ | .aload_n _ | .istore_n _ | .astore_n _ => Nat.beq len 1
  | .iinc _ n => Nat.beq len 3 && decide (Int32.ofInt n = v)
  | .goto f => Nat.beq len 3 && decide ((pc : Int) + f = (a : Int))
  | .ifCond _ f => Nat.beq len 3 && decide ((pc : Int) + f = (a : Int))
  | .if_icmp _ f => Nat.beq len 3 && decide ((pc : Int) + f = (a : Int))
  | .tableswitch d lo hi offs => decide (hi - lo + 1 = (offs.size : Int)) && decide (0 ≤ (pc : Int) + d) && offs.toList.all (fun f => decide (0 ≤ (pc : Int) + f)) && decide (-1000 ≤ lo) && decide (hi ≤ 1000)
  | .lookupswitch d ps => (ps.toList.zip (ps.toList.drop 1)).all (fun (a, next) => a.1 < next.1) && decide (0 ≤ (pc : Int) + d) && ps.toList.all (fun q => decide (0 ≤ (pc : Int) + q.2 ∧ -1000 ≤ q.1 ∧ q.1 ≤ 1000))
  | .getfield i => Nat.beq len 3 && zany4 zFLs (zow M) i b a && Nat.blt b 12
  | .putfield i => Nat.beq len 3 && zany4 zFLs (zow M) i b a && Nat.blt b 12 && Nat.blt a (zNf b) && zckf M a b
  | .getstatic i => Nat.beq len 3 && Nat.blt a 4 && zany3 zSLs (zow M) i a
  | .iaload | .baload | .laload | .aaload | .iastore | .bastore | .lastore | .aastore | .arraylength | .idiv | .irem | .ireturn | .lreturn | .return_ => Nat.beq len 1
  | .new i => Nat.beq len 3 && Nat.blt a 12 && zany3 zCLs (zow M) i a
  | .newarray t => Nat.beq len 2 && (match t with | .int => true | .long => true | .boolean => true | _ => false)
  | .anewarray i => Nat.beq len 3 && zany3 zCLs (zow M) i 6
  | .invokestatic i => Nat.beq len 3 && ((Nat.beq a 999 && zany2 zALs (zow M) i) || ((Nat.beq a 997 || Nat.beq a 996) && zany3 zXLs (zow M) i a) || (Nat.blt a 243 && zst a && (zany3 zMLs (zow M) i a || zany3 zNLs (zow M) i a)))
  | .invokevirtual i => Nat.beq len 3 && Nat.blt a 243 && !zst a && !zin a && zany3 zMLs (zow M) i a
  | .invokespecial i => Nat.beq len 3 && ((Nat.beq a 998 && zany2 zOLs (zow M) i) || (Nat.blt a 243 && !zst a && zin a && (zany3 zMLs (zow M) i a || zany3 zNLs (zow M) i a)))
  | .iconst n => Nat.beq len 1 && decide (Int32.ofInt n = v)
  | .bipush n => Nat.beq len 2 && decide ((Int8.ofInt n).toInt32 = v)
  | .sipush n => Nat.beq len 3 && decide ((Int16.ofInt n).toInt32 = v)
  | .ldc i => Nat.beq len 2 && zanyK zKLs (zow M) i v
  | .ldc_w i => Nat.beq len 3 && zanyK zKLs (zow M) i v
  | .ldc2_w i => Nat.beq len 3 && zany3 zJLs (zow M) i a
  | .lconst _ => Nat.beq len 1
  | .iadd | .isub | .imul | .iand | .ior | .ixor | .ineg | .ishl | .ishr | .iushr | .i2l | .l2i | .i2b | .i2s | .lshl | .land | .lor | .lcmp | .dup | .dup2 => Nat.beq len 1
  | _ => false
theorem zckf_ok {M a b : Nat} (hb : b < 12) (ha : a < zNf b) (h : zckf M a b = true) : (zT b a).2.2.2 = false ∨ ((zT b a).2.2.2 = true ∧ zin M = true ∧ (zT b a).1 = zcn (zow M)) := by
  have hdecl : ∀ b, b < 12 → ∀ a, a < zNf b → (zT b a).1 = zcn b := by decide +kernel
  unfold zckf at h
  cases hf : (zT b a).2.2.2 with
  | false => exact Or.inl rfl
  | true =>
    rw [hf] at h
    simp only [Bool.not_true, Bool.false_or, Bool.and_eq_true, Nat.beq_eq] at h
    exact Or.inr ⟨rfl, h.1, by rw [← h.2]; exact hdecl b hb a ha⟩
theorem zckop_ok {M pc : Nat} {ins : Instr} {len a b : Nat} {v : Int32} (h : zckop M (pc, ins, len, a, b, v) = true) : zopk M pc ins len a b v := by
  unfold zckop at h
  dsimp only at h
  split at h
  case h_15 =>
    simp only [Bool.and_eq_true, decide_eq_true_eq, List.all_eq_true] at h
    exact ⟨h.1.1.1.1, h.1.1.1.2, h.1.1.2, h.1.2, h.2⟩
  case h_16 =>
    rw [Bool.and_eq_true, Bool.and_eq_true, decide_eq_true_eq] at h
    refine ⟨h.1.1, h.1.2, fun q hq => ?_⟩
    have := List.all_eq_true.mp h.2 q hq
    rwa [decide_eq_true_eq] at this
  case h_17 =>
    simp only [Bool.and_eq_true, Nat.beq_eq, Nat.blt_eq] at h
    exact ⟨h.1.1, zFL_ok _ (zany4_ok h.1.2), h.2⟩
  case h_18 =>
    simp only [Bool.and_eq_true, Nat.beq_eq, Nat.blt_eq] at h
    exact ⟨h.1.1.1.1, zFL_ok _ (zany4_ok h.1.1.1.2), h.1.1.2, zckf_ok h.1.1.2 h.1.2 h.2⟩
  case h_19 =>
    simp only [Bool.and_eq_true, Nat.beq_eq, Nat.blt_eq] at h
    exact ⟨h.1.1, h.1.2, zSL_ok _ (zany3_ok h.2)⟩
  case h_34 =>
    simp only [Bool.and_eq_true, Nat.beq_eq, Nat.blt_eq] at h
    have := zin_ok _ h.1.2
    exact ⟨h.1.1, h.1.2, zCL_ok _ (zany3_ok h.2), this.1, this.2⟩
  case h_35 =>
    rename_i t
    simp only [Bool.and_eq_true, Nat.beq_eq] at h
    refine ⟨h.1, ?_⟩
    cases t with
    | int => exact zac_int
    | long => exact zac_long
    | boolean => exact zac_boolean
    | _ => cases h.2
  case h_36 =>
    simp only [Bool.and_eq_true, Nat.beq_eq] at h
    exact ⟨h.1, zCL_ok _ (zany3_ok h.2)⟩
  case h_37 =>
    simp only [Bool.and_eq_true, Bool.or_eq_true, Nat.beq_eq, Nat.blt_eq] at h
    obtain ⟨h1, (⟨h2, h3⟩ | ⟨h2, h3⟩) | ⟨⟨h2, h3⟩, h4⟩⟩ := h
    · exact ⟨h1, Or.inl ⟨h2, zAL_ok _ (zany2_ok h3), zcp_ok⟩⟩
    · exact ⟨h1, Or.inr (Or.inl ⟨h2, zXL_ok _ (zany3_ok h3)⟩)⟩
    · exact ⟨h1, Or.inr (Or.inr ⟨h2, h3, h4.imp (fun k => zML_ok _ (zany3_ok k)) (fun k => zany3_ok k)⟩)⟩
  case h_38 =>
    simp only [Bool.and_eq_true, Bool.not_eq_true', Nat.beq_eq, Nat.blt_eq] at h
    obtain ⟨⟨⟨⟨h1, h2⟩, h3⟩, h4⟩, h5⟩ := h
    exact ⟨h1, h2, h3, h4, zML_ok _ (zany3_ok h5)⟩
  case h_39 =>
    simp only [Bool.and_eq_true, Bool.or_eq_true, Bool.not_eq_true', Nat.beq_eq, Nat.blt_eq] at h
    obtain ⟨h1, ⟨h2, h3⟩ | ⟨⟨⟨h2, h3⟩, h4⟩, h5⟩⟩ := h
    · exact ⟨h1, Or.inl ⟨h2, zOL_ok _ (zany2_ok h3), zob_ok⟩⟩
    · exact ⟨h1, Or.inr ⟨h2, h3, h4, h5.imp (fun k => zML_ok _ (zany3_ok k)) (fun k => zany3_ok k)⟩⟩
  case h_43 =>
    simp only [Bool.and_eq_true, Nat.beq_eq] at h
    exact ⟨h.1, zKL_ok _ (zanyK_ok h.2)⟩
  case h_44 =>
    simp only [Bool.and_eq_true, Nat.beq_eq] at h
    exact ⟨h.1, zKL_ok _ (zanyK_ok h.2)⟩
  case h_45 =>
    simp only [Bool.and_eq_true, Nat.beq_eq] at h
    exact ⟨h.1, zJL_ok _ (zany3_ok h.2)⟩
  all_goals first
    | exact Nat.eq_of_beq_eq_true h
    | (rw [Bool.and_eq_true, decide_eq_true_eq, Nat.beq_eq] at h; exact h)
    | cases h
