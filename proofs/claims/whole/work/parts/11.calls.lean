/-! ===== calls, ends, and the whole ===== -/
def zall (P : zX ⊕ (zR ⊕ (zX × (zR → Option zX))) → Prop) (a : zA) : Prop := ∀ q, a = some q → P q
theorem zall_none {P : zX ⊕ (zR ⊕ (zX × (zR → Option zX))) → Prop} : zall P none := fun _ h => by cases h
theorem zall_some {P : zX ⊕ (zR ⊕ (zX × (zR → Option zX))) → Prop} {q : zX ⊕ (zR ⊕ (zX × (zR → Option zX)))} (h : P q) : zall P (some q) := fun _ e => by cases e; exact h
theorem zall_cond {P : zX ⊕ (zR ⊕ (zX × (zR → Option zX))) → Prop} {b : Bool} {x y : zA} (h1 : b = true → zall P x) (h2 : b = false → zall P y) : zall P (cond b x y) := by
  cases b with
  | true => exact h1 rfl
  | false => exact h2 rfl
theorem zall_ite {P : zX ⊕ (zR ⊕ (zX × (zR → Option zX))) → Prop} {c : Prop} {i : Decidable c} {x y : zA} (h1 : c → zall P x) (h2 : ¬ c → zall P y) : zall P (@ite _ c i x y) := by
  by_cases h : c
  · rw [if_pos h]; exact h1 h
  · rw [if_neg h]; exact h2 h
theorem zsd_eq {g : zG} (h : zsd g = true) : g.1 = zNC := by
  unfold zsd at h
  rw [Bool.and_eq_true, Nat.beq_eq] at h
  exact h.1
theorem zsd_not {g : zG} (h : (!(zsd g)) = true) : zsd g = false := by
  cases hb : zsd g with
  | false => rfl
  | true => rw [hb] at h; cases h
/-- what an instruction's outcome looks like -/
def zshape (g : zG) (M L : Nat) (pc : Nat) (S : zS) (lv : List (Option Value)) (st : List Value) (ins : Instr) (len a : Nat) : zX ⊕ (zR ⊕ (zX × (zR → Option zX))) → Prop
  | .inl y => y.2.1 = (M, L) ∧ g.1 ≤ y.1.1 ∧ (zsd g = true → y.1 = g) ∧ y.1.1 ≤ zNC + (g.1 - zNC)
  | .inr (.inl r) => r.2.1 = g ∧ r.2.2 = S ∧ ((ins = .ireturn ∧ ∃ x, st = [.int x] ∧ r.1 = some (.int x) ∧ (zrk M = 1 ∨ (zrk M = 4 ∧ (x = 0 ∨ x = 1)))) ∨ (ins = .lreturn ∧ ∃ x, st = [.long x] ∧ r.1 = some (.long x) ∧ zrk M = 2) ∨ (ins = .return_ ∧ st = [] ∧ r.1 = none ∧ zrk M = 0))
  | .inr (.inr (y, f)) => ((∃ i, ins = .invokestatic i ∧ a ≠ 999 ∧ a ≠ 997 ∧ a ≠ 996) ∨ (∃ i, ins = .invokevirtual i) ∨ (∃ i, ins = .invokespecial i ∧ a ≠ 998)) ∧ zcall g (M, L) (pc + len) S lv a (st.take (zna a)).reverse (st.drop (zna a)) = some (.inr (.inr (y, f)))
theorem zsh_nx {g : zG} {M L pc : Nat} {S : zS} {lv : List (Option Value)} {st : List Value} {ins : Instr} {len a : Nat} {pc' : Nat} {S' : zS} {lv' : List (Option Value)} {st' : List Value} : zall (zshape g M L pc S lv st ins len a) (znx g (M, L) pc' S' lv' st') :=
  zall_some ⟨rfl, Nat.le_refl _, fun _ => rfl, by show g.1 ≤ _; omega⟩
theorem zsh_call {g : zG} {M L pc : Nat} {S : zS} {lv : List (Option Value)} {st : List Value} {ins : Instr} {len a : Nat} (h : (∃ i, ins = .invokestatic i ∧ a ≠ 999 ∧ a ≠ 997 ∧ a ≠ 996) ∨ (∃ i, ins = .invokevirtual i) ∨ (∃ i, ins = .invokespecial i ∧ a ≠ 998)) : zall (zshape g M L pc S lv st ins len a) (zcall g (M, L) (pc + len) S lv a (st.take (zna a)).reverse (st.drop (zna a))) := by
  intro q hq
  have hq2 := hq
  unfold zcall at hq2
  obtain ⟨-, h2⟩ := zcond hq2
  cases h2
  exact ⟨h, hq⟩
theorem zbeq_ne {a b : Nat} (h : Nat.beq a b = false) : a ≠ b := by
  intro q
  subst q
  have : Nat.beq a a = true := by rw [Nat.beq_eq]
  rw [this] at h; cases h
theorem zsh_flag {g : zG} {M L pc : Nat} {S : zS} {lv : List (Option Value)} {st : List Value} {ins : Instr} {len a : Nat} {pc' : Nat} {S' : zS} {lv' : List (Option Value)} {st' : List Value} {fl : Nat → Nat → Bool} (h : zsd g = false) : zall (zshape g M L pc S lv st ins len a) (znx (g.1, fl) (M, L) pc' S' lv' st') :=
  zall_some ⟨rfl, Nat.le_refl _, fun q => absurd q (by rw [h]; decide), by show g.1 ≤ _; omega⟩
theorem zsh_new {g : zG} {M L pc : Nat} {S : zS} {lv : List (Option Value)} {st : List Value} {ins : Instr} {len a : Nat} {pc' : Nat} {S' : zS} {lv' : List (Option Value)} {st' : List Value} {fl : Nat → Nat → Bool} (h : g.1 < zNC) : zall (zshape g M L pc S lv st ins len a) (znx (g.1 + 1, fl) (M, L) pc' S' lv' st') :=
  zall_some ⟨rfl, Nat.le_succ _, fun q => absurd (zsd_eq q) (Nat.ne_of_lt h), by show g.1 + 1 ≤ _; omega⟩
theorem zexe_shape (sc : zSc) (g : zG) (M L pc : Nat) (S : zS) (lv : List (Option Value)) (st : List Value) (ins : Instr) (len a b : Nat) (v : Int32) : zall (zshape g M L pc S lv st ins len a) (zexe sc g (M, L) pc S lv st ins len a b v) := by
  unfold zexe
  split
  case h_30 =>
    unfold zput
    split
    · exact zall_cond (fun _ => zsh_nx) (fun _ => zall_none)
    · refine zall_cond (fun h => ?_) (fun _ => zall_none)
      rw [Bool.and_eq_true] at h
      exact zsh_flag (zsd_not h.2)
    · exact zall_none
  case h_32 =>
    unfold zaload
    repeat' (first | exact zall_none | exact zsh_nx | split | refine zall_cond (fun _ => ?_) (fun _ => ?_) | refine zall_ite (fun _ => ?_) (fun _ => ?_))
  case h_39 =>
    split
    · refine zall_cond (fun h => ?_) (fun _ => zall_none)
      simp only [Bool.and_eq_true] at h
      exact zall_ite (fun _ => zall_none) (fun _ => zsh_flag (zsd_not h.1.2))
    · exact zall_none
  case h_41 =>
    refine zall_cond (fun h => ?_) (fun _ => zall_none)
    simp only [Bool.and_eq_true, Nat.blt_eq] at h
    exact zsh_new h.1.1.1.1
  case h_42 =>
    split
    · refine zall_cond (fun h => ?_) (fun _ => zall_none)
      simp only [Bool.and_eq_true, Nat.blt_eq] at h
      exact zsh_new h.1.1.1.1.1
    · exact zall_none
  case h_43 =>
    split
    · refine zall_cond (fun h => ?_) (fun _ => zall_none)
      simp only [Bool.and_eq_true, Nat.blt_eq] at h
      exact zsh_new h.1.1.1.1.1
    · exact zall_none
  case h_44 =>
    refine zall_cond (fun _ => ?_) (fun h => zall_cond (fun _ => ?_) (fun h2 => zall_cond (fun _ => ?_) (fun h3 => zsh_call (Or.inl ⟨_, rfl, zbeq_ne h, zbeq_ne h2, zbeq_ne h3⟩))))
    all_goals repeat' (first | exact zall_none | exact zsh_nx | split | refine zall_cond (fun _ => ?_) (fun _ => ?_) | refine zall_ite (fun _ => ?_) (fun _ => ?_))
  case h_45 => exact zsh_call (Or.inr (Or.inl ⟨_, rfl⟩))
  case h_46 =>
    refine zall_cond (fun _ => ?_) (fun h => zsh_call (Or.inr (Or.inr ⟨_, rfl, zbeq_ne h⟩)))
    repeat' (first | exact zall_none | exact zsh_nx | split | refine zall_cond (fun _ => ?_) (fun _ => ?_) | refine zall_ite (fun _ => ?_) (fun _ => ?_))
  case h_47 =>
    split
    · refine zall_cond (fun h => ?_) (fun _ => zall_cond (fun h => zall_ite (fun h2 => ?_) (fun _ => zall_none)) (fun _ => zall_none))
      · rw [Nat.beq_eq] at h
        exact zall_some ⟨rfl, rfl, Or.inl ⟨rfl, _, rfl, rfl, Or.inl h⟩⟩
      · rw [Nat.beq_eq] at h
        exact zall_some ⟨rfl, rfl, Or.inl ⟨rfl, _, rfl, rfl, Or.inr ⟨h, h2⟩⟩⟩
    · exact zall_none
  case h_48 =>
    split
    · refine zall_cond (fun h => ?_) (fun _ => zall_none)
      rw [Nat.beq_eq] at h
      exact zall_some ⟨rfl, rfl, Or.inr (Or.inl ⟨rfl, _, rfl, rfl, h⟩)⟩
    · exact zall_none
  case h_49 =>
    split
    · refine zall_cond (fun h => ?_) (fun _ => zall_none)
      rw [Nat.beq_eq] at h
      exact zall_some ⟨rfl, rfl, Or.inr (Or.inr ⟨rfl, rfl, rfl, h⟩)⟩
    · exact zall_none
  all_goals repeat' (first | exact zall_none | exact zsh_nx | split | refine zall_cond (fun _ => ?_) (fun _ => ?_) | refine zall_ite (fun _ => ?_) (fun _ => ?_))
theorem zcall_ok {g : zG} {M L pc : Nat} {S : zS} {lv : List (Option Value)} {a : Nat} {as rs : List Value} {y : zX} {f : zR → Option zX} (h : zcall g (M, L) pc S lv a as rs = some (.inr (.inr (y, f)))) :
    as.length = zna a ∧ (zst a = true ∨ zrcv g (zow a) as = true) ∧ (zsum as ≤ zpn a ∨ as.all (fun v => znl (some v)) = true) ∧ zsum as ≤ zml a ∧ zsum rs ≤ 8 ∧ (g.1 = zNC ∨ (lv.all (zrefoko g.1) = true ∧ rs.all (zrefok g.1) = true)) ∧ zlv a as S < L ∧
      y = (g, (a, zlv a as S), 0, S, zloc (zml a) as, []) ∧ f = zres g (M, L) pc lv rs (zrk a) := by
  unfold zcall at h
  obtain ⟨h1, h2⟩ := zcond h
  cases h2
  simp only [Bool.and_eq_true, Bool.or_eq_true, Nat.blt_eq, Nat.ble_eq, Nat.beq_eq] at h1
  obtain ⟨⟨⟨⟨⟨⟨⟨k1, k2⟩, k3⟩, k4⟩, k5⟩, k6⟩, k7⟩, k8⟩ := h1
  exact ⟨k1, k2, k3, k4, k5, k6, k8, rfl, rfl⟩
theorem zdec_shape {sc : zSc} {g : zG} {M L pc : Nat} {S : zS} {lv : List (Option Value)} {st : List Value} {q : zX ⊕ (zR ⊕ (zX × (zR → Option zX)))} (h : zdec sc (g, (M, L), pc, S, lv, st) = some q) :
    ∃ ins len a b v, (pc, ins, len, a, b, v) ∈ zcode M ∧ zshape g M L pc S lv st ins len a q := by
  unfold zdec at h
  dsimp only at h
  split at h
  · cases h
  rename_i pc0 ins len a b v hf
  obtain ⟨hmem, hpc⟩ := zfetch_mem hf
  dsimp only at hpc
  subst hpc
  rw [zexf_eq] at h
  exact ⟨ins, len, a, b, v, hmem, zexe_shape sc g M L pc0 S lv st ins len a b v q h⟩
/-- cells are only made, and none once all are there -/
theorem zrun_mono {sc : zSc} (n : Nat) : ∀ {x : zX} {r : zR}, zrun sc n x = some r → x.1.1 ≤ zNC → x.1.1 ≤ r.2.1.1 ∧ r.2.1.1 ≤ zNC ∧ (zsd x.1 = true → r.2.1 = x.1) := by
  induction n with
  | zero => intro x r h; cases h
  | succ n ih =>
    intro x r h hx
    obtain ⟨g, ⟨M, L⟩, pc, S, lv, st⟩ := x
    dsimp only at hx ⊢
    rw [zrun] at h
    split at h
    · cases h
    · rename_i y hd
      obtain ⟨ins, len, a, b, v, -, h1, h2, h3, h4⟩ := zdec_shape hd
      obtain ⟨k1, k2, k3⟩ := ih h (by omega)
      refine ⟨by omega, k2, fun hn => ?_⟩
      rw [k3 (by rw [h3 hn]; exact hn), h3 hn]
    · rename_i q hd
      cases h
      obtain ⟨ins, len, a, b, v, -, h1, -, -⟩ := zdec_shape hd
      rw [h1]
      exact ⟨Nat.le_refl _, hx, fun _ => rfl⟩
    · rename_i y f hd
      obtain ⟨ins, len, a, b, v, -, -, h1⟩ := zdec_shape hd
      obtain ⟨-, -, -, -, -, -, -, rfl, rfl⟩ := zcall_ok h1
      obtain ⟨rc, hq, h⟩ := Option.bind_eq_some_iff.mp h
      obtain ⟨x2, hx2, h⟩ := Option.bind_eq_some_iff.mp h
      obtain ⟨k1, k2, k3⟩ := ih hq hx
      dsimp only at k1 k3
      have hg : x2.1 = cond (zsd g) g rc.2.1 := by
        unfold zres at hx2
        split at hx2 <;> split at hx2 <;> cases hx2 <;> rfl
      have hg2 : x2.1 = rc.2.1 := by
        rw [hg]
        cases hb : zsd g with
        | true => exact (k3 hb).symm
        | false => rfl
      obtain ⟨j1, j2, j3⟩ := ih h (by rw [hg2]; exact k2)
      rw [hg2] at j1 j3
      refine ⟨by omega, j2, fun hn => ?_⟩
      rw [j3 (by rw [k3 hn]; exact hn), k3 hn]
