/-! ===== the two constructors: the law up to its loop ===== -/
/-- no script -/
def zsc0 : zSc := (fun _ => 0, 0)
theorem zdec_sc (sc : zSc) {x : zX} (h : x.2.1.1 ≠ zm_L_law) : zdec sc x = zdec zsc0 x := by
  obtain ⟨g, ⟨M, L⟩, pc, S, lv, st⟩ := x
  have hb : Nat.beq M zm_L_law = false := by
    cases hq : Nat.beq M zm_L_law with
    | false => rfl
    | true => rw [Nat.beq_eq] at hq; exact absurd hq h
  unfold zdec
  dsimp only
  split
  · rfl
  rename_i pc0 ins len a b v _
  rw [zexf_eq, zexf_eq]
  cases ins
  case iaload =>
    unfold zexe
    dsimp only
    split
    · unfold zaload
      dsimp only
      rw [hb]
      rfl
    · rfl
  case arraylength =>
    unfold zexe
    dsimp only
    split
    · rw [hb, Bool.and_false]
      rfl
    · rfl
  all_goals first | rfl | (rename_i c _ _; cases c <;> rfl)
theorem zrun_sc (sc : zSc) (n : Nat) : ∀ {x : zX}, x.2.1.1 ≠ zm_L_law → zrun sc n x = zrun zsc0 n x := by
  induction n with
  | zero => intro x _; rfl
  | succ n ih =>
    intro x hx
    rw [zrun, zrun, zdec_sc sc hx]
    obtain ⟨g, ⟨M, L⟩, pc, S, lv, st⟩ := x
    cases hd : zdec zsc0 (g, (M, L), pc, S, lv, st) with
    | none => rfl
    | some q =>
      obtain ⟨ins, len, a, b, v, hmem, hsh⟩ := zdec_shape hd
      rcases q with y | r | ⟨y, f⟩
      · have hy : y.2.1 = (M, L) := hsh.1
        exact ih (by rw [hy]; exact hx)
      · rfl
      · obtain ⟨hs, hcall⟩ := hsh
        obtain ⟨hdc, ho⟩ := zF_all.1 M _ ins len a b v hmem
        have ha : a < 243 := by
          rcases hs with ⟨i, rfl, hne⟩ | ⟨i, rfl⟩ | ⟨i, rfl, hne⟩
          · exact ho.2.elim (fun q => absurd q.1 hne.1) (fun q => q.elim (fun q => q.1.elim (fun k => absurd k hne.2.1) (fun k => absurd k hne.2.2)) (fun q => q.1))
          · exact ho.2.1
          · exact ho.2.elim (fun q => absurd q.1 hne) (fun q => q.1)
        obtain ⟨-, -, -, -, -, -, -, rfl, rfl⟩ := zcall_ok hcall
        dsimp only
        rw [ih (x := (g, (a, zlv a (st.take (zna a)).reverse S), 0, S, zloc (zml a) (st.take (zna a)).reverse, [])) (by show a ≠ 243; omega)]
        congr 1
        funext rc
        cases hz : zres g (M, L) (pc + len) lv (st.drop (zna a)) (zrk a) rc with
        | none => rfl
        | some x2 =>
          rw [Option.bind_some, Option.bind_some]
          refine ih ?_
          have : x2.2.1 = (M, L) := by
            unfold zres at hz
            split at hz <;> split at hz <;> cases hz <;> rfl
          rw [this]; exact hx
/-! the state, all references set -/
theorem zfl_memq {t j : Nat} : ∀ l : List (Nat × Nat), zfl l j = some t → ∃ q ∈ l, q.1 = j
  | [], h => by cases h
  | q :: r, h => by
    rw [zfl] at h
    cases hb : Nat.beq q.1 j with
    | true => rw [Nat.beq_eq] at hb; exact ⟨q, List.mem_cons_self, hb⟩
    | false =>
      rw [hb] at h
      obtain ⟨q2, m, e⟩ := zfl_memq r h
      exact ⟨q2, List.mem_cons_of_mem _ m, e⟩
theorem zE_seal {ad : Nat → Nat} {ty : Nat → ClassId} {f : Nat → Nat → Bool} {S : zS} {c : Nat} (h : ∀ q ∈ zFr c, f c q.1 = true) : zE ad ty f S c = zE ad ty ztt S c := by
  have hf : ∀ j t, zF c j = some t → f c j = true := fun j t e => by
    obtain ⟨q, m, rfl⟩ := zfl_memq _ e
    exact h q m
  have e1 : zV ad f S c = zV ad ztt S c := by
    funext j
    unfold zV
    cases hz : zF c j with
    | none => rfl
    | some t => dsimp only; rw [hf j t hz]; rfl
  have e2 : zQf ad f c = zQf ad ztt c := by
    funext j
    unfold zQf
    cases hz : zF c j with
    | none => rfl
    | some t => dsimp only; rw [hf j t hz]; rfl
  unfold zE
  rw [e1, e2]
theorem zGo_seal {l : Launch} {D : va_G} {ty : Nat → ClassId} {sc : zSc} {f : Nat → Nat → Bool} {ML : Nat × Nat} {pc : Nat} {S : zS} {lv : List (Option Value)} {st : List Value} {r : zR} (h : ∀ c, c < 74 → ∀ q ∈ zFr c, f c q.1 = true) (hg : zGo l D ty sc (zg1, ML, pc, S, lv, st) r) : zGo l D ty sc ((74, f), ML, pc, S, lv, st) r := by
  intro p e R s m args below meth c Q A ad H locs ls cells slots C P hS hl hone hR1 hR2 hc hs hend
  have hW : zW ad ty (74, f) S = zW ad ty zg1 S := by
    unfold zW
    refine List.map_congr_left (fun c hc => ?_)
    rw [zE_seal (h c (List.mem_range.mp hc))]
  refine hg p e R s m args below meth c Q A ad H locs ls cells slots C ?_ hS hl hone hR1 hR2 hc hs hend
  obtain ⟨p1, p2, p3, p4⟩ := P
  dsimp only at p1 p2 p3 p4
  rw [hW] at p1 p2
  refine ⟨p1, p2, p3, fun c j t k1 k2 _ => ?_⟩
  obtain ⟨q, m, rfl⟩ := zfl_memq _ k2
  exact p4 c q.1 t k1 k2 (h c k1 q m)
/-! the runs of the constructors -/
abbrev zgA : zG := (1, fun d j => cond (Nat.beq d 0) false ((fun _ _ => false : Nat → Nat → Bool) d j))
abbrev zSA : zS := zw0 (fun _ _ => 0, fun _ _ => 0) 0
def zyA : zX := (zgA, (zm_X10_init, zlv zm_X10_init [.ref 0] zSA), 0, zSA, zloc (zml zm_X10_init) [.ref 0], [])
def zrA : zR := (zrun zsc0 3000 zyA).getD (none, (0, fun _ _ => false), (fun _ _ => 0, fun _ _ => 0))
def zfA : Nat → Nat → Bool := zrA.2.1.2
def zTA : zS := zrA.2.2
theorem zA_ok : ((zrun zsc0 3000 zyA).isSome && zrA.1.isNone && Nat.beq zrA.2.1.1 51) = true := by decide +kernel
theorem zA_eq : zrun zsc0 3000 zyA = some (none, (51, zfA), zTA) := by
  have h := zA_ok
  rw [Bool.and_eq_true, Bool.and_eq_true, Nat.beq_eq, Option.isNone_iff_eq_none] at h
  cases hr : zrun zsc0 3000 zyA with
  | none => rw [hr] at h; exact absurd h.1.1 (by decide)
  | some r =>
    have e : zrA = r := by unfold zrA; rw [hr]; rfl
    have e2 : r = (r.1, (r.2.1.1, r.2.1.2), r.2.2) := rfl
    rw [e] at h
    rw [e2, h.1.2, h.2]
    unfold zfA zTA
    rw [e]
abbrev zgB : zG := (52, fun d j => cond (Nat.beq d 51) false (zfA d j))
abbrev zSB : zS := zw0 zTA 51
def zyB : zX := (zgB, (zm_X11_init, zlv zm_X11_init [.ref 51] zSB), 0, zSB, zloc (zml zm_X11_init) [.ref 51], [])
def zrB : zR := (zrun zsc0 3000 zyB).getD (none, (0, fun _ _ => false), (fun _ _ => 0, fun _ _ => 0))
def zfB : Nat → Nat → Bool := zrB.2.1.2
def zTB : zS := zrB.2.2
/-- what the cells hold then, as far as it is asked for -/
def zini : List (Nat × Nat × Int32) := [(1, 1, 0), (1, 2, 0), (2, 64, 30), (2, 65, 4), (52, 64, 30), (52, 65, 4), (6, 2, 0), (6, 7, -1), (51, 6, 0), (51, 11, -1), (51, 18, -1), (3, 2, 0), (51, 9, 0), (24, 7, 0), (51, 29, 0), (30, 5, 0), (51, 5, 0), (30, 6, 0), (51, 4, 0), (35, 2, 0), (51, 34, 0), (35, 3, 0), (51, 37, 0)]
def zini2 (d : Nat) : List (Nat × Nat × Int32) := [(39 + 2 * d, 1, -1), (39 + 2 * d, 2, 0), (39 + 2 * d, 3, -1), (70, d, -1), (71, d, 0)]
def zchk (S : zS) (f : Nat → Nat → Bool) : Bool :=
  (zini.all fun q => decide (S.1 q.1 q.2.1 = q.2.2)) && ((List.range 6).all fun d => (zini2 d).all fun q => decide (S.1 q.1 q.2.1 = q.2.2)) &&
  ([(2, 64), (25, 8), (56, 8), (26, 5), (64, 5)].all fun q => (List.range q.2).all fun i => decide (S.1 q.1 i = 0)) &&
  ((List.range 6).all fun d => (List.range 60).all fun i => decide (S.2 72 (60 * d + i) = 0) && decide (S.2 (40 + 2 * d) i = 0)) &&
  ((List.range 74).all fun c => (zFr c).all fun q => f c q.1)
theorem zB_ok : ((zrun zsc0 3000 zyB).isSome && zrB.1.isNone && Nat.beq zrB.2.1.1 74 && zchk zrB.2.2 zrB.2.1.2) = true := by decide +kernel
theorem zB_eq : zrun zsc0 3000 zyB = some (none, (74, zfB), zTB) ∧ zchk zTB zfB = true := by
  have h := zB_ok
  rw [Bool.and_eq_true, Bool.and_eq_true, Bool.and_eq_true, Nat.beq_eq, Option.isNone_iff_eq_none] at h
  refine ⟨?_, h.2⟩
  cases hr : zrun zsc0 3000 zyB with
  | none => rw [hr] at h; exact absurd h.1.1.1 (by decide)
  | some r =>
    have e : zrB = r := by unfold zrB; rw [hr]; rfl
    have e2 : r = (r.1, (r.2.1.1, r.2.1.2), r.2.2) := rfl
    rw [e] at h
    rw [e2, h.1.1.2, h.1.2]
    unfold zfB zTB
    rw [e]
theorem zchk_seal {S : zS} {f : Nat → Nat → Bool} (h : zchk S f = true) : ∀ c, c < 74 → ∀ q ∈ zFr c, f c q.1 = true := by
  unfold zchk at h
  simp only [Bool.and_eq_true] at h
  intro c hc q hq
  exact List.all_eq_true.mp (List.all_eq_true.mp h.2 c (List.mem_range.mpr hc)) q hq
theorem zchk_int {S : zS} {f : Nat → Nat → Bool} (h : zchk S f = true) {c i : Nat} {v : Int32} (hm : (c, i, v) ∈ zini) : S.1 c i = v := by
  unfold zchk at h
  simp only [Bool.and_eq_true] at h
  exact of_decide_eq_true (List.all_eq_true.mp h.1.1.1.1 (c, i, v) hm)
theorem zchk_int2 {S : zS} {f : Nat → Nat → Bool} (h : zchk S f = true) {d c i : Nat} {v : Int32} (hd : d < 6) (hm : (c, i, v) ∈ zini2 d) : S.1 c i = v := by
  unfold zchk at h
  simp only [Bool.and_eq_true] at h
  exact of_decide_eq_true (List.all_eq_true.mp (List.all_eq_true.mp h.1.1.1.2 d (List.mem_range.mpr hd)) (c, i, v) hm)
theorem zchk_zero {S : zS} {f : Nat → Nat → Bool} (h : zchk S f = true) {c n i : Nat} (hm : (c, n) ∈ [(2, 64), (25, 8), (56, 8), (26, 5), (64, 5)]) (hi : i < n) : S.1 c i = 0 := by
  unfold zchk at h
  simp only [Bool.and_eq_true] at h
  exact of_decide_eq_true (List.all_eq_true.mp (List.all_eq_true.mp h.1.1.2 (c, n) hm) i (List.mem_range.mpr hi))
theorem zchk_long {S : zS} {f : Nat → Nat → Bool} (h : zchk S f = true) {d i : Nat} (hd : d < 6) (hi : i < 60) : S.2 72 (60 * d + i) = 0 ∧ S.2 (40 + 2 * d) i = 0 := by
  unfold zchk at h
  simp only [Bool.and_eq_true] at h
  have h2 := List.all_eq_true.mp (List.all_eq_true.mp h.1.2 d (List.mem_range.mpr hd)) i (List.mem_range.mpr hi)
  rw [Bool.and_eq_true] at h2
  exact ⟨of_decide_eq_true h2.1, of_decide_eq_true h2.2⟩
theorem l_call2 (sc : zSc) (f : Nat → Nat → Bool) (T : zS) : zdec sc ((52, fun d j => cond (Nat.beq d 51) false (f d j)), (zm_L_law, 200), 12, zw0 T 51, [some (.ref 1010), some (.ref 0), none, none], [.ref 51, .ref 51]) = some (.inr (.inr (((52, fun d j => cond (Nat.beq d 51) false (f d j)), (zm_X11_init, zlv zm_X11_init [.ref 51] (zw0 T 51)), 0, zw0 T 51, zloc (zml zm_X11_init) [.ref 51], []), zres (52, fun d j => cond (Nat.beq d 51) false (f d j)) (zm_L_law, 200) 15 [some (.ref 1010), some (.ref 0), none, none] [.ref 51] 0))) := rfl
theorem l_res2 (f f2 : Nat → Nat → Bool) (T : zS) : zres (52, fun d j => cond (Nat.beq d 51) false (f d j)) (zm_L_law, 200) 15 [some (.ref 1010), some (.ref 0), none, none] [.ref 51] 0 (none, (74, f2), T) = some ((74, f2), (zm_L_law, 200), 15, T, [some (.ref 1010), some (.ref 0), none, none], [.ref 51]) := rfl
theorem l_res1 (f2 : Nat → Nat → Bool) (T : zS) : zres zgA (zm_L_law, 200) 7 [some (.ref 1010), none, none, none] [.ref 0] 0 (none, (51, f2), T) = some ((51, f2), (zm_L_law, 200), 7, T, [some (.ref 1010), none, none, none], [.ref 0]) := rfl
/-- from the loop's head back to the law's entry -/
theorem zlaw_back {l : Launch} {D : va_G} {ty : Nat → ClassId} (sc : zSc) {r : zR} (hr : r.2.1.1 = 74) (h : zGo l D ty sc (zg1, (zm_L_law, 200), 18, zTB, [some (.ref 1010), some (.ref 0), some (.ref 51), some (.int (0 : Int32))], []) r) :
    zGo l D ty sc ((0, fun _ _ => false), (zm_L_law, 200), 0, (fun _ _ => 0, fun _ _ => 0), [some (.ref 1010), none, none, none], []) r := by
  have hA : zGo l D ty sc zyA (none, (51, zfA), zTA) := zsound zF_all 3000 ((zrun_sc sc 3000 (x := zyA) (by decide)).trans zA_eq) (by show (1 : Nat) ≤ 74; omega)
  have hB : zGo l D ty sc zyB (none, (74, zfB), zTB) := zsound zF_all 3000 ((zrun_sc sc 3000 (x := zyB) (by decide)).trans zB_eq.1) (by show (52 : Nat) ≤ 74; omega)
  have h18 : zGo l D ty sc ((74, zfB), (zm_L_law, 200), 18, zTB, [some (.ref 1010), some (.ref 0), some (.ref 51), some (.int (0 : Int32))], []) r := zGo_seal (zchk_seal zB_eq.2) h
  have h17 : zGo l D ty sc ((74, zfB), (zm_L_law, 200), 17, zTB, [some (.ref 1010), some (.ref 0), some (.ref 51), none], [.int (0 : Int32)]) r := zstep zF_all rfl h18 (by show (74 : Nat) ≤ _; omega) (by omega)
  have h16 : zGo l D ty sc ((74, zfB), (zm_L_law, 200), 16, zTB, [some (.ref 1010), some (.ref 0), some (.ref 51), none], []) r := zstep zF_all rfl h17 (by show (74 : Nat) ≤ _; omega) (by omega)
  have h15 : zGo l D ty sc ((74, zfB), (zm_L_law, 200), 15, zTB, [some (.ref 1010), some (.ref 0), none, none], [.ref 51]) r := zstep zF_all rfl h16 (by show (74 : Nat) ≤ _; omega) (by omega)
  have h12 : zGo l D ty sc (zgB, (zm_L_law, 200), 12, zSB, [some (.ref 1010), some (.ref 0), none, none], [.ref 51, .ref 51]) r := zcallr zF_all (y := zyB) (f := zres zgB (zm_L_law, 200) 15 [some (.ref 1010), some (.ref 0), none, none] [.ref 51] 0) (rc := (none, (74, zfB), zTB)) (x2 := ((74, zfB), (zm_L_law, 200), 15, zTB, [some (.ref 1010), some (.ref 0), none, none], [.ref 51])) (l_call2 sc zfA zTA) (l_res2 zfA zfB zTB) hB h15 (by show (52 : Nat) ≤ 74; omega) (by show (52 : Nat) ≤ 74; omega) (by show (74 : Nat) ≤ _; omega) (by omega) (fun q => absurd q (by decide))
  have h11 : zGo l D ty sc (zgB, (zm_L_law, 200), 11, zSB, [some (.ref 1010), some (.ref 0), none, none], [.ref 51]) r := zstep zF_all rfl h12 (by show (52 : Nat) ≤ _; omega) (by omega)
  have h8 : zGo l D ty sc ((51, zfA), (zm_L_law, 200), 8, zTA, [some (.ref 1010), some (.ref 0), none, none], []) r := zstep zF_all rfl h11 (by show (52 : Nat) ≤ _; omega) (by omega)
  have h7 : zGo l D ty sc ((51, zfA), (zm_L_law, 200), 7, zTA, [some (.ref 1010), none, none, none], [.ref 0]) r := zstep zF_all rfl h8 (by show (51 : Nat) ≤ _; omega) (by omega)
  have h4 : zGo l D ty sc (zgA, (zm_L_law, 200), 4, zSA, [some (.ref 1010), none, none, none], [.ref 0, .ref 0]) r := zcallr zF_all (y := zyA) (f := zres zgA (zm_L_law, 200) 7 [some (.ref 1010), none, none, none] [.ref 0] 0) (rc := (none, (51, zfA), zTA)) (x2 := ((51, zfA), (zm_L_law, 200), 7, zTA, [some (.ref 1010), none, none, none], [.ref 0])) rfl (l_res1 zfA zTA) hA h7 (by show (1 : Nat) ≤ 74; omega) (by show (1 : Nat) ≤ 51; omega) (by show (51 : Nat) ≤ _; omega) (by omega) (fun q => absurd q (by decide))
  have h3 : zGo l D ty sc (zgA, (zm_L_law, 200), 3, zSA, [some (.ref 1010), none, none, none], [.ref 0]) r := zstep zF_all rfl h4 (by show (1 : Nat) ≤ _; omega) (by omega)
  exact zstep zF_all rfl h3 (by show (1 : Nat) ≤ _; omega) (by omega)
