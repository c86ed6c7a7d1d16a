/-! THE CLAIM OUT OF ONE WALK OF THE LAW'S BODY. Your part is whole_start (and what it stands on); all else here is the same for every law, but numbers. -/
def R_law : String := "HereMissLaw"
def lw_P (b : Addr) (xs : List Int32) (args : Array Value) (s : State) : Prop := args = #[.ref b] ∧ s.IntsAt b xs ∧ xs.length ≤ 3072 ∧ (Jvm.Cond.and given_1 narrow_1).before args s = true
def lw_Q (_ : Array Value) (s : State) (o : Outcome) (t : State) : Prop := o = .returned (some (.int 1)) ∧ Framed s o t [] 600000 7302250
def lw_Z (below : List Frame) (a : Array Value) (s : State) : State → Prop := fun t => ∃ o, t.status = .running ∧ Ended t below o ∧ lw_Q a s o t
/-- the law's own end, with 1 on the stack, nothing written that was there before, its room as the claim has it -/
theorem lw_ret {p : Program} {l : Launch} {e : Env} {s : State} {m : MethodId} {below : List Frame} {meth : Method} {c : Code} {b : Nat} (hx : p.tables.exec = Jvm.exec) (hb : c.code = code) (hr : meth.sig.returnType = ret) (hlocks : meth.locks = false) {pc : Nat} {H : Heap} {ls : Array Slot} (hdg : decode code pc = .ok (.ireturn, 1)) : W p l e room_1 s m #[Value.ref b] below meth c H [] 600000 7302250 (lw_Z below #[Value.ref b] s) (F0 m pc ls [.int 1]) := by
  intro T hT X
  obtain ⟨fs, hret, hrun, hended, hW, hframe⟩ := X.leave (v := some (.int 1)) (hlocks := hlocks) (fun h => by rw [hr] at h; cases h)
  have hmeth' : T.vm.method? m = some meth := X.method'
  refine ⟨T.setFrames fs, ?_, .returned (some (.int 1)), hrun, hended, rfl, ⟨_, rfl⟩, hW, hframe⟩
  jvm_step X.here [X.here.top, hx, hb, hdg, hmeth', hr, ret, narrow_b1]
  (try refine ⟨rfl, ?_⟩); (try refine ⟨rfl, ?_⟩)
  first | (intro acts; rw [hret _ acts rfl rfl rfl]) | rw [hret _ _ rfl rfl rfl]
  exact Steps.refl _
/-- what holds at the law's entry: the machine, the code, the tables' words (any of lw_tbl by 'hts w (by decide +kernel)'), the script of L ints xs at the cell b, what the Statement gives of the start (any of its parts by flat_of_before) -/
def lw_At (p : Program) (s : State) (m : MethodId) (meth : Method) (c : Code) (b L : Nat) (xs : Nat → Int32) : Prop :=
  p.tables.exec = Jvm.exec ∧ c.code = code ∧ meth.sig.returnType = ret ∧ c.maxLocals = 4 ∧ s.vm.findClass R_law = some m.cls ∧ (∀ w ∈ lw_tbl, w.before #[Value.ref b] s = true) ∧ va_X b L xs s s.heap ∧ b < s.heap.size ∧ meth.locks = false ∧ (Jvm.Cond.and given_1 narrow_1).before #[Value.ref b] s = true
-- ===== YOUR PART BEGINS =====
/-- the small machine's law, from its entry -/
abbrev zg0 : zG := (0, fun _ _ => false)
abbrev zS0 : zS := (fun _ _ => 0, fun _ _ => 0)
abbrev zx0 : zX := (zg0, (zm_L_law, 200), 0, zS0, [some (.ref 1010), none, none, none], [])
theorem zt_el0 : ∀ j, j < 10 → Cond.eq (Term.elem (Term.static "HereMiss$Pupils" "LEAST" "[I") (Term.int (Int32.ofNat j))) (Term.int (zsf 0 j)) ∈ flatC (Jvm.Cond.and given_1 narrow_1) := by decide +kernel
theorem zt_el1 : ∀ j, j < 10 → Cond.eq (Term.elem (Term.static "HereMiss$Pupils" "MOST" "[I") (Term.int (Int32.ofNat j))) (Term.int (zsf 1 j)) ∈ flatC (Jvm.Cond.and given_1 narrow_1) := by decide +kernel
theorem zt_el2 : ∀ j, j < 9 → Cond.eq (Term.elem (Term.static "HereMiss$Voices" "ABOVE" "[I") (Term.int (Int32.ofNat j))) (Term.int (zsf 2 j)) ∈ flatC (Jvm.Cond.and given_1 narrow_1) := by decide +kernel
theorem zt_el3 : ∀ j, j < 36 → Cond.eq (Term.elem (Term.static "HereMiss$Voices" "BODIES" "[I") (Term.int (Int32.ofNat j))) (Term.int (zsf 3 j)) ∈ flatC (Jvm.Cond.and given_1 narrow_1) := by decide +kernel
theorem zstat1 {args : Array Value} {s : State} {A : Nat → Prop} (k : Nat) (hts : ∀ w ∈ lw_tbl, w.before args s = true) (hgv : (Jvm.Cond.and given_1 narrow_1).before args s = true) (hA : ∀ a : Nat, a < s.heap.size → ¬ A a) (hN : zsN k < 2 ^ 31)
    (hl : Cond.laysStatic (zsC k) (zsn k) "[I" ∈ lw_tbl) (hi : Cond.initialized (zsC k) ∈ lw_tbl) (ha : Cond.arrayOf (Term.static (zsC k) (zsn k) "[I") .int ∈ flatC (Jvm.Cond.and given_1 narrow_1))
    (hlen : Cond.eq (Term.length (Term.static (zsC k) (zsn k) "[I")) (Term.int (Int32.ofNat (zsN k))) ∈ flatC (Jvm.Cond.and given_1 narrow_1)) (he : ∀ j, j < zsN k → Cond.eq (Term.elem (Term.static (zsC k) (zsn k) "[I") (Term.int (Int32.ofNat j))) (Term.int (zsf k j)) ∈ flatC (Jvm.Cond.and given_1 narrow_1)) :
    ∃ t : Nat, va_Z (zsC k) (zsn k) "[I" (.ref t) A s s.heap ∧ va_T .int t (zsN k) (fun j => .int (zsf k j)) A s s.heap := by
  have hs := flat_of_before _ hgv
  obtain ⟨t, h1, h2⟩ := va_Tof (f := fun j => .int (zsf k j)) hN (hs _ ha) (va_eqt (hs _ hlen)) (fun j hj => va_eqt (hs _ (he j hj))) hA
  exact ⟨t, va_Zof (hts _ hl) (hts _ hi) h1 hA, h2⟩
/-- YOUR PART: from the entry, for every script of at most 3072 ints, the law comes to its end with true -/
theorem whole_start {p : Program} {e : Env} {s : State} {m : MethodId} {below : List Frame} {meth : Method} {c : Code} (l : Launch) (hflags : l.flags = flags0) {b L : Nat} {xs : Nat → Int32} (hL : L ≤ 3072) (C0 : lw_At p s m meth c b L xs) : W p l e room_1 s m #[Value.ref b] below meth c s.heap [] 0 0 (lw_Z below #[Value.ref b] s) (entryFrame m ([Value.ref b] : List Value).toArray 4) := by
  obtain ⟨hx, hb, hr, hml, hown, hts, hX, hbl, hlocks, hgv⟩ := id C0
  have hA : ∀ q : Nat, s.heap.size ≤ q → (fun q : Nat => s.heap.size ≤ q) q := fun _ h => h
  have hA2 : ∀ a : Nat, a < s.heap.size → ¬ (fun q : Nat => s.heap.size ≤ q) a := fun _ h => Nat.not_le.mpr h
  -- the classes
  have hz : ∀ k, ∃ (cC : ClassId) (iS : Nat → Nat), k < 12 → u_Kn s (zcn k) (zT k) (zNf k) cC iS := by
    intro k
    by_cases hk : k < 12
    · obtain ⟨cC, iS, h⟩ := u_known (C := zcn k) (T := zT k) (N := zNf k) (n := zNf k) hts (fun w hw => (List.mem_filter.mp (zus_ok k hk w hw)).1) (hts _ (List.mem_filter.mp (zin_ok k hk).1).1)
      exact ⟨cC, iS, fun _ => h⟩
    · exact ⟨0, fun _ => 0, fun h => absurd h hk⟩
  obtain ⟨cI, kI, compI, i1, i2, i3⟩ := Cond.arrayClass_spec (hts _ (List.mem_filter.mp zac_int).1)
  obtain ⟨cJ, kJ, compJ, j1, j2, j3⟩ := Cond.arrayClass_spec (hts _ (List.mem_filter.mp zac_long).1)
  obtain ⟨cZ, kZ, compZ, z1, z2, z3⟩ := Cond.arrayClass_spec (hts _ (List.mem_filter.mp zac_boolean).1)
  have hover : (Cond.arrayOver (.object zR6)).before #[Value.ref b] s = true := hts _ zov_ok
  obtain ⟨compS, cS, kS, s1, s2, s3, s4, s5⟩ := Cond.arrayOver_spec hover
  obtain ⟨ty, t0, t1, t2, t3⟩ : ∃ ty : Nat → ClassId, ty 0 = cI ∧ ty 1 = cJ ∧ ty 2 = cZ ∧ ty 3 = cS := ⟨fun k => if k = 0 then cI else if k = 1 then cJ else if k = 2 then cZ else cS, rfl, rfl, rfl, rfl⟩
  have hK : va_K (fun k => Classical.choose (hz k), fun k => Classical.choose (Classical.choose_spec (hz k))) zcl (zty ty) s := by
    constructor
    · intro k q hq
      have hk : k < 12 := by
        rcases Nat.lt_or_ge k 12 with h | h
        · exact h
        · rw [List.getElem?_eq_none (by exact h)] at hq; cases hq
      rw [zt_cl k hk] at hq
      cases hq
      exact Classical.choose_spec (Classical.choose_spec (hz k)) hk
    · intro k q hq
      match k, hq with
      | 0, hq => cases hq; rw [t0]; exact ⟨fun n z => ⟨fun k h => (by cases h), kI, i2, compI, i3⟩, i1⟩
      | 1, hq => cases hq; rw [t1]; exact ⟨fun n z => ⟨fun k h => (by cases h), kJ, j2, compJ, j3⟩, j1⟩
      | 2, hq => cases hq; rw [t2]; exact ⟨fun n z => ⟨fun k h => (by cases h), kZ, z2, compZ, z3⟩, z1⟩
      | 3, hq => cases hq; rw [t3]; exact ⟨fun n z => ⟨fun k h => (by cases h), kS, s3, compS, s4⟩, kS, compS, s3, s4, s1, s5⟩
      | k + 4, hq => simp at hq
  -- the static arrays
  obtain ⟨q0, a0, b0⟩ := zstat1 0 hts hgv hA2 (by decide) zls0 zli0 (by decide +kernel) (by decide +kernel) zt_el0
  obtain ⟨q1, a1, b1⟩ := zstat1 1 hts hgv hA2 (by decide) zls1 zli1 (by decide +kernel) (by decide +kernel) zt_el1
  obtain ⟨q2, a2, b2⟩ := zstat1 2 hts hgv hA2 (by decide) zls2 zli2 (by decide +kernel) (by decide +kernel) zt_el2
  obtain ⟨q3, a3, b3⟩ := zstat1 3 hts hgv hA2 (by decide) zls3 zli3 (by decide +kernel) (by decide +kernel) zt_el3
  obtain ⟨ad, ha0, ha1, ha2, ha3, hab⟩ : ∃ ad : Nat → Nat, ad 1000 = q0 ∧ ad 1001 = q1 ∧ ad 1002 = q2 ∧ ad 1003 = q3 ∧ ad 1010 = b := ⟨fun k => if k = 1000 then q0 else if k = 1001 then q1 else if k = 1002 then q2 else if k = 1003 then q3 else b, rfl, rfl, rfl, rfl, rfl⟩
  have hst : zstat ad (fun q : Nat => s.heap.size ≤ q) s s.heap := by
    intro k hk
    rcases (show k = 0 ∨ k = 1 ∨ k = 2 ∨ k = 3 by omega) with rfl | rfl | rfl | rfl
    · rw [ha0]; exact ⟨a0, b0⟩
    · rw [ha1]; exact ⟨a1, b1⟩
    · rw [ha2]; exact ⟨a2, b2⟩
    · rw [ha3]; exact ⟨a3, b3⟩
  have hAux : zAux s := ⟨va_AO.of hover, fun q hq => va_Nw.of (A := #[Value.ref b]) rfl (hts _ (zNL_ok q hq))⟩
  -- the run
  obtain ⟨r, hr1, hr74, hgo⟩ := zlaw_go (l := l) (D := (fun k => Classical.choose (hz k), fun k => Classical.choose (Classical.choose_spec (hz k)))) (ty := ty) (xs, L) hL
  have C : zfix p s m #[Value.ref b] meth c (fun q : Nat => s.heap.size ≤ q) zm_L_law (fun k => Classical.choose (hz k), fun k => Classical.choose (Classical.choose_spec (hz k))) ty ad (xs, L) :=
    ⟨hx, hb, hml, hown, fun w hw => hts w (List.mem_filter.mp hw).1, fun h => (by cases h), hK, hst, hA, fun _ => by rw [hab]; exact ⟨hX, hbl, hA2 b hbl⟩, hAux⟩
  have P : zpic (fun k => Classical.choose (hz k), fun k => Classical.choose (Classical.choose_spec (hz k))) ty ad (fun q : Nat => s.heap.size ≤ q) zg0 zS0 s.heap :=
    ⟨fun k q h => by simp [zW] at h, ⟨fun i j p q h => by simp [zW] at h, fun k q h => by simp [zW] at h⟩, Nat.zero_le _, fun c j t h => by cases h⟩
  have hl := lv_entry ([.ref b]) (n := 4) (Nat.le_of_ble_eq_true rfl)
  rw [lg_entry_eq]
  have hlh : zlh ad 4 [some (.ref 1010), none, none, none] ((lg_sl [Value.ref b] ++ List.replicate (4 - (lg_sl [Value.ref b]).length) Slot.unset).toArray) := by
    refine ⟨hl.1, hl.2.1, rfl, fun i v hv => ?_⟩
    match i, hv with
    | 0, hv =>
      cases hv
      show _ = some (Slot.val (.ref (ad 1010)))
      rw [hab]
      exact hl.2.2 (0, .ref b) List.mem_cons_self
    | 1, hv => cases hv
    | 2, hv => cases hv
    | 3, hv => cases hv
    | i + 4, hv => simp at hv
  have hN : r.2.1.1 ≤ 74 := by omega
  have hsl := zSl_mono (c := 74) (d := r.2.1.1) hN (Nat.le_refl _)
  have hs74 : zSl 74 ≤ 7302250 := by decide +kernel
  have hz0 : zSl zg0.1 = 0 := rfl
  have hfr : room_1.frames = 2048 ∧ room_1.cells = 600000 ∧ room_1.slots = 7302250 ∧ room_1.locals = 84000 := ⟨rfl, rfl, rfl, rfl⟩
  refine hgo p e room_1 s m #[Value.ref b] below meth c (lw_Z below #[Value.ref b] s) (fun q : Nat => s.heap.size ≤ q) ad s.heap [] _ 0 0 C P va_S.rf hlh (fun j v hv => ?_) (by show 200 ≤ _; omega) (by show 200 * 60 ≤ _; omega) (by dsimp only; omega) (by dsimp only; omega) (fun ad' H' locs' ls' pc' c1 c2 c3 c4 => ?_)
  · match j, hv with
    | 0, hv => cases hv; exact Or.inl rfl
    | 1, hv => cases hv
    | 2, hv => cases hv
    | 3, hv => cases hv
    | j + 4, hv => simp at hv
  · rw [hr1] at c4 ⊢
    refine W.widen (k := 600000) (n := 7302250) (by dsimp only; omega) (by dsimp only; omega) (va_forget c3.2.2 ?_)
    exact lw_ret hx hb hr hlocks c4.1
