/-! ===== a method's contract out of its runs ===== -/
theorem zpad_len (n : Nat) : ∀ l, l.length ≤ n → (zpad n l).length = n := by
  induction n with
  | zero => intro l h; rw [List.eq_nil_of_length_eq_zero (Nat.le_zero.mp h)]; rfl
  | succ n ih =>
    intro l h
    cases l with
    | nil => rw [zpad, List.length_cons, ih [] (by simp)]
    | cons o r => rw [zpad, List.length_cons, ih r (by simpa using h)]
theorem zpad_get (n : Nat) : ∀ (l : List (Option Value)) (i : Nat) (v : Value), l.length ≤ n → (zpad n l)[i]? = some (some v) → l[i]? = some (some v) := by
  induction n with
  | zero =>
    intro l i v hl h
    have : l = [] := List.eq_nil_of_length_eq_zero (by omega)
    subst this
    exact h
  | succ n ih =>
    intro l i v hl h
    cases l with
    | nil =>
      rw [zpad] at h
      cases i with
      | zero => simp at h
      | succ i => have h2 := ih [] i v (by simp) (by simpa using h); simp at h2
    | cons o r =>
      rw [zpad] at h
      cases i with
      | zero => simpa using h
      | succ i => simpa using ih r i v (by simpa using hl) (by simpa using h)
theorem zargs_len : ∀ as : List Value, (zargs as).length = zsum as
  | [] => rfl
  | v :: r => by cases v <;> simp [zargs, zsum, zwd, zargs_len r] <;> omega
theorem zargs_get (ad : Nat → Nat) : ∀ (as : List Value) (k i : Nat) (v : Value), (zargs as)[i]? = some (some v) → (k + i, zc ad v) ∈ lv_args k (as.map (zc ad)) := by
  intro as
  induction as with
  | nil => intro k i v h; simp [zargs] at h
  | cons w r ih =>
    have two : ∀ (k i : Nat) (v : Value), w.category = 2 → (some w :: none :: zargs r)[i]? = some (some v) → (k + i, zc ad v) ∈ lv_args k ((w :: r).map (zc ad)) := by
      intro k i v hw h
      rw [List.map_cons, lv_args, zc_cat, if_pos hw]
      cases i with
      | zero =>
        simp at h
        subst h
        exact List.mem_cons_self
      | succ i =>
        cases i with
        | zero => simp at h
        | succ i =>
          refine List.mem_cons_of_mem _ ?_
          have := ih (k + 2) i v (by simpa using h)
          rwa [show k + 2 + i = k + (i + 1 + 1) by omega] at this
    have one : ∀ (k i : Nat) (v : Value), w.category = 1 → (some w :: zargs r)[i]? = some (some v) → (k + i, zc ad v) ∈ lv_args k ((w :: r).map (zc ad)) := by
      intro k i v hw h
      rw [List.map_cons, lv_args, zc_cat, if_neg (by omega)]
      cases i with
      | zero =>
        simp at h
        subst h
        exact List.mem_cons_self
      | succ i =>
        refine List.mem_cons_of_mem _ ?_
        have := ih (k + 1) i v (by simpa using h)
        rwa [show k + 1 + i = k + (i + 1) by omega] at this
    intro k i v h
    cases w with
    | long x => exact two k i v rfl h
    | double x => exact two k i v rfl h
    | _ => exact one k i v rfl h
theorem lg_sl_sum (ad : Nat → Nat) (as : List Value) : (lg_sl (as.map (zc ad))).length = zsum as := by
  induction as with
  | nil => rfl
  | cons v r ih =>
    unfold lg_sl at ih ⊢
    rw [List.map_cons, List.flatMap_cons, List.length_append, ih, zsum, zc_cat]
    cases v <;> rfl
theorem zloc_has {ad : Nat → Nat} {n : Nat} {as : List Value} {ls : Array Slot} (hs : zsum as ≤ n) (h : lv_has ls n (lv_args 0 (as.map (zc ad)))) : zlh ad n (zloc n as) ls := by
  refine ⟨h.1, h.2.1, zpad_len n _ (by rw [zargs_len]; exact hs), fun i v hv => ?_⟩
  have h1 := zpad_get n _ i v (by rw [zargs_len]; exact hs) hv
  have h2 := zargs_get ad as 0 i v h1
  rw [Nat.zero_add] at h2
  exact h.2.2 _ h2
theorem zargs_two : ∀ (as : List Value) (j : Nat) (v : Value), (zargs as)[j]? = some (some v) → v.category = 1 ∨ j + 1 < zsum as := by
  intro as
  induction as with
  | nil => intro j v h; simp [zargs] at h
  | cons w r ih =>
    have two : ∀ (j : Nat) (v : Value), (some w :: none :: zargs r)[j]? = some (some v) → v.category = 1 ∨ j + 1 < 2 + zsum r := by
      intro j v h
      match j, h with
      | 0, _ => exact Or.inr (by omega)
      | 1, h => simp at h
      | j + 2, h =>
        rcases ih j v (by simpa using h) with q | q
        · exact Or.inl q
        · exact Or.inr (by omega)
    have one : ∀ (j : Nat) (v : Value), w.category = 1 → (some w :: zargs r)[j]? = some (some v) → v.category = 1 ∨ j + 1 < 1 + zsum r := by
      intro j v hw h
      match j, h with
      | 0, h => simp at h; subst h; exact Or.inl hw
      | j + 1, h =>
        rcases ih j v (by simpa using h) with q | q
        · exact Or.inl q
        · exact Or.inr (by omega)
    intro j v h
    cases w with
    | long x => exact two j v h
    | double x => exact two j v h
    | _ => exact one j v rfl h
theorem zargs_in : ∀ (as : List Value) (o : Option Value), o ∈ zargs as → o = none ∨ ∃ v, o = some v ∧ v ∈ as := by
  intro as
  induction as with
  | nil => intro o h; cases h
  | cons w r ih =>
    intro o h
    have rest : o ∈ zargs r → o = none ∨ ∃ v, o = some v ∧ v ∈ w :: r := fun h => (ih o h).imp id (fun ⟨v, a, b⟩ => ⟨v, a, List.mem_cons_of_mem _ b⟩)
    cases w with
    | long x =>
      rcases List.mem_cons.mp h with rfl | h
      · exact Or.inr ⟨_, rfl, List.mem_cons_self⟩
      · rcases List.mem_cons.mp h with rfl | h
        · exact Or.inl rfl
        · exact rest h
    | double x =>
      rcases List.mem_cons.mp h with rfl | h
      · exact Or.inr ⟨_, rfl, List.mem_cons_self⟩
      · rcases List.mem_cons.mp h with rfl | h
        · exact Or.inl rfl
        · exact rest h
    | _ =>
      rcases List.mem_cons.mp h with rfl | h
      · exact Or.inr ⟨_, rfl, List.mem_cons_self⟩
      · exact rest h
theorem zloc_zone {n k : Nat} {as : List Value} (hs : zsum as ≤ n) (hk : zsum as ≤ k ∨ as.all (fun v => znl (some v)) = true) : zone k (zloc n as) := by
  intro j v hv
  have h1 := zpad_get n _ j v (by rw [zargs_len]; exact hs) hv
  rcases hk with hk | hk
  · exact (zargs_two as j v h1).imp id (fun q => by omega)
  · rcases zargs_in as _ (List.mem_of_getElem? h1) with h | ⟨w, h, hw⟩
    · cases h
    · cases h
      have := List.all_eq_true.mp hk v hw
      cases v <;> first | exact Or.inl rfl | cases this
def zPc (D : va_G) (ty : Nat → ClassId) (ad : Nat → Nat) (g : zG) (S : zS) (sz : Nat) (as : List Value) : Array Value → State → Prop :=
  va_Pc (as.map (zc ad)) (fun U => U.heap.size = sz ∧ zpic D ty ad (va_A (zW ad ty g S) sz) g S U.heap ∧ va_K D zcl (zty ty) U ∧ zstat ad (va_A (zW ad ty g S) sz) U U.heap ∧ zAux U)
def zBk (D : va_G) (ty : Nat → ClassId) (ad : Nat → Nat) (g : zG) (A : Nat → Prop) (r : zR) : (Nat → Nat) → State → Prop := fun ad' t => zagr g.1 ad ad' ∧ zpic D ty ad' A r.2.1 r.2.2 t.heap
def zQc (D : va_G) (ty : Nat → ClassId) (ad : Nat → Nat) (g : zG) (A : Nat → Prop) (r : zR) : Array Value → State → Outcome → State → Prop :=
  match r.1 with
  | some (.int x) => va_Qi (fun v _ => v = x) (zBk D ty ad g A r) A
  | some (.long x) => va_Ql (fun v _ => v = x) (zBk D ty ad g A r) A
  | _ => va_Qv (fun _ => True) (zBk D ty ad g A r) A
theorem zPc_blind {D : va_G} {ty : Nat → ClassId} {ad : Nat → Nat} {g : zG} {S : zS} {sz : Nat} {as : List Value} : FrameBlind (zPc D ty ad g S sz as) := by
  intro a U f mk h
  obtain ⟨h1, h2, h3, h4, h5, h6⟩ := h
  exact ⟨h1, h2, h3, va_K.moved (u := U) (U := U.calling f mk a) (Vm.Alike.refl U.vm) h4, zstat.moved (u := U) (U := U.calling f mk a) (Vm.Alike.refl U.vm) h5, zAux.same (s := U) (U := U.calling f mk a) rfl h6⟩
abbrev zws (M : Nat) : List Cond := Cond.code (zmn M) (zby M) (zml M) (zrt M) :: zTs
abbrev zrm (g : zG) (L : Nat) (r : zR) : Room := { frames := L, cells := r.2.1.1 - g.1, slots := zSl r.2.1.1 - zSl g.1, locals := L * 60 }
theorem zmet (F : zfacts) {l : Launch} {D : va_G} {ty : Nat → ClassId} {sc : zSc} {M L sz : Nat} {g : zG} {S : zS} {as : List Value} {r : zR} (ad : Nat → Nat) (hM : M < 243) (hgo : zGo l D ty sc (g, (M, L), 0, S, zloc (zml M) as, []) r) (hs : zsum as ≤ zml M) (hl : zsum as ≤ zpn M ∨ as.all (fun v => znl (some v)) = true) :
    Met l (zmn M) (zws M) (zrm g L r) (zPc D ty ad g S sz as) (zQc D ty ad g (va_A (zW ad ty g S) sz) r) (r.2.1.1 - g.1) (zSl r.2.1.1 - zSl g.1) (va_A (zW ad ty g S) sz) := by
  obtain ⟨m1, m2, m3, m4, m5, m6, m7, m8, m9, m10, m11, m12, m13, m14, m15⟩ := F.2.1 M hM
  refine Met.ofW (cc := zby M) (maxL := zml M) (ret := zrt M) m1 rfl ?_
  intro p e s m args below meth c s₁ B hml hv
  obtain ⟨rfl, hsz, hpic, hK, hst, hO⟩ := hv
  have hts := atoms_spec (ws := zws M) B.pre
  have hown : s.vm.findClass (zcn (zow M)) = some m.cls := by rw [← m2]; exact findClass_of_methodNamed B.named
  have hlocks := B.notSynchronized
  subst hsz
  have C : zfix p s m ((as.map (zc ad)).toArray) meth c (va_A (zW ad ty g S) s.heap.size) M D ty ad sc :=
    ⟨B.exec, B.bytes, hml, hown, fun w hw => hts w (List.mem_cons_of_mem _ hw), fun hi => by rw [(name_of_methodNamed B.named B.method).1]; exact (m9 hi).1, hK, hst, fun q hq => Or.inr hq, fun hLaw => by rw [hLaw] at hM; exact absurd hM (by decide), hO⟩
  rw [lg_entry_eq]
  have hent := lv_entry (as.map (zc ad)) (n := zml M) (by rw [lg_sl_sum]; exact hs)
  have hgo := hgo p e (zrm g L r) s m ((as.map (zc ad)).toArray) below meth c (MQ below (zQc D ty ad g (va_A (zW ad ty g S) s.heap.size) r) ((as.map (zc ad)).toArray) s (r.2.1.1 - g.1) (zSl r.2.1.1 - zSl g.1) (va_A (zW ad ty g S) s.heap.size)) (va_A (zW ad ty g S) s.heap.size) ad s.heap [] _ 0 0 C hpic va_S.rf (zloc_has hs hent)
    (zloc_zone hs hl) (Nat.le_refl _) (Nat.le_refl _) (by dsimp only; omega) (by dsimp only; omega)
  refine hgo (fun ad' H' locs' ls' pc' a1 a2 a3 a4 => ?_)
  dsimp only at a1 a2 a3 a4 ⊢
  rw [Nat.zero_add, Nat.zero_add]
  have hx := B.exec
  have hb := B.bytes
  have hr := B.returns
  unfold zend at a4
  unfold zQc
  split at a4
  · rename_i x hx1
    obtain ⟨d1, d2⟩ := a4
    rw [hx1]
    dsimp only [Option.toList]
    rcases d2 with d2 | ⟨d2, d3⟩
    · exact W.iret (v := x) hx hb (hr.trans (m11 d2)) (fun t ht hW => ⟨⟨x, ad', rfl, rfl, a1, by rw [ht]; exact a2⟩, a3.F ht⟩) a3.2.2 d1
    · exact W.zret (v := x) (ty := .boolean) hx hb (hr.trans (m13 d2)) (by rcases d3 with rfl | rfl <;> rfl) (fun t ht hW => ⟨⟨x, ad', rfl, rfl, a1, by rw [ht]; exact a2⟩, a3.F ht⟩) a3.2.2 d1
  · rename_i x hx1
    obtain ⟨d1, d2⟩ := a4
    rw [hx1]
    dsimp only [Option.toList]
    exact W.lret (v := x) hx hb (hr.trans (m12 d2)) (fun t ht hW => ⟨⟨x, ad', rfl, rfl, a1, by rw [ht]; exact a2⟩, a3.F ht⟩) a3.2.2 d1
  · rename_i hx1
    obtain ⟨d1, d2⟩ := a4
    rw [hx1]
    dsimp only [Option.toList]
    exact W.vret hx hb (hr.trans (m10 d2)) (fun t ht hW => ⟨⟨ad', rfl, trivial, a1, by rw [ht]; exact a2⟩, a3.F ht⟩) a3.2.2 d1
  · exact a4.elim
theorem zretr (F : zfacts) {l : Launch} {D : va_G} {ty : Nat → ClassId} {sc : zSc} {x : zX} {r : zR} (h : zdec sc x = some (.inr (.inl r))) : zGo l D ty sc x r := by
  obtain ⟨g, ⟨M, L⟩, pc, S, lv, st⟩ := x
  obtain ⟨ins, len, a, b, v, hmem, h1, h2, h3⟩ := zdec_shape h
  obtain ⟨hd, ho⟩ := F.1 M _ ins len a b v hmem
  intro p e R s m args below meth c Q A ad H locs ls cells slots C P hS hl hone hR1 hR2 hc hs hend
  dsimp only at C P hl hone hR1 hR2 hc hs hend ⊢
  have hk := hend ad H locs ls pc (zagr.refl _ _) (by rw [h1, h2]; exact P) hS
  rw [h1] at hk
  rw [Nat.sub_self, Nat.sub_self, Nat.add_zero, Nat.add_zero] at hk
  rcases h3 with ⟨rfl, x, rfl, hr, hz⟩ | ⟨rfl, x, rfl, hr, hz⟩ | ⟨rfl, rfl, hr, hz⟩
  · obtain rfl : len = 1 := ho
    rw [hr] at hk
    exact hk ⟨hd, hz⟩
  · obtain rfl : len = 1 := ho
    rw [hr] at hk
    exact hk ⟨hd, hz⟩
  · obtain rfl : len = 1 := ho
    rw [hr] at hk
    exact hk ⟨hd, hz⟩
