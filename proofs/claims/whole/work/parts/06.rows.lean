/-! ===== each instruction of the small machine is one of the real machine ===== -/
theorem zcond {α : Type} {b : Bool} {x : Option α} {y : α} (h : cond b x none = some y) : b = true ∧ x = some y := by
  cases b with
  | true => exact ⟨rfl, h⟩
  | false => cases h
theorem zitn {α : Type} {c : Prop} {i : Decidable c} {x : Option α} {y : α} (h : @ite _ c i none x = some y) : ¬ c ∧ x = some y := by
  by_cases hc : c
  · rw [if_pos hc] at h; cases h
  · rw [if_neg hc] at h; exact ⟨hc, h⟩
def zfix (p : Program) (s : State) (m : MethodId) (args : Array Value) (meth : Method) (c : Code) (A : Nat → Prop) (M : Nat) (D : va_G) (ty : Nat → ClassId) (ad : Nat → Nat) (sc : zSc) : Prop :=
  p.tables.exec = Jvm.exec ∧ c.code = zby M ∧ c.maxLocals = zml M ∧ s.vm.findClass (zcn (zow M)) = some m.cls ∧ (∀ w ∈ zTs, w.before args s = true) ∧ (zin M = true → meth.name = "<init>") ∧ va_K D zcl (zty ty) s ∧ zstat ad A s s.heap ∧ (∀ q : Nat, s.heap.size ≤ q → A q) ∧
  (M = zm_L_law → va_X (ad 1010) sc.2 sc.1 s s.heap ∧ ad 1010 < s.heap.size ∧ ¬ A (ad 1010)) ∧ zAux s
theorem zfix.ad' {p : Program} {s : State} {m : MethodId} {args : Array Value} {meth : Method} {c : Code} {A : Nat → Prop} {M : Nat} {D : va_G} {ty : Nat → ClassId} {ad ad' : Nat → Nat} {sc : zSc} (h : zfix p s m args meth c A M D ty ad sc) (hq : ∀ q, 999 < q → ad' q = ad q) : zfix p s m args meth c A M D ty ad' sc := by
  obtain ⟨h1, h2, h3, h4, h5, h6, h7, h8, h9, h10, h11⟩ := h
  refine ⟨h1, h2, h3, h4, h5, h6, h7, fun k hk => ?_, h9, fun hM => ?_, h11⟩
  · rw [hq _ (by omega)]; exact h8 k hk
  · rw [hq _ (by omega)]; exact h10 hM
-- locals
def zl (ad : Nat → Nat) (lv : List (Option Value)) : List (Nat × Value) := (List.range lv.length).filterMap (fun i => match lv[i]? with | some (some v) => some (i, zc ad v) | _ => none)
theorem zl_mem {ad : Nat → Nat} {lv : List (Option Value)} {q : Nat × Value} : q ∈ zl ad lv ↔ ∃ v, lv[q.1]? = some (some v) ∧ q.2 = zc ad v := by
  obtain ⟨i, w⟩ := q
  unfold zl
  rw [List.mem_filterMap]
  constructor
  · rintro ⟨j, -, h⟩
    split at h
    · rename_i v hv
      cases h
      exact ⟨v, hv, rfl⟩
    · cases h
  · rintro ⟨v, hv, hw⟩
    dsimp only at hv hw
    refine ⟨i, List.mem_range.mpr ?_, ?_⟩
    · rcases Nat.lt_or_ge i lv.length with h | h
      · exact h
      · rw [List.getElem?_eq_none h] at hv; cases hv
    · rw [hv, hw]
theorem zl_has {ad : Nat → Nat} {n : Nat} {lv : List (Option Value)} {ls : Array Slot} (h : zlh ad n lv ls) : lv_has ls n (zl ad lv) :=
  ⟨h.1, h.2.1, fun q hq => by obtain ⟨v, h1, h2⟩ := zl_mem.mp hq; rw [h2]; exact h.2.2.2 _ _ h1⟩
theorem zc_cat (ad : Nat → Nat) (v : Value) : (zc ad v).category = v.category := by cases v <;> rfl
/-- locals of two slots stand below k -/
def zone (k : Nat) (lv : List (Option Value)) : Prop := ∀ (j : Nat) (v : Value), lv[j]? = some (some v) → v.category = 1 ∨ j + 1 < k
theorem zone_set {k : Nat} {lv : List (Option Value)} {i : Nat} {x : Value} (h : zone k lv) (hx : x.category = 1) : zone k (lv.set i (some x)) := by
  intro j v hv
  rw [List.getElem?_set] at hv
  split at hv
  · split at hv
    · cases hv; exact Or.inl hx
    · cases hv
  · exact h j v hv
theorem zl_store {ad : Nat → Nat} {n k : Nat} {lv : List (Option Value)} {ls ls' : Array Slot} {i : Nat} {x : Value} (h : zlh ad n lv ls) (hi : i < n) (hn : zone k lv) (hk : k ≤ i)
    (h' : lv_has ls' n ((i, zc ad x) :: (zl ad lv).filter (fun q => !(q.1 == i) && !(q.1 + 1 == i && q.2.category == 2)))) : zlh ad n (lv.set i (some x)) ls' := by
  refine ⟨h'.1, h'.2.1, by rw [List.length_set]; exact h.2.2.1, fun j v hv => ?_⟩
  rw [List.getElem?_set] at hv
  by_cases hj : i = j
  · subst hj
    rw [if_pos rfl, if_pos (by rw [h.2.2.1]; exact hi)] at hv
    cases hv
    exact h'.2.2 (i, zc ad x) List.mem_cons_self
  · rw [if_neg hj] at hv
    refine h'.2.2 (j, zc ad v) (List.mem_cons_of_mem _ (List.mem_filter.mpr ⟨zl_mem.mpr ⟨v, hv, rfl⟩, ?_⟩))
    have h2 : (j == i) = false := by rw [beq_eq_false_iff_ne]; exact fun q => hj q.symm
    rcases hn j v hv with h1 | h1
    · simp [h2, zc_cat, h1]
    · have h3 : (j + 1 == i) = false := by rw [beq_eq_false_iff_ne]; omega
      simp [h2, h3]
theorem zlh_ad {ad ad' : Nat → Nat} {n : Nat} {lv : List (Option Value)} {ls : Array Slot} (h : zlh ad n lv ls) (hq : ∀ v, some v ∈ lv → zc ad' v = zc ad v) : zlh ad' n lv ls :=
  ⟨h.1, h.2.1, h.2.2.1, fun i v hv => by rw [hq v (List.mem_of_getElem? hv)]; exact h.2.2.2 i v hv⟩
theorem zc_ok {ad ad' : Nat → Nat} {n : Nat} {v : Value} (hv : zrefok n v = true) (hq : ∀ q, q < n ∨ 999 < q → ad' q = ad q) : zc ad' v = zc ad v := by
  cases v with
  | ref c =>
    simp only [zrefok, Bool.or_eq_true, Nat.blt_eq] at hv
    simp only [zc, hq c hv]
  | _ => rfl
theorem zc_oko {ad ad' : Nat → Nat} {n : Nat} {lv : List (Option Value)} (hv : lv.all (zrefoko n) = true) (hq : ∀ q, q < n ∨ 999 < q → ad' q = ad q) : ∀ v, some v ∈ lv → zc ad' v = zc ad v := fun v h => zc_ok (List.all_eq_true.mp hv (some v) h) hq
theorem zc_oks {ad ad' : Nat → Nat} {n : Nat} {st : List Value} (hv : st.all (zrefok n) = true) (hq : ∀ q, q < n ∨ 999 < q → ad' q = ad q) : st.map (zc ad') = st.map (zc ad) := List.map_congr_left fun v h => zc_ok (List.all_eq_true.mp hv v h) hq
section ZRows
variable {p : Program} {l : Launch} {e : Env} {R : Room} {s : State} {m : MethodId} {args : Array Value} {below : List Frame} {meth : Method} {c : Code} {H : Heap} {locs : List Loc} {cells slots : Nat} {Q : State → Prop}
  {D : va_G} {ty : Nat → ClassId} {ad : Nat → Nat} {A : Nat → Prop} {sc : zSc} {ls : Array Slot} {M pc len a b : Nat} {v : Int32} {st s2 : List Value} {lv : List (Option Value)} {g : zG} {S : zS} {ins : Instr}
theorem zo_pure (C : zfix p s m args meth c A M D ty ad sc) (hd : decode (zby M) pc = .ok (ins, len)) (ho : zopk M pc ins len a b v) (h : zpure ins v a st = some s2)
    (k : W p l e R s m args below meth c H locs cells slots Q (F0 m (pc + len) ls (s2.map (zc ad)))) : W p l e R s m args below meth c H locs cells slots Q (F0 m pc ls (st.map (zc ad))) := by
  obtain ⟨hx, hb, hml, hown, hts, -, -, -, -, -⟩ := C
  unfold zpure at h
  split at h
  · obtain ⟨rfl, hv⟩ := ho; cases h; exact lv_iconst hx hb hd hv k
  · obtain ⟨rfl, hv⟩ := ho; cases h; exact lv_bipush hx hb hd hv k
  · obtain ⟨rfl, hv⟩ := ho; cases h; exact lv_sipush hx hb hd hv k
  · obtain ⟨rfl, hv⟩ := ho; cases h; exact lv_ldc hx hb hown (hts _ hv) hd k
  · obtain ⟨rfl, hv⟩ := ho; cases h; exact lv_ldcw hx hb hown (hts _ hv) hd k
  · obtain rfl := ho; cases h; exact lv_lconst hx hb hd rfl k
  · obtain ⟨rfl, hv⟩ := ho; cases h; exact lv_ldc2 hx hb hown (hts _ hv) hd k
  · obtain rfl := ho; split at h <;> cases h; exact lv_iadd hx hb hd k
  · obtain rfl := ho; split at h <;> cases h; exact lv_isub hx hb hd k
  · obtain rfl := ho; split at h <;> cases h; exact lv_imul hx hb hd k
  · obtain rfl := ho; split at h <;> cases h; exact lv_iand hx hb hd k
  · obtain rfl := ho; split at h <;> cases h; exact lv_ior hx hb hd k
  · obtain rfl := ho; split at h <;> cases h; exact lv_ixor hx hb hd k
  · obtain rfl := ho; split at h <;> cases h; exact lv_ineg hx hb hd k
  · obtain rfl := ho; split at h <;> cases h; exact lv_ishl hx hb hd k
  · obtain rfl := ho; split at h <;> cases h; exact lv_ishr hx hb hd k
  · obtain rfl := ho; split at h <;> cases h; exact lv_iushr hx hb hd rfl k
  · obtain rfl := ho; split at h <;> cases h; exact lv_i2l hx hb hd rfl k
  · obtain rfl := ho; split at h <;> cases h; exact lv_l2i hx hb hd rfl k
  · obtain rfl := ho; split at h <;> cases h; exact lv_i2b hx hb hd rfl k
  · obtain rfl := ho; split at h <;> cases h; exact lv_i2s hx hb hd rfl k
  · obtain rfl := ho; split at h <;> cases h; exact lv_lshl hx hb hd rfl k
  · obtain rfl := ho; split at h <;> cases h; exact lv_land hx hb hd k
  · obtain rfl := ho; split at h <;> cases h; exact lv_lor hx hb hd k
  · obtain rfl := ho; split at h <;> cases h; exact W.lcmp hx hb hd k
  · obtain rfl := ho; split at h <;> cases h <;> exact lv_dup hx hb hd rfl k
  · obtain rfl := ho; split at h <;> cases h; exact lv_dup2_11 hx hb hd rfl rfl k
  · cases h
theorem zldk_ok {k i : Nat} (h : zldk k lv i st = some s2) : ∃ w, lv[i]? = some (some w) ∧ zis k w = true ∧ s2 = w :: st := by
  unfold zldk at h
  split at h
  · rename_i w hw
    obtain ⟨h1, h2⟩ := zcond h
    cases h2
    exact ⟨w, hw, h1, rfl⟩
  · cases h
theorem zis0 {w : Value} (h : zis 0 w = true) : ∃ x, w = .int x := by cases w <;> first | exact ⟨_, rfl⟩ | cases h
theorem zis1 {w : Value} (h : zis 1 w = true) : ∃ x, w = .long x := by cases w <;> first | exact ⟨_, rfl⟩ | cases h
theorem zis2 {w : Value} (h : zis 2 w = true) : ∃ x, w = .ref x := by cases w <;> first | exact ⟨_, rfl⟩ | cases h
/-- what a field holds -/
theorem zfs_get {c0 a : Nat} (ha : a < zN c0) : ((List.range (zN c0)).map (zV ad g.2 S c0))[a]? = some (zV ad g.2 S c0 a) := by
  simp [List.getElem?_range ha]
theorem zo_get (F : zfacts) (C : zfix p s m args meth c A M D ty ad sc) {i c0 : Nat} {r : List Value} {w : Value} (hd : decode (zby M) pc = .ok (.getfield i, len)) (ho : zopk M pc (.getfield i) len a b v) (P : zpic D ty ad A g S H) (h : zfld g S c0 a b = some w)
    (k : W p l e R s m args below meth c H locs cells slots Q (F0 m (pc + len) ls ((w :: r).map (zc ad)))) : W p l e R s m args below meth c H locs cells slots Q (F0 m pc ls ((Value.ref c0 :: r).map (zc ad))) := by
  obtain ⟨hx, hb, hml, hown, hts, -, hK, -, -, -⟩ := C
  obtain ⟨rfl, hl, hb12⟩ := ho
  obtain ⟨hP, hD, hn, hI⟩ := P
  obtain ⟨h1, h2⟩ := zcond h
  simp only [Bool.and_eq_true, Nat.blt_eq, Nat.beq_eq] at h1
  obtain ⟨⟨⟨h3, h4⟩, h5⟩, h6⟩ := h1
  have hc74 : c0 < 74 := Nat.lt_of_lt_of_le h3 hn
  have hN := (zt_N c0 hc74 h4).2
  have ha : a < zN c0 := by rw [hN, h5]; exact h6
  refine va_get (D := D) (ci := b) (C := zcn b) (T := zT b) (N := zNf b) hx hb hts (F.2.2.1 b hb12) hown hK hP c0 (fs := (List.range (zN c0)).map (zV ad g.2 S c0)) (by rw [zW_get h3, zE_obj h4, h5]) (zt_cl b hb12) a h6 (hts _ hl) (fun _ h => h) (v := zc ad w) ?_ hd k
  rw [zfs_get ha]
  unfold zV
  split at h2
  · rename_i t ht
    obtain ⟨h7, h8⟩ := zcond h2
    cases h8
    rw [ht]; dsimp only; rw [h7]; rfl
  · rename_i ht
    cases h2
    rw [ht]; rfl
theorem zup_same (f : Nat → Int32) (k : Nat) (x : Int32) : upd f k x k = x := by simp [upd]
theorem zup_ne (f : Nat → Int32) {k j : Nat} (x : Int32) (h : j ≠ k) : upd f k x j = f j := by simp [upd, h]
/-- the fields behind a number is put in -/
theorem zfs_put {c0 a : Nat} {x : Int32} (hf : zF c0 a = none) (ha : a < zN c0) : ((List.range (zN c0)).map (zV ad g.2 S c0)).set a (.int x) = (List.range (zN c0)).map (zV ad g.2 (zw1 S c0 a x) c0) := by
  apply List.ext_getElem?
  intro j
  rw [List.getElem?_set]
  by_cases hj : j < zN c0
  · rw [zfs_get (S := zw1 S c0 a x) hj]
    by_cases h : a = j
    · subst h
      rw [if_pos rfl, if_pos (by simpa using hj)]
      unfold zV
      rw [hf]
      simp [zw1, zup_same]
    · rw [if_neg h, zfs_get hj]
      unfold zV
      cases zF c0 j with
      | some t => rfl
      | none => simp [zw1, zup_ne _ _ (fun q => h q.symm)]
  · have h1 : ((List.range (zN c0)).map (zV ad g.2 (zw1 S c0 a x) c0))[j]? = none := by simp; omega
    have h2 : ((List.range (zN c0)).map (zV ad g.2 S c0))[j]? = none := by simp; omega
    rw [h1, h2]
    by_cases h : a = j
    · subst h; rw [if_pos rfl, if_neg (by simpa using hj)]
    · rw [if_neg h]
theorem zw1_ne {c0 d i : Nat} {x : Int32} (h : d ≠ c0) : (zw1 S c0 i x).1 d = S.1 d := by simp [zw1, h]
theorem zw1_at {c0 i : Nat} {x : Int32} : (zw1 S c0 i x).1 c0 = upd (S.1 c0) i x := by simp [zw1]
theorem zE_w1 {c0 d i : Nat} {x : Int32} (h : d ≠ c0) : zE ad ty g.2 (zw1 S c0 i x) d = zE ad ty g.2 S d := zE_ad (zw1_ne h) rfl (fun _ => rfl) (fun _ _ _ _ => rfl)
theorem zo_put (F : zfacts) (C : zfix p s m args meth c A M D ty ad sc) (hS : va_S A s.heap H locs) {i c0 : Nat} {r : List Value} {x : Int32} (hd : decode (zby M) pc = .ok (.putfield i, len)) (ho : zopk M pc (.putfield i) len a b v) (P : zpic D ty ad A g S H)
    (h3 : c0 < g.1) (h4 : zK c0 = 0) (h5 : zC c0 = b) (h6 : a < zNf b) (h7 : zF c0 a = none) (h8 : zB b a = true → x = 0 ∨ x = 1)
    (k : ∀ H1 locs1, zpic D ty ad A g (zw1 S c0 a x) H1 → va_S A s.heap H1 locs1 → W p l e R s m args below meth c H1 locs1 cells slots Q (F0 m (pc + len) ls (r.map (zc ad)))) : W p l e R s m args below meth c H locs cells slots Q (F0 m pc ls ((Value.int x :: Value.ref c0 :: r).map (zc ad))) := by
  obtain ⟨hx, hb, hml, hown, hts, hini, hK, -, -, -⟩ := C
  obtain ⟨rfl, hl, hb12, hfin⟩ := ho
  obtain ⟨hP, hD, hn, hI⟩ := P
  have hc74 : c0 < 74 := Nat.lt_of_lt_of_le h3 hn
  have hN := (zt_N c0 hc74 h4).2
  have ha : a < zN c0 := by rw [hN, h5]; exact h6
  have hY := (zt_f c0 hc74 h4 a ha).1 h7
  rw [h5] at hY
  have he : (zW ad ty g S)[c0]? = some (ad c0, .inr (b, (List.range (zN c0)).map (zV ad g.2 S c0))) := by rw [zW_get h3, zE_obj h4, h5]
  have hset : (zW ad ty g S).set c0 (ad c0, .inr (b, ((List.range (zN c0)).map (zV ad g.2 S c0)).set a (.int x))) = zW ad ty g (zw1 S c0 a x) :=
    zW_set rfl (by rw [zE_obj h4, h5, zfs_put h7 ha]) (fun d hd _ => zE_w1 hd)
  have hnar : narrow (zY b a) (.int x) = .int x ∧ fits (zY b a) (.int x) = true := by
    rw [hY]
    by_cases hB : zB b a = true
    · rw [if_pos hB]
      rcases h8 hB with rfl | rfl <;> exact ⟨rfl, rfl⟩
    · rw [if_neg hB]; exact ⟨rfl, rfl⟩
  have kk : ∀ (H1 : Heap) (locs1 : List Loc), va_P D zcl ((zW ad ty g S).set c0 (ad c0, .inr (b, ((List.range (zN c0)).map (zV ad g.2 S c0)).set a (.int x)))) H1 → va_D A ((zW ad ty g S).set c0 (ad c0, .inr (b, ((List.range (zN c0)).map (zV ad g.2 S c0)).set a (.int x)))) → va_S A s.heap H1 locs1 → W p l e R s m args below meth c H1 locs1 cells slots Q (F0 m (pc + 3) ls (r.map (zc ad))) := by
    intro H1 locs1 q1 q2 q3
    rw [hset] at q1 q2
    exact k H1 locs1 ⟨q1, q2, hn, hI⟩ q3
  rcases hfin with hf | ⟨hf, hi, hdec⟩
  · exact va_put (D := D) (ci := b) (v := .int x) (C := zcn b) (T := zT b) (N := zNf b) hx hb hts (F.2.2.1 b hb12) (zY b) (zt_Y b hb12) (zt_nm b hb12) hown hK hP hD hS c0 he (zt_cl b hb12) a h6 (hts _ hl) (fun _ h => h) hf (zt_Y b hb12 a h6) hnar.1 hnar.2 (by simpa using ha) hd kk
  · exact va_putF (D := D) (ci := b) (v := .int x) (C := zcn b) (T := zT b) (N := zNf b) hx hb hts (F.2.2.1 b hb12) (zY b) (zt_Y b hb12) (zt_nm b hb12) hown hK hP hD hS c0 he (zt_cl b hb12) a h6 (hts _ hl) (fun _ h => h) hf (hini hi) hdec (zt_Y b hb12 a h6) hnar.1 hnar.2 (by simpa using ha) hd kk
end ZRows
