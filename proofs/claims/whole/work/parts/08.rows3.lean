/-! ===== what is made; branches; copies ===== -/
theorem zW_push {ad ad' : Nat → Nat} {ty : Nat → ClassId} {g g2 : zG} {S S2 : zS} {q : Nat} (hg : g2.1 = g.1 + 1) (hn : ad' g.1 = q) (ha : ∀ d, d < g.1 → ad' d = ad d) (ho : ∀ d, d < g.1 → zE ad' ty g2.2 S2 d = zE ad ty g.2 S d) :
    zW ad ty g S ++ [(q, zE ad' ty g2.2 S2 g.1)] = zW ad' ty g2 S2 := by
  unfold zW
  rw [hg, List.range_succ, List.map_append]
  congr 1
  · refine List.map_congr_left fun d hd => ?_
    have h := List.mem_range.mp hd
    rw [ha d h, ho d h]
  · simp [hn]
theorem zw0_ne {S : zS} {c d : Nat} (h : d ≠ c) : (zw0 S c).1 d = S.1 d ∧ (zw0 S c).2 d = S.2 d := by simp [zw0, h]
/-- the addresses with one more -/
def zad (ad : Nat → Nat) (n q : Nat) : Nat → Nat := fun c => if c = n then q else ad c
theorem zad_at {ad : Nat → Nat} {n q : Nat} : zad ad n q n = q := by simp [zad]
theorem zad_ne {ad : Nat → Nat} {n q c : Nat} (h : c ≠ n) : zad ad n q c = ad c := by simp [zad, h]
/-- the flags behind a new cell -/
def zfn (g : zG) : Nat → Nat → Bool := fun d j => cond (Nat.beq d g.1) false (g.2 d j)
theorem zfn_ne {g : zG} {d j : Nat} (h : d ≠ g.1) : zfn g d j = g.2 d j := by
  have : Nat.beq d g.1 = false := by
    cases hb : Nat.beq d g.1 with
    | false => rfl
    | true => exact absurd (Nat.eq_of_beq_eq_true hb) h
  simp [zfn, this]
theorem zfn_at {g : zG} {j : Nat} : zfn g g.1 j = false := by simp [zfn]
theorem znew_old {ad : Nat → Nat} {ty : Nat → ClassId} {g : zG} {S : zS} {q d : Nat} (hI : ∀ c j t, c < g.1 → zF c j = some t → g.2 c j = true → t < g.1) (hd : d < g.1) : zE (zad ad g.1 q) ty (zfn g) (zw0 S g.1) d = zE ad ty g.2 S d :=
  zE_ad (zw0_ne (by omega)).1 (zw0_ne (by omega)).2 (fun _ => zfn_ne (by omega)) (fun j t h1 h2 => zad_ne (by have := hI d j t hd h1 h2; omega))
theorem znew_pic {D : va_G} {ad : Nat → Nat} {ty : Nat → ClassId} {A : Nat → Prop} {g : zG} {S : zS} {H1 : Heap} {q : Nat} {e : va_E} (hn : g.1 < zNC) (hI : ∀ c j t, c < g.1 → zF c j = some t → g.2 c j = true → t < g.1) (he : zE (zad ad g.1 q) ty (zfn g) (zw0 S g.1) g.1 = e)
    (q1 : va_P D zcl (zW ad ty g S ++ [(q, e)]) H1) (q2 : va_D A (zW ad ty g S ++ [(q, e)])) : zpic D ty (zad ad g.1 q) A (g.1 + 1, zfn g) (zw0 S g.1) H1 := by
  have h := zW_push (ad := ad) (ad' := zad ad g.1 q) (ty := ty) (g := g) (g2 := (g.1 + 1, zfn g)) (S := S) (S2 := zw0 S g.1) (q := q) rfl zad_at (fun d hd => zad_ne (by omega)) (fun d hd => znew_old hI hd)
  rw [← he] at q1 q2
  rw [h] at q1 q2
  refine ⟨q1, q2, hn, fun c j t h1 h2 h3 => ?_⟩
  dsimp only at h1 h3 ⊢
  by_cases hc : c = g.1
  · subst hc; rw [zfn_at] at h3; cases h3
  · rw [zfn_ne hc] at h3
    have := hI c j t (by omega) h2 h3
    omega
theorem zt_dv : ∀ c, c < 74 → zK c = 0 → ∀ j, j < zN c → defaultValue (zY (zC c) j) = (match zF c j with | some _ => .null | none => .int 0) := by
  intro c hc hk j hj
  have h := zt_f c hc hk j hj
  cases hF : zF c j with
  | none =>
    have h1 := h.1 hF
    rw [h1]
    by_cases hB : zB (zC c) j = true
    · rw [if_pos hB]; rfl
    · rw [if_neg hB]; rfl
  | some t =>
    have h1 := h.2 (by rw [hF]; rfl)
    cases hz : zY (zC c) j with
    | object _ => rfl
    | array _ => rfl
    | _ => rw [hz] at h1; cases h1
section ZRows3
variable {p : Program} {l : Launch} {e : Env} {R : Room} {s : State} {m : MethodId} {args : Array Value} {below : List Frame} {meth : Method} {c : Code} {H : Heap} {locs : List Loc} {cells slots : Nat} {Q : State → Prop}
  {D : va_G} {ty : Nat → ClassId} {ad : Nat → Nat} {A : Nat → Prop} {sc : zSc} {ls : Array Slot} {M pc len a b : Nat} {v : Int32} {st s2 r : List Value} {lv : List (Option Value)} {g : zG} {S : zS} {ins : Instr} {c0 : Nat} {i x y : Int32} {x2 : Int64}
theorem zo_new {j : Nat} (F : zfacts) (C : zfix p s m args meth c A M D ty ad sc) (hS : va_S A s.heap H locs) (hd : decode (zby M) pc = .ok (.new j, len)) (ho : zopk M pc (.new j) len a b v) (P : zpic D ty ad A g S H) (h1 : g.1 < zNC) (h2 : zK g.1 = 0) (h3 : zC g.1 = a)
    (hc : cells + 1 ≤ R.cells) (hs : slots + zN g.1 ≤ R.slots)
    (k : ∀ q H1, zpic D ty (zad ad g.1 q) A (g.1 + 1, zfn g) (zw0 S g.1) H1 → va_S A s.heap H1 locs → W p l e R s m args below meth c H1 locs (cells + 1) (slots + zN g.1) Q (F0 m (pc + len) ls (.ref q :: r.map (zc ad)))) : W p l e R s m args below meth c H locs cells slots Q (F0 m pc ls (r.map (zc ad))) := by
  obtain ⟨hx, hb, hml, hown, hts, hini, hK, -, hA, -⟩ := C
  obtain ⟨rfl, ha, hl1, hl2, hl3⟩ := ho
  obtain ⟨hP, hD, hn, hI⟩ := P
  have hN := (zt_N g.1 h1 h2).2
  rw [h3] at hN
  have hdv := zt_dv g.1 h1 h2
  rw [h3] at hdv
  refine va_new (ci := a) (fs := (List.range (zN g.1)).map (zV (zad ad g.1 0) (zfn g) (zw0 S g.1) g.1)) (C := zcn a) (T := zT a) (N := zNf a) hx hb hts (F.2.2.1 a ha) (zY a) (zt_Y a ha) hown (hts _ hl1) (hts _ hl2) (hts _ hl3) hK hP hD hS hA (zt_cl a ha) (fun j hj => ?_) hc (by rw [← hN]; exact hs) hd (fun q H1 q1 q2 q3 => ?_)
  · rw [hdv j (by rw [hN]; exact hj)]
    unfold vp_V
    rw [List.getD_eq_getElem?_getD]
    have hj' : j < zN g.1 := by rw [hN]; exact hj
    simp only [List.getElem?_map, List.getElem?_range hj', Option.map_some, Option.getD_some]
    unfold zV
    cases zF g.1 j with
    | some t => simp [zfn_at]
    | none => simp [zw0]
  · rw [← hN]
    refine k q H1 (znew_pic h1 hI ?_ q1 q2) q3
    rw [zE_obj h2, h3]
    congr 3
    funext j
    unfold zV
    cases zF g.1 j with
    | some t => simp [zfn_at]
    | none => rfl
theorem zK_arr {t : FieldType} {cA cB : ClassId} (h1 : s.vm.findClass ("[" ++ t.toString) = some cA) (h2 : s.vm.findClass ("[" ++ t.toString) = some cB) : cA = cB := Option.some.inj (h1.symm.trans h2)
theorem zo_newai (C : zfix p s m args meth c A M D ty ad sc) (hS : va_S A s.heap H locs) (hd : decode (zby M) pc = .ok (.newarray .int, len)) (ho : zopk M pc (.newarray .int) len a b v) (P : zpic D ty ad A g S H) (h1 : g.1 < zNC) (h2 : zK g.1 = 1) (h3 : ¬ x < 0) (h4 : x.toNatClampNeg = zN g.1)
    (hc : cells + 1 ≤ R.cells) (hs : slots + zN g.1 ≤ R.slots) (hbg : zN g.1 ≤ 1000)
    (k : ∀ q H1, zpic D ty (zad ad g.1 q) A (g.1 + 1, zfn g) (zw0 S g.1) H1 → va_S A s.heap H1 locs → W p l e R s m args below meth c H1 locs (cells + 1) (slots + zN g.1) Q (F0 m (pc + len) ls (.ref q :: r.map (zc ad)))) : W p l e R s m args below meth c H locs cells slots Q (F0 m pc ls ((Value.int x :: r).map (zc ad))) := by
  obtain ⟨hx, hb, hml, hown, hts, hini, hK, -, hA, -⟩ := C
  obtain ⟨rfl, hl⟩ := ho
  obtain ⟨hP, hD, hn, hI⟩ := P
  refine va_newa (atype := .int) (a0 := (zN g.1, .inl (fun _ => 0))) hx hb (hts _ hl) (ty := .int) rfl hK hP hD hS hA (N' := zN g.1) (fun _ => rfl) h3 h4 (by show zN g.1 * 4 ≤ _; omega) hc hs hd (fun q cA H1 k1 q1 q2 q3 => ?_)
  have e1 := (k1.2 4 (cA, .int) rfl).2
  have e2 := (k1.2 0 (ty 0, .int) rfl).2
  obtain rfl : cA = ty 0 := zK_arr (t := .int) e1 e2
  exact k q H1 (znew_pic h1 hI (by rw [zE_int h2]; simp [zw0]) q1 q2) q3
theorem zo_newal (C : zfix p s m args meth c A M D ty ad sc) (hS : va_S A s.heap H locs) (hd : decode (zby M) pc = .ok (.newarray .long, len)) (ho : zopk M pc (.newarray .long) len a b v) (P : zpic D ty ad A g S H) (h1 : g.1 < zNC) (h2 : zK g.1 = 2) (h3 : ¬ x < 0) (h4 : x.toNatClampNeg = zN g.1)
    (hc : cells + 1 ≤ R.cells) (hs : slots + zN g.1 ≤ R.slots) (hbg : zN g.1 ≤ 1000)
    (k : ∀ q H1, zpic D ty (zad ad g.1 q) A (g.1 + 1, zfn g) (zw0 S g.1) H1 → va_S A s.heap H1 locs → W p l e R s m args below meth c H1 locs (cells + 1) (slots + zN g.1) Q (F0 m (pc + len) ls (.ref q :: r.map (zc ad)))) : W p l e R s m args below meth c H locs cells slots Q (F0 m pc ls ((Value.int x :: r).map (zc ad))) := by
  obtain ⟨hx, hb, hml, hown, hts, hini, hK, -, hA, -⟩ := C
  obtain ⟨rfl, hl⟩ := ho
  obtain ⟨hP, hD, hn, hI⟩ := P
  refine va_newa (atype := .long) (a0 := (zN g.1, .inr (.inl (fun _ => 0)))) hx hb (hts _ hl) (ty := .long) rfl hK hP hD hS hA (N' := zN g.1) (fun _ => rfl) h3 h4 (by show zN g.1 * 8 ≤ _; omega) hc hs hd (fun q cA H1 k1 q1 q2 q3 => ?_)
  have e1 := (k1.2 4 (cA, .long) rfl).2
  have e2 := (k1.2 1 (ty 1, .long) rfl).2
  obtain rfl : cA = ty 1 := zK_arr (t := .long) e1 e2
  exact k q H1 (znew_pic h1 hI (by rw [zE_lng h2]; simp [zw0]) q1 q2) q3
theorem zo_newaz (C : zfix p s m args meth c A M D ty ad sc) (hS : va_S A s.heap H locs) (hd : decode (zby M) pc = .ok (.newarray .boolean, len)) (ho : zopk M pc (.newarray .boolean) len a b v) (P : zpic D ty ad A g S H) (h1 : g.1 < zNC) (h2 : zK g.1 = 3) (h3 : ¬ x < 0) (h4 : x.toNatClampNeg = zN g.1)
    (hc : cells + 1 ≤ R.cells) (hs : slots + zN g.1 ≤ R.slots) (hbg : zN g.1 ≤ 1000)
    (k : ∀ q H1, zpic D ty (zad ad g.1 q) A (g.1 + 1, zfn g) (zw0 S g.1) H1 → va_S A s.heap H1 locs → W p l e R s m args below meth c H1 locs (cells + 1) (slots + zN g.1) Q (F0 m (pc + len) ls (.ref q :: r.map (zc ad)))) : W p l e R s m args below meth c H locs cells slots Q (F0 m pc ls ((Value.int x :: r).map (zc ad))) := by
  obtain ⟨hx, hb, hml, hown, hts, hini, hK, -, hA, -⟩ := C
  obtain ⟨rfl, hl⟩ := ho
  obtain ⟨hP, hD, hn, hI⟩ := P
  refine va_newa (atype := .boolean) (a0 := (zN g.1, .inl (fun _ => 0))) hx hb (hts _ hl) (ty := .boolean) rfl hK hP hD hS hA (N' := zN g.1) (fun _ => rfl) h3 h4 (by show zN g.1 * 1 ≤ _; omega) hc hs hd (fun q cA H1 k1 q1 q2 q3 => ?_)
  have e1 := (k1.2 4 (cA, .boolean) rfl).2
  have e2 := (k1.2 2 (ty 2, .boolean) rfl).2
  obtain rfl : cA = ty 2 := zK_arr (t := .boolean) e1 e2
  exact k q H1 (znew_pic h1 hI (by rw [zE_boo h2]; simp [zw0]) q1 q2) q3
theorem zo_newaq {j : Nat} (C : zfix p s m args meth c A M D ty ad sc) (hS : va_S A s.heap H locs) (hd : decode (zby M) pc = .ok (.anewarray j, len)) (ho : zopk M pc (.anewarray j) len a b v) (P : zpic D ty ad A g S H) (h1 : g.1 < zNC) (h2 : zK g.1 = 4) (h3 : ¬ x < 0) (h4 : x.toNatClampNeg = zN g.1)
    (hc : cells + 1 ≤ R.cells) (hs : slots + zN g.1 ≤ R.slots) (hbg : zN g.1 ≤ 1000)
    (k : ∀ q H1, zpic D ty (zad ad g.1 q) A (g.1 + 1, zfn g) (zw0 S g.1) H1 → va_S A s.heap H1 locs → W p l e R s m args below meth c H1 locs (cells + 1) (slots + zN g.1) Q (F0 m (pc + len) ls (.ref q :: r.map (zc ad)))) : W p l e R s m args below meth c H locs cells slots Q (F0 m pc ls ((Value.int x :: r).map (zc ad))) := by
  obtain ⟨hx, hb, hml, hown, hts, hini, hK, -, hA, -, hO⟩ := C
  obtain ⟨rfl, hl1⟩ := ho
  obtain ⟨hP, hD, hn, hI⟩ := P
  refine va_newq hx hb hown (hts _ hl1) hO.1 hK hP hD hS hA (N' := zN g.1) h3 h4 (by omega) hc hs hd (fun q cA H1 k1 q1 q2 q3 => ?_)
  have e1 := (k1.2 4 (cA, .object zR6) rfl).2
  have e2 := (k1.2 3 (ty 3, .object zR6) rfl).2
  obtain ⟨-, -, -, -, -, e1⟩ := e1
  obtain ⟨-, -, -, -, -, e2⟩ := e2
  obtain rfl : cA = ty 3 := zK_arr e1 e2
  refine k q H1 (znew_pic h1 hI ?_ q1 q2) q3
  have hf : zQf (zad ad g.1 q) (zfn g) g.1 = fun _ => none := by
    funext j
    unfold zQf
    cases zF g.1 j with
    | some t => simp [zfn_at]
    | none => rfl
  rw [zE_ref h2, hf]
-- branches
theorem zo_if {cd : Jvm.ClassFile.Cond} {f : Int} (C : zfix p s m args meth c A M D ty ad sc) (hd : decode (zby M) pc = .ok (.ifCond cd f, len)) (ho : zopk M pc (.ifCond cd f) len a b v) {Pp : Prop} (hP : Pp = match cd with | .eq => x = 0 | .ne => ¬ x = 0 | .lt => x < 0 | .ge => 0 ≤ x | .gt => 0 < x | .le => x ≤ 0)
    (kt : Pp → W p l e R s m args below meth c H locs cells slots Q (F0 m a ls (r.map (zc ad)))) (kf : ¬ Pp → W p l e R s m args below meth c H locs cells slots Q (F0 m (pc + len) ls (r.map (zc ad)))) : W p l e R s m args below meth c H locs cells slots Q (F0 m pc ls ((Value.int x :: r).map (zc ad))) := by
  obtain ⟨rfl, ht⟩ := ho
  subst hP
  cases cd with
  | eq => exact lv_if_eq C.1 C.2.1 hd ht kt kf
  | ne => exact lv_if_ne C.1 C.2.1 hd ht kt (fun h => kf (fun q => q h))
  | lt => exact lv_if_lt C.1 C.2.1 hd ht kt kf
  | ge => exact lv_if_ge C.1 C.2.1 hd ht kt kf
  | gt => exact lv_if_gt C.1 C.2.1 hd ht kt kf
  | le => exact lv_if_le C.1 C.2.1 hd ht kt kf
theorem zo_icmp {cd : Jvm.ClassFile.Cond} {f : Int} (C : zfix p s m args meth c A M D ty ad sc) (hd : decode (zby M) pc = .ok (.if_icmp cd f, len)) (ho : zopk M pc (.if_icmp cd f) len a b v) {Pp : Prop} (hP : Pp = match cd with | .eq => x = y | .ne => ¬ x = y | .lt => x < y | .ge => y ≤ x | .gt => y < x | .le => x ≤ y)
    (kt : Pp → W p l e R s m args below meth c H locs cells slots Q (F0 m a ls (r.map (zc ad)))) (kf : ¬ Pp → W p l e R s m args below meth c H locs cells slots Q (F0 m (pc + len) ls (r.map (zc ad)))) : W p l e R s m args below meth c H locs cells slots Q (F0 m pc ls ((Value.int y :: Value.int x :: r).map (zc ad))) := by
  obtain ⟨rfl, ht⟩ := ho
  subst hP
  cases cd with
  | eq => exact lv_icmp_eq C.1 C.2.1 hd ht kt kf
  | ne => exact lv_icmp_ne C.1 C.2.1 hd ht kt (fun h => kf (fun q => q h))
  | lt => exact lv_icmp_lt C.1 C.2.1 hd ht kt kf
  | ge => exact lv_icmp_ge C.1 C.2.1 hd ht kt kf
  | gt => exact lv_icmp_gt C.1 C.2.1 hd ht kt kf
  | le => exact lv_icmp_le C.1 C.2.1 hd ht kt kf
theorem zo_copyi {j : Nat} {sp dp n : Int32} {d0 : Nat} (C : zfix p s m args meth c A M D ty ad sc) (hS : va_S A s.heap H locs) (hls : ls.size = zml M) (hd : decode (zby M) pc = .ok (.invokestatic j, len)) (hl3 : len = 3) (hl : Cond.methodLink (zcn (zow M)) j arraycopyName ∈ zTs ∧ Cond.native arraycopyName ∈ zTs ∧ Cond.static arraycopyName ∈ zTs ∧ Cond.initialized "java/lang/System" ∈ zTs)
    (P : zpic D ty ad A g S H) (h1 : c0 < g.1) (h2 : d0 < g.1) (h3 : zK c0 = 1) (h4 : zK d0 = 1) (hR : 1 ≤ R.frames) (hR2 : 60 ≤ R.locals) (hr : ((r.map (zc ad)).map fun v => v.category).sum ≤ 8)
    (hq : ¬ (sp < 0 ∨ dp < 0 ∨ n < 0 ∨ zN c0 < sp.toNatClampNeg + n.toNatClampNeg ∨ zN d0 < dp.toNatClampNeg + n.toNatClampNeg))
    (k : ∀ H1 locs1, zpic D ty ad A g (zwc1 S d0 (va_cpy (S.1 c0) (S.1 d0) sp.toNatClampNeg dp.toNatClampNeg n.toNatClampNeg)) H1 → va_S A s.heap H1 locs1 → W p l e R s m args below meth c H1 locs1 cells slots Q (F0 m (pc + len) ls (r.map (zc ad)))) :
    W p l e R s m args below meth c H locs cells slots Q (F0 m pc ls ((Value.int n :: Value.int dp :: Value.ref d0 :: Value.int sp :: Value.ref c0 :: r).map (zc ad))) := by
  obtain ⟨hx, hb, hml, hown, hts, hini, hK, -, hA, -⟩ := C
  subst hl3
  obtain ⟨l1, l2, l3, l4⟩ := hl
  obtain ⟨hP, hD, hn, hI⟩ := P
  simp only [not_or, Nat.not_lt] at hq
  obtain ⟨q1, q2, q3, q4, q5⟩ := hq
  refine va_copyi hx hb (by rw [hml, hls]) hown (hts _ l1) (hts _ l2) (hts _ l3) (hts _ l4) hK hP hD hS c0 d0 0 0 (by rw [zW_get h1, zE_int h3]) (by rw [zW_get h2, zE_int h4]) rfl rfl rfl q1 q2 q3 q4 q5 (fun _ _ => rfl) hR ?_ hd (fun H1 locs1 p1 p2 p3 => ?_)
  · have : nativeFrameWords "java/lang/System" "arraycopy" 5 ≤ 20 := by decide +kernel
    omega
  · have hset := zW_set (ad := ad) (ty := ty) (g := g) (g2 := g) (S := S) (S2 := zwc1 S d0 (va_cpy (S.1 c0) (S.1 d0) sp.toNatClampNeg dp.toNatClampNeg n.toNatClampNeg)) (c := d0) rfl (zE_int h4) (fun d hd _ => zE_ad (by simp [zwc1, hd]) rfl (fun _ => rfl) (fun _ _ _ _ => rfl))
    rw [show (zwc1 S d0 (va_cpy (S.1 c0) (S.1 d0) sp.toNatClampNeg dp.toNatClampNeg n.toNatClampNeg)).1 d0 = va_cpy (S.1 c0) (S.1 d0) sp.toNatClampNeg dp.toNatClampNeg n.toNatClampNeg by simp [zwc1]] at hset
    rw [hset] at p1 p2
    exact k H1 locs1 ⟨p1, p2, hn, hI⟩ p3
theorem zo_copyl {j : Nat} {sp dp n : Int32} {d0 : Nat} (C : zfix p s m args meth c A M D ty ad sc) (hS : va_S A s.heap H locs) (hls : ls.size = zml M) (hd : decode (zby M) pc = .ok (.invokestatic j, len)) (hl3 : len = 3) (hl : Cond.methodLink (zcn (zow M)) j arraycopyName ∈ zTs ∧ Cond.native arraycopyName ∈ zTs ∧ Cond.static arraycopyName ∈ zTs ∧ Cond.initialized "java/lang/System" ∈ zTs)
    (P : zpic D ty ad A g S H) (h1 : c0 < g.1) (h2 : d0 < g.1) (h3 : zK c0 = 2) (h4 : zK d0 = 2) (hR : 1 ≤ R.frames) (hR2 : 60 ≤ R.locals) (hr : ((r.map (zc ad)).map fun v => v.category).sum ≤ 8)
    (hq : ¬ (sp < 0 ∨ dp < 0 ∨ n < 0 ∨ zN c0 < sp.toNatClampNeg + n.toNatClampNeg ∨ zN d0 < dp.toNatClampNeg + n.toNatClampNeg))
    (k : ∀ H1 locs1, zpic D ty ad A g (zwc2 S d0 (va_cpy (S.2 c0) (S.2 d0) sp.toNatClampNeg dp.toNatClampNeg n.toNatClampNeg)) H1 → va_S A s.heap H1 locs1 → W p l e R s m args below meth c H1 locs1 cells slots Q (F0 m (pc + len) ls (r.map (zc ad)))) :
    W p l e R s m args below meth c H locs cells slots Q (F0 m pc ls ((Value.int n :: Value.int dp :: Value.ref d0 :: Value.int sp :: Value.ref c0 :: r).map (zc ad))) := by
  obtain ⟨hx, hb, hml, hown, hts, hini, hK, -, hA, -⟩ := C
  subst hl3
  obtain ⟨l1, l2, l3, l4⟩ := hl
  obtain ⟨hP, hD, hn, hI⟩ := P
  simp only [not_or, Nat.not_lt] at hq
  obtain ⟨q1, q2, q3, q4, q5⟩ := hq
  refine va_copyl hx hb (by rw [hml, hls]) hown (hts _ l1) (hts _ l2) (hts _ l3) (hts _ l4) hK hP hD hS c0 d0 1 1 (by rw [zW_get h1, zE_lng h3]) (by rw [zW_get h2, zE_lng h4]) rfl rfl rfl q1 q2 q3 q4 q5 (fun _ _ => rfl) hR ?_ hd (fun H1 locs1 p1 p2 p3 => ?_)
  · have : nativeFrameWords "java/lang/System" "arraycopy" 5 ≤ 20 := by decide +kernel
    omega
  · have hset := zW_set (ad := ad) (ty := ty) (g := g) (g2 := g) (S := S) (S2 := zwc2 S d0 (va_cpy (S.2 c0) (S.2 d0) sp.toNatClampNeg dp.toNatClampNeg n.toNatClampNeg)) (c := d0) rfl (zE_lng h4) (fun d hd _ => zE_ad rfl (by simp [zwc2, hd]) (fun _ => rfl) (fun _ _ _ _ => rfl))
    rw [show (zwc2 S d0 (va_cpy (S.2 c0) (S.2 d0) sp.toNatClampNeg dp.toNatClampNeg n.toNatClampNeg)).2 d0 = va_cpy (S.2 c0) (S.2 d0) sp.toNatClampNeg dp.toNatClampNeg n.toNatClampNeg by simp [zwc2]] at hset
    rw [hset] at p1 p2
    exact k H1 locs1 ⟨p1, p2, hn, hI⟩ p3
end ZRows3
