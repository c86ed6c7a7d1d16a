/-! ===== what the small machine does, the real machine does ===== -/
def zend (M pc : Nat) (v : Option Value) : Prop :=
  match v with
  | some (.int x) => decode (zby M) pc = .ok (.ireturn, 1) ∧ (zrk M = 1 ∨ (zrk M = 4 ∧ (x = 0 ∨ x = 1)))
  | some (.long _) => decode (zby M) pc = .ok (.lreturn, 1) ∧ zrk M = 2
  | none => decode (zby M) pc = .ok (.return_, 1) ∧ zrk M = 0
  | _ => False
def zagr (n : Nat) (ad ad' : Nat → Nat) : Prop := (∀ q, q < n ∨ 999 < q → ad' q = ad q) ∧ (n = zNC → ad' = ad)
def zGo (l : Launch) (D : va_G) (ty : Nat → ClassId) (sc : zSc) (x : zX) (r : zR) : Prop :=
  ∀ (p : Program) (e : Env) (R : Room) (s : State) (m : MethodId) (args : Array Value) (below : List Frame) (meth : Method) (c : Code) (Q : State → Prop) (A : Nat → Prop) (ad : Nat → Nat) (H : Heap) (locs : List Loc) (ls : Array Slot) (cells slots : Nat),
    zfix p s m args meth c A x.2.1.1 D ty ad sc → zpic D ty ad A x.1 x.2.2.2.1 H → va_S A s.heap H locs → zlh ad (zml x.2.1.1) x.2.2.2.2.1 ls → zone (zpn x.2.1.1) x.2.2.2.2.1 → x.2.1.2 ≤ R.frames → x.2.1.2 * 60 ≤ R.locals →
    cells + (r.2.1.1 - x.1.1) ≤ R.cells → slots + (zSl r.2.1.1 - zSl x.1.1) ≤ R.slots →
    (∀ (ad' : Nat → Nat) (H' : Heap) (locs' : List Loc) (ls' : Array Slot) (pc' : Nat), zagr x.1.1 ad ad' → zpic D ty ad' A r.2.1 r.2.2 H' → va_S A s.heap H' locs' → zend x.2.1.1 pc' r.1 →
      W p l e R s m args below meth c H' locs' (cells + (r.2.1.1 - x.1.1)) (slots + (zSl r.2.1.1 - zSl x.1.1)) Q (F0 m pc' ls' r.1.toList)) →
    W p l e R s m args below meth c H locs cells slots Q (F0 m x.2.2.1 ls (x.2.2.2.2.2.map (zc ad)))
-- the slots of the cells below a number
theorem zSl_mono_tab : ∀ c, c < 75 → ∀ d, d < c + 1 → zSl d ≤ zSl c := by decide +kernel
theorem zSl_mono {c d : Nat} (h : d ≤ c) (hc : c ≤ 74) : zSl d ≤ zSl c := zSl_mono_tab c (by omega) d (by omega)
theorem zt_big : ∀ c, c < 74 → zN c ≤ 1000 := by decide +kernel
theorem zbb {k i : Nat} {c : Bool} {α : Type} {x : Option α} {y : α} (h : cond (!(Nat.ble k i) || !c) none x = some y) : k ≤ i ∧ c = true ∧ x = some y := by
  cases hb : Nat.ble k i with
  | false => rw [hb] at h; cases h
  | true =>
    rw [hb] at h
    rw [Nat.ble_eq] at hb
    cases c with
    | true => exact ⟨hb, rfl, h⟩
    | false => cases h
theorem zsw_ok (x : Int32) (d : Nat) : ∀ (l : List (Int32 × Nat)) (k : Nat) (q : Int32 × Nat), l[k]? = some q → x = q.1 → (∀ j p, j < k → l[j]? = some p → x ≠ p.1) → zsw x d l = q.2 := by
  intro l
  induction l with
  | nil => intro k q h; simp at h
  | cons p r ih =>
    intro k q h hx hn
    rw [zsw]
    cases k with
    | zero => simp at h; subst h; rw [if_pos hx]
    | succ k =>
      rw [if_neg (hn 0 p (by omega) (by simp))]
      exact ih k q (by simpa using h) hx (fun j p hj hp => hn (j + 1) p (by omega) (by simpa using hp))
theorem zsw_no (x : Int32) (d : Nat) : ∀ (l : List (Int32 × Nat)), (∀ p ∈ l, x ≠ p.1) → zsw x d l = d := by
  intro l
  induction l with
  | nil => intro _; rfl
  | cons p r ih =>
    intro h
    rw [zsw, if_neg (h p List.mem_cons_self)]
    exact ih fun q hq => h q (List.mem_cons_of_mem _ hq)
theorem ztab_get (pc : Nat) : ∀ (l : List Int) (lo : Int) (k : Nat), (ztab pc lo l)[k]? = l[k]?.map (fun o => (Int32.ofInt (lo + k), ((pc : Int) + o).toNat)) := by
  intro l
  induction l with
  | nil => intro lo k; rfl
  | cons o r ih =>
    intro lo k
    cases k with
    | zero => simp [ztab]
    | succ k =>
      rw [ztab, List.getElem?_cons_succ, ih, List.getElem?_cons_succ]
      congr 1
      funext o
      rw [show lo + 1 + (k : Int) = lo + ((k + 1 : Nat) : Int) by omega]
theorem zofInt {a : Int} (h1 : -100000 ≤ a) (h2 : a ≤ 100000) : (Int32.ofInt a).toInt = a := by
  rw [Int32.toInt_ofInt]
  have hz : (Int32.size : Int) = 4294967296 := rfl
  exact Int.bmod_eq_of_le (by omega) (by omega)
section ZSound
variable {l : Launch} {D : va_G} {ty : Nat → ClassId} {sc : zSc} {p : Program} {e : Env} {R : Room} {s : State} {m : MethodId} {args : Array Value} {below : List Frame} {meth : Method} {c : Code} {H : Heap} {locs : List Loc} {cells slots : Nat} {Q : State → Prop} {ad : Nat → Nat} {A : Nat → Prop} {ls : Array Slot} {M pc len a b : Nat} {v : Int32} {r : List Value} {g : zG} {S : zS}
theorem zo_table {d lo hi : Int} {offs : Array Int} {x : Int32} (C : zfix p s m args meth c A M D ty ad sc) (hd : decode (zby M) pc = .ok (.tableswitch d lo hi offs, len)) (ho : zopk M pc (.tableswitch d lo hi offs) len a b v)
    (k : W p l e R s m args below meth c H locs cells slots Q (F0 m (zsw x ((pc : Int) + d).toNat (ztab pc lo offs.toList)) ls (r.map (zc ad)))) : W p l e R s m args below meth c H locs cells slots Q (F0 m pc ls ((Value.int x :: r).map (zc ad))) := by
  obtain ⟨h1, h2, h3, h4, h5⟩ := ho
  by_cases hin : x.toInt < lo ∨ hi < x.toInt
  · rw [zsw_no] at k
    · exact lv_tableOut C.1 C.2.1 hd hin (by omega) k
    · intro q hq hx
      obtain ⟨j, hj⟩ := List.getElem?_of_mem hq
      rw [ztab_get] at hj
      obtain ⟨o, ho, hq2⟩ := Option.map_eq_some_iff.mp hj
      have hlt : j < offs.toList.length := (List.getElem?_eq_some_iff.mp ho).1
      rw [Array.length_toList] at hlt
      rw [← hq2] at hx
      dsimp only at hx
      rw [hx, zofInt (by omega) (by omega)] at hin
      omega
  · have hlt : (x.toInt - lo).toNat < offs.toList.length := by rw [Array.length_toList]; omega
    obtain ⟨o, ho⟩ : ∃ o, offs.toList[(x.toInt - lo).toNat]? = some o := ⟨_, List.getElem?_eq_getElem hlt⟩
    have h7 := h3 o (List.mem_of_getElem? ho)
    have hx : x = Int32.ofInt (lo + ((x.toInt - lo).toNat : Nat)) := by
      rw [show lo + (((x.toInt - lo).toNat : Nat) : Int) = x.toInt by omega, Int32.ofInt_toInt]
    rw [zsw_ok x _ _ (x.toInt - lo).toNat (Int32.ofInt (lo + ((x.toInt - lo).toNat : Nat)), ((pc : Int) + o).toNat) (by rw [ztab_get, ho]; rfl) hx] at k
    · exact lv_tableIn (off := o) C.1 C.2.1 hd (by omega) (by omega) (by rw [← Array.getElem?_toList]; exact ho) (by omega) k
    · intro j q hj hq hxq
      rw [ztab_get] at hq
      obtain ⟨o2, ho2, hq2⟩ := Option.map_eq_some_iff.mp hq
      rw [← hq2] at hxq
      dsimp only at hxq
      have hb : (Int32.ofInt (lo + (j : Int))).toInt = lo + j := zofInt (by omega) (by omega)
      rw [← hxq] at hb
      omega
theorem zlks_ok {x : Int32} {d : Int} {pc : Nat} (hd0 : 0 ≤ (pc : Int) + d) : ∀ ps : List (Int × Int), (∀ q ∈ ps, 0 ≤ (pc : Int) + q.2 ∧ -1000 ≤ q.1 ∧ q.1 ≤ 1000) → (pc : Int) + Op.lookupswitch.offset ps d x.toInt = ((zsw x ((pc : Int) + d).toNat (zlks pc ps) : Nat) : Int) := by
  intro ps
  induction ps with
  | nil =>
    intro _
    show (pc : Int) + d = _
    rw [zlks, zsw]
    omega
  | cons q r ih =>
    intro h
    obtain ⟨k, o⟩ := q
    obtain ⟨h1, h2, h3⟩ := h (k, o) List.mem_cons_self
    dsimp only at h1 h2 h3
    rw [zlks, zsw]
    by_cases hx : x = Int32.ofInt k
    · rw [if_pos hx]
      have : x.toInt = k := by rw [hx]; exact zofInt (by omega) (by omega)
      rw [this]
      have : Op.lookupswitch.offset ((k, o) :: r) d k = o := by simp [Op.lookupswitch.offset]
      rw [this]
      omega
    · rw [if_neg hx, lv_osw hx (zofInt (by omega) (by omega))]
      exact ih fun q hq => h q (List.mem_cons_of_mem _ hq)
theorem zo_look {d : Int} {ps : Array (Int × Int)} {x : Int32} (C : zfix p s m args meth c A M D ty ad sc) (hd : decode (zby M) pc = .ok (.lookupswitch d ps, len)) (ho : zopk M pc (.lookupswitch d ps) len a b v)
    (k : W p l e R s m args below meth c H locs cells slots Q (F0 m (zsw x ((pc : Int) + d).toNat (zlks pc ps.toList)) ls (r.map (zc ad)))) : W p l e R s m args below meth c H locs cells slots Q (F0 m pc ls ((Value.int x :: r).map (zc ad))) := by
  obtain ⟨h1, h2, h3⟩ := ho
  exact lv_lookup C.1 C.2.1 hd h1 rfl (zlks_ok h2 ps.toList h3) k
end ZSound
