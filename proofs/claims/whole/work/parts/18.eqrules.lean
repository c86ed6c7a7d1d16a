/-! ===== rules for the equations of the methods ===== -/
theorem zOut_none {sc : zSc} {x : zX} (h : zdec sc x = none) : zOut sc x = none := by
  cases ho : zOut sc x with
  | none => rfl
  | some r =>
    obtain ⟨n, hn⟩ := zOut_iff.mp ho
    cases n with
    | zero => cases hn
    | succ n => rw [zrun, h] at hn; cases hn
noncomputable def zO {γ : Type} (get : zR → Option γ) (sc : zSc) (x : zX) : Option γ := (zOut sc x).bind get
def zgI (r : zR) : Option (Int32 × zS) := match r.1 with | some (.int v) => some (v, r.2.2) | _ => none
def zgL (r : zR) : Option (Int64 × zS) := match r.1 with | some (.long v) => some (v, r.2.2) | _ => none
def zgV (r : zR) : Option zS := match r.1 with | none => some r.2.2 | _ => none
noncomputable def zcI (sc : zSc) (M : Nat) (as : List Value) (S : zS) : Option (Int32 × zS) := zO zgI sc (zg1, (M, zlv M as S), 0, S, zloc (zml M) as, [])
noncomputable def zcL (sc : zSc) (M : Nat) (as : List Value) (S : zS) : Option (Int64 × zS) := zO zgL sc (zg1, (M, zlv M as S), 0, S, zloc (zml M) as, [])
noncomputable def zcV (sc : zSc) (M : Nat) (as : List Value) (S : zS) : Option zS := zO zgV sc (zg1, (M, zlv M as S), 0, S, zloc (zml M) as, [])
/-- what a call must meet, but for the level -/
def zcb (g : zG) (lv : List (Option Value)) (a : Nat) (args rest : List Value) : Bool :=
  Nat.beq args.length (zna a) && (zst a || zrcv g (zow a) args) && (Nat.ble (zsum args) (zpn a) || args.all (fun v => znl (some v))) && Nat.ble (zsum args) (zml a) && Nat.ble (zsum rest) 8 && (Nat.beq g.1 zNC || (lv.all (zrefoko g.1) && rest.all (zrefok g.1))) && args.all (zrefok g.1)
theorem zcall_eq (g : zG) (ML : Nat × Nat) (pc : Nat) (S : zS) (lv : List (Option Value)) (a : Nat) (args rest : List Value) : zcall g ML pc S lv a args rest = cond (zcb g lv a args rest && Nat.blt (zlv a args S) ML.2) (some (.inr (.inr ((g, (a, zlv a args S), 0, S, zloc (zml a) args, []), zres g ML pc lv rest (zrk a))))) none := rfl
section EqRules
variable {γ : Type} {get : zR → Option γ} {sc : zSc} {x : zX}
theorem zs_at (n : Nat) (x : zX) : zO get sc x = zO get sc (zadv sc n x) := congrArg (fun o => Option.bind o get) (zOut_adv n x)
theorem zs_ret (n : Nat) {r : zR} {o : Option γ} (h : zdec sc (zadv sc n x) = some (.inr (.inl r))) (ho : get r = o := by rfl) : zO get sc x = o := by
  rw [zs_at n x, zO, zOut_ret h]; exact ho
theorem zs_retb (n : Nat) {c : Prop} {i : Decidable c} {r : zR} {o : Option γ} (h : zdec sc (zadv sc n x) = @ite _ c i (some (.inr (.inl r))) none) (ho : get r = o := by rfl) : zO get sc x = @ite _ c i o none := by
  by_cases hc : c
  · rw [if_pos hc] at h ⊢; exact zs_ret n h ho
  · rw [if_neg hc] at h ⊢; rw [zs_at n x, zO, zOut_none h]; rfl
theorem zs_ite (n : Nat) (g : zG) (ML : Nat × Nat) (S : zS) (lv : List (Option Value)) (st : List Value) (t e : Nat) {c : Prop} {i : Decidable c} {E1 E2 : Option γ} (h : zadv sc n x = (g, ML, @ite _ c i t e, S, lv, st)) (h1 : zO get sc (g, ML, t, S, lv, st) = E1) (h2 : zO get sc (g, ML, e, S, lv, st) = E2) : zO get sc x = @ite _ c i E1 E2 := by
  rw [zs_at n x, h]
  cases i with
  | isTrue hc => exact h1
  | isFalse hc => exact h2
theorem zs_bnd (n : Nat) (y : zX) {c : Prop} {i : Decidable c} {E : Option γ} (h : zdec sc (zadv sc n x) = @ite _ c i none (some (.inl y))) (h1 : zO get sc y = E) : zO get sc x = @ite _ c i none E := by
  rw [zs_at n x]
  by_cases hc : c
  · rw [if_pos hc] at h ⊢; rw [zO, zOut_none h]; rfl
  · rw [if_neg hc] at h ⊢; rw [zO, zOut_next h]; exact h1
theorem zs_sw {v k : Int32} {t d : Nat} {r : List (Int32 × Nat)} {g : zG} {ML : Nat × Nat} {S : zS} {lv : List (Option Value)} {st : List Value} {E1 E2 : Option γ} (h1 : zO get sc (g, ML, t, S, lv, st) = E1) (h2 : zO get sc (g, ML, zsw v d r, S, lv, st) = E2) :
    zO get sc (g, ML, zsw v d ((k, t) :: r), S, lv, st) = if v = k then E1 else E2 := by
  rw [zsw]
  by_cases h : v = k
  · rw [if_pos h, if_pos h]; exact h1
  · rw [if_neg h, if_neg h]; exact h2
theorem zs_ci (n : Nat) (a : Nat) (as : List Value) (S : zS) (ML : Nat × Nat) (pc : Nat) (lv : List (Option Value)) (rest : List Value) {E : Int32 × zS → Option γ}
    (h : zdec sc (zadv sc n x) = some (.inr (.inr ((zg1, (a, zlv a as S), 0, S, zloc (zml a) as, []), zres zg1 ML pc lv rest (zrk a))))) (h2 : ∀ q : Int32 × zS, zO get sc (zg1, ML, pc, q.2, lv, .int q.1 :: rest) = E q)
    (hk : zres zg1 ML pc lv rest (zrk a) = fun r => match r.1 with | some (.int v) => some (zg1, ML, pc, r.2.2, lv, .int v :: rest) | _ => none := by rfl) : zO get sc x = (zcI sc a as S).bind E := by
  rw [zs_at n x, zO, zOut_call h, hk, zcI, zO, Option.bind_assoc, Option.bind_assoc]
  congr 1
  funext r
  obtain ⟨v, gg, S'⟩ := r
  cases v with
  | none => rfl
  | some w => cases w <;> first | exact h2 (_, _) | rfl
theorem zs_cl (n : Nat) (a : Nat) (as : List Value) (S : zS) (ML : Nat × Nat) (pc : Nat) (lv : List (Option Value)) (rest : List Value) {E : Int64 × zS → Option γ}
    (h : zdec sc (zadv sc n x) = some (.inr (.inr ((zg1, (a, zlv a as S), 0, S, zloc (zml a) as, []), zres zg1 ML pc lv rest (zrk a))))) (h2 : ∀ q : Int64 × zS, zO get sc (zg1, ML, pc, q.2, lv, .long q.1 :: rest) = E q)
    (hk : zres zg1 ML pc lv rest (zrk a) = fun r => match r.1 with | some (.long v) => some (zg1, ML, pc, r.2.2, lv, .long v :: rest) | _ => none := by rfl) : zO get sc x = (zcL sc a as S).bind E := by
  rw [zs_at n x, zO, zOut_call h, hk, zcL, zO, Option.bind_assoc, Option.bind_assoc]
  congr 1
  funext r
  obtain ⟨v, gg, S'⟩ := r
  cases v with
  | none => rfl
  | some w => cases w <;> first | exact h2 (_, _) | rfl
theorem zs_cv (n : Nat) (a : Nat) (as : List Value) (S : zS) (ML : Nat × Nat) (pc : Nat) (lv : List (Option Value)) (rest : List Value) {E : zS → Option γ}
    (h : zdec sc (zadv sc n x) = some (.inr (.inr ((zg1, (a, zlv a as S), 0, S, zloc (zml a) as, []), zres zg1 ML pc lv rest (zrk a))))) (h2 : ∀ q : zS, zO get sc (zg1, ML, pc, q, lv, rest) = E q)
    (hk : zres zg1 ML pc lv rest (zrk a) = fun r => match r.1 with | none => some (zg1, ML, pc, r.2.2, lv, rest) | _ => none := by rfl) : zO get sc x = (zcV sc a as S).bind E := by
  rw [zs_at n x, zO, zOut_call h, hk, zcV, zO, Option.bind_assoc, Option.bind_assoc]
  congr 1
  funext r
  obtain ⟨v, gg, S'⟩ := r
  cases v with
  | none => exact h2 S'
  | some w => rfl
theorem zs_di (n : Nat) (a : Nat) (as : List Value) (S : zS) (ML : Nat × Nat) (pc : Nat) (lv : List (Option Value)) (rest : List Value) {E : Int32 × zS → Option γ}
    (h : zdec sc (zadv sc n x) = zcall zg1 ML pc S lv a as rest) (h0 : zcb zg1 lv a as rest = true)
    (h2 : ∀ q : Int32 × zS, zO get sc (zg1, ML, pc, q.2, lv, .int q.1 :: rest) = E q)
    (hk : zres zg1 ML pc lv rest (zrk a) = fun r => match r.1 with | some (.int v) => some (zg1, ML, pc, r.2.2, lv, .int v :: rest) | _ => none := by rfl) : zO get sc x = if zlv a as S < ML.2 then (zcI sc a as S).bind E else none := by
  obtain ⟨M, L⟩ := ML
  rw [zcall_eq, h0, Bool.true_and] at h
  by_cases hl : zlv a as S < L
  · rw [if_pos hl]
    refine zs_ci n a as S (M, L) pc lv rest ?_ h2 hk
    rw [h, (by rw [Nat.blt_eq]; exact hl : Nat.blt (zlv a as S) (M, L).2 = true)]
    rfl
  · rw [if_neg hl, zs_at n x, zO, zOut_none]
    · rfl
    · have : Nat.blt (zlv a as S) (M, L).2 = false := by
        cases hb : Nat.blt (zlv a as S) (M, L).2 with
        | false => rfl
        | true => rw [Nat.blt_eq] at hb; exact absurd hb hl
      rw [h, this]
      rfl
theorem zs_dv (n : Nat) (a : Nat) (as : List Value) (S : zS) (ML : Nat × Nat) (pc : Nat) (lv : List (Option Value)) (rest : List Value) {E : zS → Option γ}
    (h : zdec sc (zadv sc n x) = zcall zg1 ML pc S lv a as rest) (h0 : zcb zg1 lv a as rest = true)
    (h2 : ∀ q : zS, zO get sc (zg1, ML, pc, q, lv, rest) = E q)
    (hk : zres zg1 ML pc lv rest (zrk a) = fun r => match r.1 with | none => some (zg1, ML, pc, r.2.2, lv, rest) | _ => none := by rfl) : zO get sc x = if zlv a as S < ML.2 then (zcV sc a as S).bind E else none := by
  obtain ⟨M, L⟩ := ML
  rw [zcall_eq, h0, Bool.true_and] at h
  by_cases hl : zlv a as S < L
  · rw [if_pos hl]
    refine zs_cv n a as S (M, L) pc lv rest ?_ h2 hk
    rw [h, (by rw [Nat.blt_eq]; exact hl : Nat.blt (zlv a as S) (M, L).2 = true)]
    rfl
  · rw [if_neg hl, zs_at n x, zO, zOut_none]
    · rfl
    · have : Nat.blt (zlv a as S) (M, L).2 = false := by
        cases hb : Nat.blt (zlv a as S) (M, L).2 with
        | false => rfl
        | true => rw [Nat.blt_eq] at hb; exact absurd hb hl
      rw [h, this]
      rfl
end EqRules
/-- the state behind n instructions, written out -/
theorem zs_st {γ : Type} {get : zR → Option γ} {sc : zSc} {x : zX} (n : Nat) (y : zX) {E : Option γ} (h : zadv sc n x = y) (h1 : zO get sc y = E) : zO get sc x = E := by
  rw [zs_at n x, h]; exact h1
