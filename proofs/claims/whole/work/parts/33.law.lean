/-! ===== a text's codes, worked out ===== -/
def xop (a s b : Int32) : Int32 :=
  if s = 37 then (if b = 0 then 0 else a - a / b * b)
  else if s = 38 then (if a ≠ 0 ∧ b ≠ 0 then 1 else 0)
  else if s = 42 then a * b
  else if s = 43 then a + b
  else if s = 45 then a - b
  else if s = 47 then (if b = 0 then 0 else a / b)
  else if s = 60 then (if a < b then 1 else 0)
  else if s = 61 then (if a = b then 1 else 0)
  else if s = 62 then (if b < a then 1 else 0)
  else (if a ≠ 0 ∨ b ≠ 0 then 1 else 0)
abbrev xin (s : Int32) : Prop := s = 115 ∨ s = 103 ∨ s = 107 ∨ s = 112 ∨ s = 119 ∨ s = 108
def xnm (N : Nat → Int32) (s : Int32) : Int32 :=
  if s = 103 then N 1 else if s = 107 then N 2 else if s = 112 then N 3 else if s = 115 then N 0 else if s = 119 then N 4 else N 5
abbrev xis (s : Int32) : Prop := s = 37 ∨ s = 38 ∨ s = 42 ∨ s = 43 ∨ s = 45 ∨ s = 47 ∨ s = 60 ∨ s = 61 ∨ s = 62 ∨ s = 124
theorem s_named (sc : zSc) (S : zS) (s : Int32) : zcI sc zm_X3_named [.ref 6, .int s] S = some (xnm (S.1 8) s, S) := by
  rw [c_X3_named]
  unfold xnm
  repeat (first | rfl | split)
theorem s_isName (sc : zSc) (S : zS) (s : Int32) : zcI sc zm_X3_isName [.int s] S = some (zb (xin s), S) := by
  rw [c_X3_isName]
  by_cases h1 : s = 115
  · rw [if_pos h1, zb_t (Or.inl h1)]
  rw [if_neg h1]
  by_cases h2 : s = 103
  · rw [if_pos h2, zb_t (by unfold xin; simp [h2])]
  rw [if_neg h2]
  by_cases h3 : s = 107
  · rw [if_pos h3, zb_t (by unfold xin; simp [h3])]
  rw [if_neg h3]
  by_cases h4 : s = 112
  · rw [if_pos h4, zb_t (by unfold xin; simp [h4])]
  rw [if_neg h4]
  by_cases h5 : s = 119
  · rw [if_pos h5, zb_t (by unfold xin; simp [h5])]
  rw [if_neg h5]
  by_cases h6 : s = 108
  · rw [if_neg (fun q => q h6), zb_t (by unfold xin; simp [h6])]
  · rw [if_pos h6, zb_f (by unfold xin; simp [h1, h2, h3, h4, h5, h6])]
theorem s_workedOut (sc : zSc) (S : zS) (a s b : Int32) (h : xis s) : zcI sc zm_X3_workedOut [.int a, .int s, .int b] S = some (xop a s b, S) := by
  rw [c_X3_workedOut]
  rcases h with rfl | rfl | rfl | rfl | rfl | rfl | rfl | rfl | rfl | rfl
  · rw [if_pos rfl]
    show _ = some ((if b = 0 then 0 else a - a / b * b), S)
    by_cases hb : b = 0
    · rw [if_neg (fun q => q hb), if_pos hb]
    · rw [if_pos hb, if_neg hb, if_neg hb]
  · rw [if_neg (by decide), if_pos rfl]
    show _ = some ((if a ≠ 0 ∧ b ≠ 0 then 1 else 0), S)
    by_cases ha : a = 0
    · rw [if_pos ha, if_neg (fun q => q.1 ha)]
    · rw [if_neg ha]
      by_cases hb : b = 0
      · rw [if_pos hb, if_neg (fun q => q.2 hb)]
      · rw [if_neg hb, if_pos ⟨ha, hb⟩]
  · rfl
  · rfl
  · rfl
  · show (if b ≠ 0 then (if b = 0 then none else some (a / b, S)) else some ((0 : Int32), S)) = some ((if b = 0 then 0 else a / b), S)
    by_cases hb : b = 0
    · rw [if_neg (fun q => q hb), if_pos hb]
    · rw [if_pos hb, if_neg hb, if_neg hb]
  · show (if b ≤ a then some ((0 : Int32), S) else some ((1 : Int32), S)) = some ((if a < b then 1 else 0), S)
    by_cases hb : a < b
    · rw [if_pos hb, if_neg (by rw [zi_le]; rw [zi_lt] at hb; omega)]
    · rw [if_neg hb, if_pos (by rw [zi_le]; rw [zi_lt] at hb; omega)]
  · show (if a ≠ b then some ((0 : Int32), S) else some ((1 : Int32), S)) = some ((if a = b then 1 else 0), S)
    by_cases hb : a = b
    · rw [if_pos hb, if_neg (fun q => q hb)]
    · rw [if_neg hb, if_pos hb]
  · show (if a ≤ b then some ((0 : Int32), S) else some ((1 : Int32), S)) = some ((if b < a then 1 else 0), S)
    by_cases hb : b < a
    · rw [if_pos hb, if_neg (by rw [zi_le]; rw [zi_lt] at hb; omega)]
    · rw [if_neg hb, if_pos (by rw [zi_le]; rw [zi_lt] at hb; omega)]
  · show (if a ≠ 0 then some ((1 : Int32), S) else (if b = 0 then some ((0 : Int32), S) else some ((1 : Int32), S))) = some ((if a ≠ 0 ∨ b ≠ 0 then 1 else 0), S)
    by_cases ha : a = 0
    · rw [if_neg (fun q => q ha)]
      by_cases hb : b = 0
      · rw [if_pos hb, if_neg (fun q => q.elim (fun k => k ha) (fun k => k hb))]
      · rw [if_neg hb, if_pos (Or.inr hb)]
    · rw [if_pos ha, if_pos (Or.inl ha)]
/-- what a code does to the stack -/
def xgo (N : Nat → Int32) : List Int32 → List Int32 → Bool → Int32
  | [], _, _ => 0
  | c :: cs, st, cnt =>
    if -c = 63 then xgo N cs [] (decide (st.headD 0 ≠ 0))
    else if -c = 59 then (if cnt = true then st.headD 0 else xgo N cs [] true)
    else if -c = 33 ∨ -c = 126 then xgo N cs ((if -c = 33 then (if st.headD 0 = 0 then 1 else 0) else -(st.headD 0)) :: st.tail) cnt
    else if 0 ≤ c ∨ xin (-c) then xgo N cs ((if 0 ≤ c then c else xnm N (-c)) :: st) cnt
    else xgo N cs (xop (st.tail.headD 0) (-c) (st.headD 0) :: st.tail.tail) cnt
/-- the stack has what the codes take -/
def xok : List Int32 → Nat → Prop
  | [], _ => True
  | c :: cs, h =>
    if -c = 63 then xok cs 0
    else if -c = 59 then xok cs 0
    else if -c = 33 ∨ -c = 126 then 1 ≤ h ∧ xok cs h
    else if 0 ≤ c ∨ xin (-c) then xok cs (h + 1)
    else 2 ≤ h ∧ xis (-c) ∧ xok cs (h - 1)
def xst (f : Nat → Int32) : List Int32 → Prop
  | [] => True
  | v :: r => f r.length = v ∧ xst f r
def xcd (f : Nat → Int32) (a : Nat) : List Int32 → Prop
  | [] => True
  | c :: cs => f a = c ∧ xcd f (a + 1) cs
theorem xst_cg {f g : Nat → Int32} : ∀ (st : List Int32), (∀ j, j < st.length → g j = f j) → xst f st → xst g st
  | [], _, _ => trivial
  | v :: r, h, k => ⟨(h r.length (by simp)).trans k.1, xst_cg r (fun j hj => h j (by simp; omega)) k.2⟩
theorem xcd_cg {f g : Nat → Int32} (h : ∀ j, g j = f j) : ∀ (cs : List Int32) (a : Nat), xcd f a cs → xcd g a cs
  | [], _, _ => trivial
  | c :: cs, a, k => ⟨(h a).trans k.1, xcd_cg h cs (a + 1) k.2⟩
theorem xst_pop {f : Nat → Int32} : ∀ (st : List Int32), xst f st → xst f st.tail
  | [], _ => trivial
  | _ :: _, k => k.2
theorem xst_hd {f : Nat → Int32} : ∀ (st : List Int32), xst f st → 0 < st.length → f (st.length - 1) = st.headD 0
  | [], _, h => absurd h (by simp)
  | v :: r, k, _ => by simpa using k.1
theorem s_lay (sc : zSc) (S : zS) (r : List Int32) (v : Int32) (hr : r.length < 121) (hs : xst (S.1 9) r) :
    ∃ S', zcI sc zm_X3_lay [.ref 6, .int (nI r.length), .int v] S = some (nI (r.length + 1), S') ∧ xst (S'.1 9) (v :: r) ∧ zfr (zx1 9) S S' := by
  refine ⟨zw1 S 9 r.length v, ?_, ⟨zw1_y _ _ _ _, xst_cg r (fun j hj => zw1_n _ _ (by omega)) hs⟩, zfr_w0 _ _ _ rfl⟩
  rw [c_X3_lay, if_neg (by rw [n_lt0 (by omega)]; exact id), if_pos (by rw [show Int32.ofNat 121 = nI 121 from rfl, n_lt (by omega) (by omega)]; exact hr), if_neg (by rw [n_ob (by omega)]; omega), n_cl (by omega), n_s1]
theorem s_byText_go (sc : zSc) (N : Nat → Int32) : ∀ (cs : List Int32) (S : zS) (a : Nat) (st : List Int32) (cnt : Bool) (o4 o5 o6 : Option Value),
    S.1 6 2 = nI (a + cs.length) → a + cs.length ≤ 121 → xcd (S.1 7) a cs → xok cs st.length → st.length ≤ a → xst (S.1 9) st → (∀ s, xnm (S.1 8) s = xnm N s) →
    ∃ S', zO zgI sc (zg1, (zm_X3_byText, 2), 6, S, [some (.ref 6), some (.int (nI st.length)), some (.int (zb (cnt = true))), some (.int (nI a)), o4, o5, o6], []) = some (xgo N cs st cnt, S') ∧ zfr (zx1 9) S S'
  | [], S, a, st, cnt, o4, o5, o6, h1, h2, h3, h4, h5, h6, h7 => by
    refine ⟨S, ?_, zfr_refl _ _⟩
    rw [e_X3_byText_6, h1, if_pos (by simp)]
    rfl
  | c :: cs, S, a, st, cnt, o4, o5, o6, h1, h2, h3, h4, h5, h6, h7 => by
    have hl : (c :: cs).length = cs.length + 1 := rfl
    have IH := s_byText_go sc N cs
    rw [hl] at h1 h2
    have ho : S.1 7 a = c := h3.1
    -- what lies on top
    have htop : zO zgI sc (zg1, (zm_X3_byText, 2), 6, S, [some (.ref 6), some (.int (nI st.length)), some (.int (zb (cnt = true))), some (.int (nI a)), o4, o5, o6], [])
        = zO zgI sc (zg1, (zm_X3_byText, 2), 43, S, [some (.ref 6), some (.int (nI st.length)), some (.int (zb (cnt = true))), some (.int (nI a)), some (.int c), some (.int (-c)), o6], [.int (st.headD 0)]) := by
      rw [e_X3_byText_6, h1, if_neg (by rw [n_le (by omega) (by omega)]; omega), if_neg (by rw [n_ob (by omega)]; omega), ifc (n_le0 (by omega)), n_cl (by omega), ho]
      cases st with
      | nil => rw [if_pos (List.length_nil (α := Int32))]; rfl
      | cons v r =>
        have : (v :: r).length = r.length + 1 := rfl
        have h5' : r.length + 1 ≤ a := h5
        rw [if_neg (by rw [this]; omega), n_p1 (by rw [this]; omega), if_neg (by rw [n_ob (by rw [this]; omega)]; rw [this]; omega), n_cl (by rw [this]; omega)]
        have hv : S.1 9 (r.length + 1 - 1) = v := h6.1
        rw [this, hv]
        rfl
    rw [htop, e_X3_byText_43]
    have next : ∀ (S1 : zS) (st' : List Int32) (cnt' : Bool) (v1 v2 v3 : Option Value), zfr (zx1 9) S S1 → xst (S1.1 9) st' → st'.length ≤ a + 1 → xok cs st'.length →
        ∃ S', zO zgI sc (zg1, (zm_X3_byText, 2), 6, S1, [some (.ref 6), some (.int (nI st'.length)), some (.int (zb (cnt' = true))), some (.int (nI a + 1)), v1, v2, v3], []) = some (xgo N cs st' cnt', S') ∧ zfr (zx1 9) S S' := by
      intro S1 st' cnt' v1 v2 v3 f1 f2 f3 f4
      rw [n_s1]
      obtain ⟨S', e, f⟩ := IH S1 (a + 1) st' cnt' v1 v2 v3 (by rw [f1.1 6 2 rfl, h1]; congr 1; omega) (by omega) (xcd_cg (fun j => f1.1 7 j rfl) cs (a + 1) h3.2) f4 f3 f2 (fun s => by
        rw [← h7 s]; unfold xnm; rw [f1.1 8 0 rfl, f1.1 8 1 rfl, f1.1 8 2 rfl, f1.1 8 3 rfl, f1.1 8 4 rfl, f1.1 8 5 rfl])
      exact ⟨S', e, zfr_tr f1 f⟩
    have fr0 : zfr (zx1 9) S S := zfr_refl _ _
    unfold xgo
    unfold xok at h4
    by_cases c1 : -c = 63
    · rw [if_pos c1] at h4
      rw [if_neg (fun q => q c1), if_pos c1]
      by_cases c2 : st.headD 0 = 0
      · rw [if_pos c2, e_X3_byText_62]
        have := next S [] false (some (.int c)) (some (.int (-c))) (some (.int (st.headD 0))) fr0 trivial (by simp) h4
        rw [show decide (st.headD 0 ≠ 0) = false from decide_eq_false (fun q => q c2)]
        exact this
      · rw [if_neg c2, e_X3_byText_62]
        have := next S [] true (some (.int c)) (some (.int (-c))) (some (.int (st.headD 0))) fr0 trivial (by simp) h4
        rw [show decide (st.headD 0 ≠ 0) = true from decide_eq_true c2]
        exact this
    rw [if_neg c1] at h4
    rw [if_pos c1, if_neg c1]
    by_cases c2 : -c = 59
    · rw [if_pos c2] at h4
      rw [if_neg (fun q => q c2), if_pos c2]
      cases cnt with
      | true => rw [if_neg (by decide), if_pos rfl]; exact ⟨S, rfl, fr0⟩
      | false =>
        rw [if_pos (by decide), if_neg (by decide)]
        exact next S [] true _ _ _ fr0 trivial (by simp) h4
    rw [if_neg c2] at h4
    rw [if_pos c2, if_neg c2]
    by_cases c3 : -c = 33 ∨ -c = 126
    · rw [if_pos c3] at h4
      rw [if_pos c3]
      -- both go to 103
      have hj : ∀ (X : Option (Int32 × zS)), (if -c = 33 then zO zgI sc (zg1, (zm_X3_byText, 2), 103, S, [some (.ref 6), some (.int (nI st.length)), some (.int (zb (cnt = true))), some (.int (nI a)), some (.int c), some (.int (-c)), some (.int (st.headD 0))], []) else (if -c ≠ 126 then X else zO zgI sc (zg1, (zm_X3_byText, 2), 103, S, [some (.ref 6), some (.int (nI st.length)), some (.int (zb (cnt = true))), some (.int (nI a)), some (.int c), some (.int (-c)), some (.int (st.headD 0))], []))) = zO zgI sc (zg1, (zm_X3_byText, 2), 103, S, [some (.ref 6), some (.int (nI st.length)), some (.int (zb (cnt = true))), some (.int (nI a)), some (.int c), some (.int (-c)), some (.int (st.headD 0))], []) := by
        intro X
        rcases c3 with q | q
        · rw [if_pos q]
        · by_cases q2 : -c = 33
          · rw [if_pos q2]
          · rw [if_neg q2, if_neg (fun k => k q)]
      rw [hj, e_X3_byText_103]
      cases st with
      | nil => exact absurd h4.1 (by simp)
      | cons v r =>
        have hh : (v :: r).length = r.length + 1 := rfl
        have go : ∀ w : Int32, ∃ S', zO zgI sc (zg1, (zm_X3_byText, 2), 130, S, [some (.ref 6), some (.int (nI (v :: r).length)), some (.int (zb (cnt = true))), some (.int (nI a)), some (.int c), some (.int (-c)), some (.int ((v :: r).headD 0))], [.int w, .int (nI (v :: r).length - (1 : Int32)), .ref 6]) = some (xgo N cs (w :: r) cnt, S') ∧ zfr (zx1 9) S S' := by
          intro w
          rw [e_X3_byText_130, hh, n_p1 (by omega), show r.length + 1 - 1 = r.length by omega]
          obtain ⟨S1, g1, g2, g3⟩ := s_lay sc S r w (by rw [hh] at h5; omega) h6.2
          rw [g1, Option.bind_some]
          exact next S1 (w :: r) cnt _ _ _ g3 g2 (by rw [show (w :: r).length = r.length + 1 from rfl]; rw [hh] at h5; omega) h4.2
        by_cases c4 : -c = 33
        · rw [if_neg (fun q => q c4), if_pos c4]
          by_cases c5 : (v :: r).headD 0 = 0
          · rw [if_neg (fun q => q c5), if_pos c5]; exact go 1
          · rw [if_pos c5, if_neg c5]; exact go 0
        · rw [if_pos c4, if_neg c4]; exact go _
    rw [if_neg c3] at h4
    rw [if_neg c3, if_neg (fun q => c3 (Or.inl q)), if_pos (fun q => c3 (Or.inr q))]
    by_cases c4 : 0 ≤ c ∨ xin (-c)
    · rw [if_pos c4] at h4
      rw [if_pos c4]
      have go : zO zgI sc (zg1, (zm_X3_byText, 2), 150, S, [some (.ref 6), some (.int (nI st.length)), some (.int (zb (cnt = true))), some (.int (nI a)), some (.int c), some (.int (-c)), some (.int (st.headD 0))], []) = ((zcI sc zm_X3_lay [.ref 6, .int (nI st.length), .int (if 0 ≤ c then c else xnm N (-c))] S).bind (fun q2 => zO zgI sc (zg1, (zm_X3_byText, 2), 6, q2.2, [some (.ref 6), some (.int q2.1), some (.int (zb (cnt = true))), some (.int (nI a + (1 : Int32))), some (.int c), some (.int (-c)), some (.int (st.headD 0))], []))) := by
        rw [e_X3_byText_150]
        by_cases c5 : c < 0
        · rw [if_pos c5, s_named, Option.bind_some, h7, if_neg (by rw [zi_le]; rw [zi_lt] at c5; omega)]
        · rw [if_neg c5, if_pos (by rw [zi_le]; rw [zi_lt] at c5; omega)]
      have to : (if 0 ≤ c then zO zgI sc (zg1, (zm_X3_byText, 2), 150, S, [some (.ref 6), some (.int (nI st.length)), some (.int (zb (cnt = true))), some (.int (nI a)), some (.int c), some (.int (-c)), some (.int (st.headD 0))], []) else zO zgI sc (zg1, (zm_X3_byText, 2), 150, S, [some (.ref 6), some (.int (nI st.length)), some (.int (zb (cnt = true))), some (.int (nI a)), some (.int c), some (.int (-c)), some (.int (st.headD 0))], [])) = zO zgI sc (zg1, (zm_X3_byText, 2), 150, S, [some (.ref 6), some (.int (nI st.length)), some (.int (zb (cnt = true))), some (.int (nI a)), some (.int c), some (.int (-c)), some (.int (st.headD 0))], []) := by split <;> rfl
      obtain ⟨S1, g1, g2, g3⟩ := s_lay sc S st (if 0 ≤ c then c else xnm N (-c)) (by omega) h6
      have fin := next S1 ((if 0 ≤ c then c else xnm N (-c)) :: st) cnt (some (.int c)) (some (.int (-c))) (some (.int (st.headD 0))) g3 g2 (by rw [show ((if 0 ≤ c then c else xnm N (-c)) :: st).length = st.length + 1 from rfl]; omega) h4
      by_cases c5 : 0 ≤ c
      · rw [if_pos c5, go, g1, Option.bind_some]; exact fin
      · rw [if_neg c5, s_isName, Option.bind_some]
        rw [zb_t (c4.resolve_left c5)]; dsimp only; rw [if_neg (by decide), go, g1, Option.bind_some]; exact fin
    · rw [if_neg c4] at h4
      rw [if_neg c4, if_neg (fun q => c4 (Or.inl q)), s_isName, Option.bind_some]
      rw [zb_f (fun q => c4 (Or.inr q)), if_pos rfl]
      match st, h4, h5, h6 with
      | [], h4, _, _ => exact absurd h4.1 (by simp)
      | [v], h4, _, _ => exact absurd h4.1 (by simp)
      | b :: v :: r, h4, h5, h6 =>
        have hh : (b :: v :: r).length = r.length + 2 := rfl
        rw [hh] at h5
        rw [hh, if_neg (c := nI (r.length + 2) ≤ 1) (by rw [show (1 : Int32) = nI 1 from rfl, n_le (by omega) (by omega)]; omega), show nI (r.length + 2) - (2 : Int32) = nI (r.length + 2 - 2) from zn_sub (a := r.length + 2) (b := 2) (by omega), show r.length + 2 - 2 = r.length by omega]
        rw [if_neg (by rw [n_ob (by omega)]; omega), n_cl (by omega)]
        have hv : S.1 9 r.length = v := h6.2.1
        rw [show (S : zS).1 9 r.length = v from hv, s_workedOut _ _ _ _ _ h4.2.1, Option.bind_some]
        obtain ⟨S1, g1, g2, g3⟩ := s_lay sc S r (xop v (-c) b) (by omega) h6.2.2
        rw [show (b :: v :: r).headD 0 = b from rfl, g1, Option.bind_some]
        exact next S1 (xop v (-c) b :: r) cnt _ _ _ g3 g2 (by rw [show (xop v (-c) b :: r).length = r.length + 1 from rfl]; omega) (by rw [hh] at h4; exact h4.2.2)
theorem s_byText (sc : zSc) (N : Nat → Int32) (cs : List Int32) (S : zS) (h1 : S.1 6 2 = nI cs.length) (h2 : cs.length ≤ 121) (h3 : xcd (S.1 7) 0 cs) (h4 : xok cs 0) (h7 : ∀ s, xnm (S.1 8) s = xnm N s) :
    ∃ S', zcI sc zm_X3_byText [.ref 6] S = some (xgo N cs [] true, S') ∧ zfr (zx1 9) S S' := by
  rw [c_X3_byText]
  exact s_byText_go sc N cs S 0 [] true _ _ _ (by simpa using h1) (by omega) h3 h4 (by simp) trivial h7
