/-! ===== the model's calls ===== -/
/-- the law's text as the model keeps it -/
abbrev zTX (cs : List Int32) (S : zS) : Prop := (S.1 51 11 = -1 ∧ cs = []) ∨ (∃ tn cb, S.1 51 11 = nI tn ∧ zcbG tn cb ∧ (∀ i, i < tn → S.1 58 i = nI (cb i)) ∧ pfine tn (ptext cb) ∧ cs = (ptext cb).2.2.1)
theorem zTX_cg {cs : List Int32} {S S' : zS} (h : zTX cs S) (f1 : S'.1 51 11 = S.1 51 11) (f2 : ∀ j, S'.1 58 j = S.1 58 j) : zTX cs S' := by
  rcases h with ⟨a, b⟩ | ⟨tn, cb, a, b, c, d, e⟩
  · exact Or.inl ⟨f1.trans a, b⟩
  · exact Or.inr ⟨tn, cb, f1.trans a, b, fun i k => (f2 i).trans (c i k), d, e⟩
theorem pline_ne (cb : Nat → Nat) (pos : Nat) (h : (pline cb pos).1 = true) : (pline cb pos).2.2.1 ≠ [] := by
  unfold pline at h ⊢
  by_cases c : (pp cb 42 0 0 pos).1 = true
  · rw [if_pos c] at h ⊢
    by_cases d : cb (pp cb 42 0 0 pos).2.1 = 63
    · rw [if_pos d] at h ⊢
      by_cases e : (pp cb 42 0 0 ((pp cb 42 0 0 pos).2.1 + 1)).1 = true
      · rw [if_pos e]
        exact fun q => by have := congrArg List.length q; simp at this
      · rw [if_neg e] at h
        exact (Bool.false_ne_true h).elim
    · rw [if_neg d]
      exact fun q => by have := congrArg List.length q; simp at this
  · rw [if_neg c] at h
    exact (Bool.false_ne_true h).elim
theorem ptext_ne (cb : Nat → Nat) (h : (ptext cb).1 = true) : (ptext cb).2.2.1 ≠ [] := by
  have key : ∀ k pos, (plines cb k pos).1 = true → (plines cb k pos).2.2.1 ≠ [] := by
    intro k
    cases k with
    | zero => intro pos q; exact (Bool.false_ne_true q).elim
    | succ k =>
      intro pos q
      have e0 : plines cb (k + 1) pos = if (pline cb pos).1 = true then
        if cb (pline cb pos).2.1 = 59 then
          ((plines cb k ((pline cb pos).2.1 + 1)).1, (plines cb k ((pline cb pos).2.1 + 1)).2.1, (pline cb pos).2.2.1 ++ (plines cb k ((pline cb pos).2.1 + 1)).2.2.1,
            fun N => match (pline cb pos).2.2.2 N with | some v => some v | none => (plines cb k ((pline cb pos).2.1 + 1)).2.2.2 N)
        else pline cb pos
      else plbad (pline cb pos).2.1 := rfl
      rw [e0] at q ⊢
      by_cases c : (pline cb pos).1 = true
      · have := pline_ne cb pos c
        rw [if_pos c] at q ⊢
        by_cases d : cb (pline cb pos).2.1 = 59
        · rw [if_pos d]
          exact fun r => this (List.append_eq_nil_iff.mp r).1
        · rw [if_neg d]; exact this
      · rw [if_neg c] at q
        exact (Bool.false_ne_true q).elim
  exact key 121 0 h
theorem ptext_val (cb : Nat → Nat) (h : (ptext cb).1 = true) (N : Nat → Int32) : ((ptext cb).2.2.2 N).getD 0 = xgo N (ptext cb).2.2.1 [] true := by
  have := (plines_gd cb 121 0 h).1 N []
  rw [List.append_nil] at this
  show ((plines cb 121 0).2.2.2 N).getD 0 = xgo N (plines cb 121 0).2.2.1 [] true
  rw [this]
  cases (plines cb 121 0).2.2.2 N <;> rfl
theorem tcl_m2 (v : Int32) (S : zS) : (if (1 : Int32) ≤ v then (if v ≤ (999 : Int32) then some (v, S) else some ((999 : Int32), S)) else some ((1 : Int32), S)) = some (nI (tcl v), S) := by
  have hb := tcl_b v
  have e : ∀ x : Int32, x.toInt = (tcl v : Int) → x = nI (tcl v) := fun x h => zi_inj h
  by_cases h1 : (1 : Int32) ≤ v
  · have h1' : 1 ≤ v.toInt := by rw [zi_le] at h1; exact h1
    rw [if_pos h1]
    by_cases h2 : v ≤ (999 : Int32)
    · have h2' : v.toInt ≤ 999 := by rw [zi_le] at h2; exact h2
      rw [if_pos h2]
      exact congrArg (fun x => some (x, S)) (e v (by unfold tcl; rw [if_neg (by omega), if_neg (by omega)]; omega))
    · have h2' : ¬ v.toInt ≤ 999 := by rw [zi_le] at h2; exact h2
      have : tcl v = 999 := by unfold tcl; rw [if_neg (by omega), if_pos (by omega)]
      rw [if_neg h2, this]; rfl
  · have h1' : ¬ 1 ≤ v.toInt := by rw [zi_le] at h1; exact h1
    have : tcl v = 1 := by unfold tcl; rw [if_pos (by omega)]
    rw [if_neg h1, this]; rfl
abbrev zkW : Nat → Nat → Bool := zk [59] [(51, 12), (51, 13), (51, 14), (51, 15), (51, 16)]
theorem xgo_cg {N M : Nat → Int32} (h : ∀ s, xnm N s = xnm M s) : ∀ (cs st : List Int32) (cnt : Bool), xgo N cs st cnt = xgo M cs st cnt
  | [], _, _ => rfl
  | c :: cs, st, cnt => by
    have IH := xgo_cg h cs
    unfold xgo
    rw [IH, IH, IH, IH, IH, h]
theorem m_nameTakes (sc : zSc) {n : Nat} {P : Nat → Nat → Nat} {S : zS} {cs : List Int32} {gap : Nat} (h : zPM n P S) (hg : S.1 52 64 = nI gap) (ht : zTX cs S) {way pl p w lk : Nat} {it : Int32} (hw : w ≤ n) (hlk : lk < 2) (hit : w ≠ 0 → (it = 0 ↔ w ≠ p + 1)) :
    ∃ S', zcI sc zm_X11_nameTakes [.ref 51, .int (zwho w), .int it, .int (nI pl), .int (nI way), .int (nI lk)] S = some (nI (ttv cs (zslw P) gap way pl p w lk), S') ∧ zfr zkW S S' := by
  have hn := h.2.1
  -- from 75 on
  have h75 : ∀ (mr : Nat), mr = (if tkd p w = 0 then gap else if tkd p w = 2 then 5 else 0) →
      ∃ S', (if nI lk = 0 then zO zgI sc (zg1, (zm_X11_nameTakes, 64), 75, S, [some (.ref 51), some (.int (zwho w)), some (.int it), some (.int (nI pl)), some (.int (nI way)), some (.int (nI lk)), some (.int (nI (tsw (zslw P) w))), some (.int (nI (tkd p w))), none], [.int (0 : Int32), .int (nI (tsw (zslw P) w) + nI mr)]) else zO zgI sc (zg1, (zm_X11_nameTakes, 64), 75, S, [some (.ref 51), some (.int (zwho w)), some (.int it), some (.int (nI pl)), some (.int (nI way)), some (.int (nI lk)), some (.int (nI (tsw (zslw P) w))), some (.int (nI (tkd p w))), none], [.int (10 : Int32), .int (nI (tsw (zslw P) w) + nI mr)])) = some (nI (ttv cs (zslw P) gap way pl p w lk), S') ∧ zfr zkW S S' := by
    intro mr hmr
    rcases ht with ⟨t1, t2⟩ | ⟨tn, cb, t1, t2, t3, t4, t5⟩
    · have tv0 : twv cs (zslw P) gap way pl p w lk = nI (tsw (zslw P) w + mr + lk * 10) := by unfold twv; rw [if_pos t2, ← hmr]
      refine ⟨S, ?_, zfr_refl _ _⟩
      unfold ttv
      have n1 : (-1 : Int32) < 0 := by decide
      rw [tv0, e_X11_nameTakes_75, e_X11_nameTakes_75, t1, if_pos n1, if_pos n1, zn_add]
      rcases (by omega : lk = 0 ∨ lk = 1) with rfl | rfl
      · rw [if_pos (show nI 0 = (0 : Int32) from rfl)]
        have := tcl_m2 (nI (tsw (zslw P) w + mr) + (0 : Int32)) S
        rw [show nI (tsw (zslw P) w + mr) + (0 : Int32) = nI (tsw (zslw P) w + mr + 0 * 10) from zn_add _ 0] at this ⊢
        exact this
      · rw [if_neg (show ¬ (nI 1 = (0 : Int32)) by decide)]
        have := tcl_m2 (nI (tsw (zslw P) w + mr) + (10 : Int32)) S
        rw [show nI (tsw (zslw P) w + mr) + (10 : Int32) = nI (tsw (zslw P) w + mr + 1 * 10) from zn_add _ 10] at this ⊢
        exact this
    · have htn := t2.1
      have hne : ¬ nI tn < 0 := by rw [n_lt0 (by omega)]; exact id
      have hcs : cs ≠ [] := by rw [t5]; exact ptext_ne cb t4.1
      have work : ∀ (x : Int32), x = nI lk → ∃ S', ((zcI sc zm_X11_workOut [.ref 51, .int (0 : Int32), .int (nI tn)] (zw1 (zw1 (zw1 (zw1 (zw1 (zw1 S 59 0 (nI (tsw (zslw P) w))) 59 1 (S.1 52 64)) 59 2 (nI (tkd p w))) 59 3 (nI pl)) 59 4 (nI way)) 59 5 x)).bind (fun q1 => (if (1 : Int32) ≤ q1.1 then (if q1.1 ≤ (999 : Int32) then some (q1.1, q1.2) else some ((999 : Int32), q1.2)) else some ((1 : Int32), q1.2)))) = some (nI (ttv cs (zslw P) gap way pl p w lk), S') ∧ zfr zkW S S' := by
        intro x hx
        have hS2 : ∀ S2 : zS, S2 = zw1 (zw1 (zw1 (zw1 (zw1 (zw1 S 59 0 (nI (tsw (zslw P) w))) 59 1 (S.1 52 64)) 59 2 (nI (tkd p w))) 59 3 (nI pl)) 59 4 (nI way)) 59 5 x → zfr zkW S S2 ∧ ∀ i, i < 6 → S2.1 59 i = tnm (zslw P) gap way pl p w lk i := by
          intro S2 e2
          subst e2
          refine ⟨zfr_w (zfr_w (zfr_w (zfr_w (zfr_w (zfr_w0 59 0 _ rfl) 59 1 _ rfl) 59 2 _ rfl) 59 3 _ rfl) 59 4 _ rfl) 59 5 _ rfl, ?_⟩
          intro i hi
          rcases (by omega : i = 0 ∨ i = 1 ∨ i = 2 ∨ i = 3 ∨ i = 4 ∨ i = 5) with rfl | rfl | rfl | rfl | rfl | rfl
          · rw [zw1_n _ _ (by omega), zw1_n _ _ (by omega), zw1_n _ _ (by omega), zw1_n _ _ (by omega), zw1_n _ _ (by omega), zw1_y]; rfl
          · rw [zw1_n _ _ (by omega), zw1_n _ _ (by omega), zw1_n _ _ (by omega), zw1_n _ _ (by omega), zw1_y, hg]; rfl
          · rw [zw1_n _ _ (by omega), zw1_n _ _ (by omega), zw1_n _ _ (by omega), zw1_y]; rfl
          · rw [zw1_n _ _ (by omega), zw1_n _ _ (by omega), zw1_y]; rfl
          · rw [zw1_n _ _ (by omega), zw1_y]; rfl
          · rw [zw1_y, hx]; rfl
        obtain ⟨g1, g2⟩ := hS2 _ rfl
        generalize zw1 (zw1 (zw1 (zw1 (zw1 (zw1 S 59 0 (nI (tsw (zslw P) w))) 59 1 (S.1 52 64)) 59 2 (nI (tkd p w))) 59 3 (nI pl)) 59 4 (nI way)) 59 5 x = S2 at g1 g2 ⊢
        obtain ⟨v, S3, b1, b2, b3, _⟩ := m_work sc t2 (S := S2) 0 (Or.inr ⟨rfl, fun i k => by rw [g1.1 58 i rfl]; exact t3 i k⟩)
        obtain ⟨b4, _⟩ := b3 t4
        rw [b1, Option.bind_some]
        dsimp only
        rw [tcl_m2]
        refine ⟨S3, ?_, zfr_tr g1 (zfr_up _ _ b2 rfl)⟩
        unfold ttv twv
        rw [if_neg hcs, b4, ptext_val cb t4.1, t5, xgo_cg (xnm_cg g2)]
      rw [e_X11_nameTakes_75, e_X11_nameTakes_75, t1, if_neg hne, if_neg hne]
      rcases (by omega : lk = 0 ∨ lk = 1) with rfl | rfl
      · have : nI 0 = (0 : Int32) := rfl
        rw [if_pos this, if_pos this]; exact work 0 rfl
      · have : ¬ (nI 1 = (0 : Int32)) := by decide
        rw [if_neg this, if_neg this]; exact work 1 rfl
  -- from 33 on
  have h33 : ∃ S', zO zgI sc (zg1, (zm_X11_nameTakes, 64), 33, S, [some (.ref 51), some (.int (zwho w)), some (.int it), some (.int (nI pl)), some (.int (nI way)), some (.int (nI lk)), some (.int (nI (tsw (zslw P) w))), none, none], [.int (nI (tkd p w))]) = some (nI (ttv cs (zslw P) gap way pl p w lk), S') ∧ zfr zkW S S' := by
    have htk : tkd p w ≤ 2 := by unfold tkd; split <;> (try split) <;> omega
    rw [e_X11_nameTakes_33, show (2 : Int32) = nI 2 from rfl, ifc (n_ne (a := tkd p w) (b := 2) (by omega) (by omega)), ifc (n_ne0 (a := tkd p w) (by omega))]
    by_cases c2 : tkd p w = 2
    · rw [if_neg (fun q => q c2), e_X11_nameTakes_63]
      exact h75 5 (by rw [c2]; rfl)
    · rw [if_pos c2]
      by_cases c0 : tkd p w = 0
      · rw [if_neg (fun q => q c0), e_X11_nameTakes_63, hg]
        exact h75 gap (by rw [c0]; rfl)
      · rw [if_pos c0, e_X11_nameTakes_63]
        exact h75 0 (by rw [if_neg c0, if_neg c2])
  rw [c_X11_nameTakes]
  cases w with
  | zero =>
    have e0 : ¬ ((0 : Int32) ≤ zwho 0) := by rw [zwho0]; decide
    rw [if_neg e0, e_X11_nameTakes_14, if_neg e0]
    exact h33
  | succ q =>
    have e0 : (0 : Int32) ≤ zwho (q + 1) := by rw [zwhoS, n_0le (by omega)]; trivial
    have hi := hit (by omega)
    have o1 : zcI sc zm_X11_ofPupil [.ref 51, .int (zwho (q + 1)), .int (1 : Int32)] S = some (nI (P q 1), S) := by rw [zwhoS]; exact m_of1 sc h (by omega)
    rw [if_pos e0, o1, Option.bind_some]
    dsimp only
    rw [if_pos e0]
    have ek : tkd p (q + 1) = if q + 1 = p + 1 then 1 else 2 := if_neg (by omega)
    by_cases c : q + 1 = p + 1
    · rw [if_neg (fun k => (hi.mp k) c)]
      rw [ek, if_pos c] at h33
      exact h33
    · rw [if_pos (hi.mpr c)]
      rw [ek, if_neg c] at h33
      exact h33
/-- who is there, told or by the lesson -/
def thM (o : Option Nat) (P : Nat → Nat → Nat) (l : Nat) : Nat → Nat → Bool := match o with | none => fun p t => yhf P l p && decide (P p 7 ≤ t) | some m => fun p _ => m.testBit p
abbrev zTD (o : Option Nat) (S : zS) : Prop := (o = none ∧ S.1 51 18 = -1) ∨ (∃ m, o = some m ∧ m < 256 ∧ S.1 51 18 = nI m)
theorem m_isThere (sc : zSc) {n : Nat} {P : Nat → Nat → Nat} {S : zS} (h : zPM n P S) (hr : zPR n P) {o : Option Nat} (ho : zTD o S) {p l t : Nat} (hp : p < n) (hl : l < 10) (ht : t < 2147483648) :
    zcI sc zm_X11_isThere [.ref 51, .int (nI p), .int (nI l), .int (nI t)] S = some (zb (thM o P l p t = true), S) := by
  have hn := h.2.1
  have := hr p hp
  rw [c_X11_isThere]
  rcases ho with ⟨rfl, h2⟩ | ⟨m, rfl, hm, h2⟩
  · rw [h2, if_pos (by decide), m_isHere sc h hr hp hl, Option.bind_some]
    dsimp only
    rw [m_of7 sc h hp, Option.bind_some]
    dsimp only
    rw [ifc (n_lt (a := t) (b := P p 7) ht (by omega))]
    show _ = some (zb ((yhf P l p && decide (P p 7 ≤ t)) = true), S)
    by_cases c : yhf P l p = true
    · rw [zb_t c, if_neg (by decide)]
      by_cases d : t < P p 7
      · rw [if_pos d, zb_f (by simp [c]; omega)]
      · rw [if_neg d, zb_t (by simp [c]; omega)]
    · rw [zb_f c, if_pos rfl, zb_f (by simp [c])]
  · rw [h2, if_neg (by rw [n_lt0 (by omega)]; exact id), m_isIn sc S hm (by omega), Option.bind_some]
    exact zb_id
abbrev zRM (K : zkS) (S : zS) : Prop := (∀ i, i < 8 → S.1 60 i = zwho (K 0 i) ∧ S.1 61 i = nI (K 1 i)) ∧ S.1 51 21 = nI (K 3 0) ∧ S.1 51 22 = nI (K 3 1) ∧ S.1 51 23 = nI (K 3 2) ∧ S.1 51 24 = nI (K 3 3) ∧ S.1 51 25 = nI (K 3 4)
abbrev zkMc : Nat → Nat → Bool := zk [59, 60, 61] [(51, 12), (51, 13), (51, 14), (51, 15), (51, 16), (51, 21), (51, 22), (51, 23), (51, 24), (51, 25)]
/-- what a call of the model stands on -/
abbrev zME (n : Nat) (P : Nat → Nat → Nat) (cs : List Int32) (gap : Nat) (o : Option Nat) (S : zS) : Prop := zPM n P S ∧ S.1 52 64 = nI gap ∧ zTX cs S ∧ zTD o S
theorem zTD_cg {o : Option Nat} {S S' : zS} (h : zTD o S) (f : S'.1 51 18 = S.1 51 18) : zTD o S' := by
  rcases h with ⟨a, b⟩ | ⟨m, a, b, c⟩
  · exact Or.inl ⟨a, f.trans b⟩
  · exact Or.inr ⟨m, a, b, f.trans c⟩
theorem zME_cg {n : Nat} {P : Nat → Nat → Nat} {cs : List Int32} {gap : Nat} {o : Option Nat} {S S' : zS} (h : zME n P cs gap o S) (f : zfr zkMc S S') : zME n P cs gap o S' :=
  ⟨zPM_cg h.1 (f.1 51 6 rfl) (fun j => f.1 52 j rfl), (f.1 52 64 rfl).trans h.2.1, zTX_cg h.2.2.1 (f.1 51 11 rfl) (fun j => f.1 58 j rfl), zTD_cg h.2.2.2 (f.1 51 18 rfl)⟩
theorem m_whoWould_go (sc : zSc) {n : Nat} {P : Nat → Nat → Nat} {S : zS} (h : zPM n P S) (hr : zPR n P) {o : Option Nat} (ho : zTD o S) {K : zkS} (h1 : ∀ i, i < 8 → S.1 61 i = nI (K 1 i)) (h4 : S.1 51 25 = nI (K 3 4)) (g1 : ∀ i, K 1 i ≤ 8) (g4 : K 3 4 ≤ 8000) {p l : Nat} (hp : p < n) (hl : l < 10) (hno : thM o P l p (K 3 4) = false) :
    ∀ k q, q + k = n → zO zgI sc (zg1, (zm_X11_whoWould, 4), 2, S, [some (.ref 51), some (.int (nI p)), some (.int (nI l)), some (.int (nI q))], []) = some (zwho (khelp (fun p => P p 3) (fun p => P p 4) (thM o P l) K p k q), S)
  | 0, q, hq => by
    have hn := h.2.1
    rw [e_X11_whoWould_2, h.1, if_pos (by rw [n_le (by omega) (by omega)]; omega)]
    show _ = some (zwho 0, S)
    rw [zwho0]
  | k + 1, q, hq => by
    have hn := h.2.1
    have hb := hr q (by omega)
    have hg := g1 q
    have IH := m_whoWould_go sc h hr ho h1 h4 g1 g4 hp hl hno k (q + 1) (by omega)
    rw [e_X11_whoWould_2, h.1, if_neg (by rw [n_le (by omega) (by omega)]; omega), ifc (n_eq (a := q) (b := p) (by omega) (by omega)), n_s1]
    unfold khelp
    by_cases c0 : q = p
    · rw [if_pos c0, if_neg (by rw [c0, hno]; simp)]; exact IH
    rw [if_neg c0, h4, m_isThere sc h hr ho (by omega) hl (by omega), Option.bind_some]
    dsimp only
    by_cases c : thM o P l q (K 3 4) = true
    · rw [zb_t c, if_neg (by decide), m_of4 sc h (by omega), Option.bind_some]
      dsimp only
      rw [m_isIn sc S (by omega) (by omega), Option.bind_some]
      dsimp only
      by_cases d : (P q 4).testBit p = true
      · rw [zb_t d, if_neg (by decide), if_neg (by first | (rw [n_ob (by omega)]; omega) | (rw [n_obb (by omega)]; omega)), m_of3 sc h (by omega), Option.bind_some]
        dsimp only
        rw [n_cl (by omega), h1 q (by omega), ifc (n_le (a := P q 3) (b := K 1 q) (by omega) (by omega))]
        by_cases e : P q 3 ≤ K 1 q
        · rw [if_pos e, if_neg (by simp; omega)]; exact IH
        · rw [if_neg e, if_pos (by rw [c, d]; simp; omega), zwhoS]
      · rw [zb_f d, if_pos rfl, if_neg (by rw [Bool.and_eq_true, Bool.and_eq_true]; exact fun k => d k.1.1)]; exact IH
    · rw [zb_f c, if_pos rfl, if_neg (by rw [Bool.and_eq_true]; exact fun k => c k.2)]; exact IH
theorem m_name142 (sc : zSc) {n : Nat} {P : Nat → Nat → Nat} {cs : List Int32} {gap : Nat} {o : Option Nat} {S : zS} (h : zME n P cs gap o S) {K : zkS} {pl p w way lk : Nat} (hlk : lk < 256) (hR : zRM K S) (hp : p < n) (hw : w ≤ n) (x1 x6 : Int32) (hit : w ≠ 0 → (x6 = 0 ↔ w ≠ p + 1)) :
    ∃ S', zO zgV sc (zg1, (zm_X11_calls, 65), 142, S, [some (.ref 51), some (.int x1), some (.int (nI way)), some (.int (nI lk)), some (.int (nI pl)), some (.int (nI p)), some (.int x6), some (.int (zwho w))], [])
      = zO zgV sc (zg1, (zm_X11_calls, 65), 60, S', [some (.ref 51), some (.int x1), some (.int (nI way)), some (.int (nI lk)), some (.int (nI (pl + 1))), some (.int (nI p)), some (.int x6), some (.int (zwho w))], []) ∧
      zRM (kup p w (ttv cs (zslw P) gap way pl p w (kbit lk p)) K) S' ∧ zfr zkMc S S' := by
  have hn := h.1.2.1
  obtain ⟨r1, r2, r3, r4, r5, r6⟩ := hR
  have hk : kbit lk p < 2 := by unfold kbit; split <;> omega
  -- the last act
  have tail : ∀ S2 : zS, zfr zkMc S S2 → (∀ i, i < 8 → S2.1 60 i = zwho (kup p w 0 K 0 i) ∧ S2.1 61 i = nI (kup p w 0 K 1 i)) → S2.1 51 21 = nI (kup p w 0 K 3 0) → S2.1 51 22 = nI (kup p w 0 K 3 1) → S2.1 51 23 = nI (kup p w 0 K 3 2) → S2.1 51 24 = nI (K 3 3) →
      ∃ S', ((zcI sc zm_X11_isIn [.int (nI lk), .int (nI p)] S2).bind (fun q1 => ((zcI sc zm_X11_nameTakes [.ref 51, .int (zwho w), .int x6, .int (nI pl), .int (nI way), .int q1.1] q1.2).bind (fun q2 => zO zgV sc (zg1, (zm_X11_calls, 65), 60, (zw1 q2.2 51 25 (nI (K 3 4) + q2.1)), [some (.ref 51), some (.int x1), some (.int (nI way)), some (.int (nI lk)), some (.int (nI pl + (1 : Int32))), some (.int (nI p)), some (.int x6), some (.int (zwho w))], [])))))
        = zO zgV sc (zg1, (zm_X11_calls, 65), 60, S', [some (.ref 51), some (.int x1), some (.int (nI way)), some (.int (nI lk)), some (.int (nI (pl + 1))), some (.int (nI p)), some (.int x6), some (.int (zwho w))], []) ∧
        zRM (kup p w (ttv cs (zslw P) gap way pl p w (kbit lk p)) K) S' ∧ zfr zkMc S S' := by
    intro S2 f2 t6 t21 t22 t23 t24
    have h2 := zME_cg h f2
    have hz : zb (lk.testBit p = true) = nI (kbit lk p) := by
      unfold kbit
      by_cases c : lk.testBit p = true
      · rw [zb_t c, if_pos c]; rfl
      · rw [zb_f c, if_neg c]; rfl
    obtain ⟨S3, a1, a2⟩ := m_nameTakes sc h2.1 h2.2.1 h2.2.2.1 (way := way) (pl := pl) (p := p) (it := x6) hw hk hit
    rw [m_isIn sc S2 hlk (by omega), Option.bind_some]
    dsimp only
    rw [hz, a1, Option.bind_some]
    dsimp only
    rw [zn_add, n_s1]
    refine ⟨_, rfl, ⟨?_, ?_, ?_, ?_, ?_, ?_⟩, zfr_w (zfr_tr f2 (zfr_up _ _ a2 rfl)) 51 25 _ rfl⟩
    · intro i hi
      rw [zw1_n _ _ (by omega), zw1_n _ _ (by omega), a2.1 60 i rfl, a2.1 61 i rfl]
      exact t6 i hi
    · rw [zw1_n _ _ (by omega), a2.1 51 21 rfl, t21]; rfl
    · rw [zw1_n _ _ (by omega), a2.1 51 22 rfl, t22]; rfl
    · rw [zw1_n _ _ (by omega), a2.1 51 23 rfl, t23]; rfl
    · rw [zw1_n _ _ (by omega), a2.1 51 24 rfl, t24]; rfl
    · rw [zw1_y]; rfl
  rw [e_X11_calls_142, if_neg (by first | (rw [n_ob (by omega)]; omega) | (rw [n_obb (by omega)]; omega)), n_cl (by omega), ifc (zwho_lt0 (w := w) (by omega))]
  have a60 : ∀ i, i < 8 → (if i = p then zwho w else S.1 60 i) = zwho (kup p w 0 K 0 i) := by
    intro i hi
    show _ = zwho (if i = p then w else K 0 i)
    by_cases e : i = p
    · rw [if_pos e, if_pos e]
    · rw [if_neg e, if_neg e]; exact (r1 i hi).1
  by_cases w0 : w = 0
  · rw [if_pos w0, e_X11_calls_169, ifc (zwho_lt0 (w := w) (by omega)), if_pos w0]
    have r6' : (zw1 S 60 p (zwho w)).1 51 25 = nI (K 3 4) := by rw [zw1_n _ _ (by omega)]; exact r6
    rw [r6']
    refine tail _ (zfr_w (zfr_w0 60 _ _ rfl) 51 21 _ rfl) ?_ ?_ ?_ ?_ ?_
    · intro i hi
      rw [← a60 i hi]
      refine ⟨?_, ?_⟩
      · rw [zw1_n _ _ (by omega), zw1_r]
        by_cases e : i = p
        · rw [if_pos ⟨rfl, e⟩, if_pos e]
        · rw [if_neg (fun q => e q.2), if_neg e]
      · rw [zw1_n _ _ (by omega), zw1_n _ _ (by omega), (r1 i hi).2]
        show _ = nI (if w ≠ 0 ∧ w ≠ p + 1 ∧ i + 1 = w then K 1 i + 1 else K 1 i)
        rw [if_neg (fun q => q.1 w0)]
    · rw [zw1_y, r2, show (0 : Int32) = nI 0 from rfl, n_or, Nat.or_zero]
      show _ = nI (if w ≠ 0 then K 3 0 ||| 2 ^ p else K 3 0)
      rw [if_neg (fun q => q w0)]
    · rw [zw1_n _ _ (by omega), zw1_n _ _ (by omega), r3]
      show _ = nI (if w ≠ 0 ∧ w ≠ p + 1 then K 3 1 ||| 2 ^ p else K 3 1)
      rw [if_neg (fun q => q.1 w0)]
    · rw [zw1_n _ _ (by omega), zw1_n _ _ (by omega), r4]
      show _ = nI (if w ≠ 0 ∧ w ≠ p + 1 then K 3 2 ||| 2 ^ (w - 1) else K 3 2)
      rw [if_neg (fun q => q.1 w0)]
    · rw [zw1_n _ _ (by omega), zw1_n _ _ (by omega), r5]
  · have hi := hit w0
    have r6' : (zw1 S 60 p (zwho w)).1 51 25 = nI (K 3 4) := by rw [zw1_n _ _ (by omega)]; exact r6
    rw [if_neg w0, e_X11_calls_169, ifc (zwho_lt0 (w := w) (by omega)), if_neg w0, n_sh (show p < 8 by omega), r6', r2, n_or]
    by_cases c : w = p + 1
    · rw [if_pos (fun q => (hi.mp q) c)]
      refine tail _ (zfr_w (zfr_w0 60 _ _ rfl) 51 21 _ rfl) ?_ ?_ ?_ ?_ ?_
      · intro i hi
        rw [← a60 i hi]
        refine ⟨?_, ?_⟩
        · rw [zw1_n _ _ (by omega), zw1_r]
          by_cases e : i = p
          · rw [if_pos ⟨rfl, e⟩, if_pos e]
          · rw [if_neg (fun q => e q.2), if_neg e]
        · rw [zw1_n _ _ (by omega), zw1_n _ _ (by omega), (r1 i hi).2]
          show _ = nI (if w ≠ 0 ∧ w ≠ p + 1 ∧ i + 1 = w then K 1 i + 1 else K 1 i)
          rw [if_neg (fun q => q.2.1 c)]
      · rw [zw1_y]
        show _ = nI (if w ≠ 0 then K 3 0 ||| 2 ^ p else K 3 0)
        rw [if_pos w0]
      · rw [zw1_n _ _ (by omega), zw1_n _ _ (by omega), r3]
        show _ = nI (if w ≠ 0 ∧ w ≠ p + 1 then K 3 1 ||| 2 ^ p else K 3 1)
        rw [if_neg (fun q => q.2 c)]
      · rw [zw1_n _ _ (by omega), zw1_n _ _ (by omega), r4]
        show _ = nI (if w ≠ 0 ∧ w ≠ p + 1 then K 3 2 ||| 2 ^ (w - 1) else K 3 2)
        rw [if_neg (fun q => q.2 c)]
      · rw [zw1_n _ _ (by omega), zw1_n _ _ (by omega), r5]
    · obtain ⟨q, rfl⟩ : ∃ q, w = q + 1 := ⟨w - 1, by omega⟩
      have r3' : (zw1 S 60 p (zwho (q + 1))).1 51 22 = nI (K 3 1) := by rw [zw1_n _ _ (by omega)]; exact r3
      have r4' : (zw1 S 60 p (zwho (q + 1))).1 51 23 = nI (K 3 2) := by rw [zw1_n _ _ (by omega)]; exact r4
      have r61 : (zw1 S 60 p (zwho (q + 1))).1 61 q = nI (K 1 q) := by rw [zw1_n _ _ (by omega)]; exact (r1 q (by omega)).2
      have hob : ¬ (zwho (q + 1) < 0 ∨ 8 ≤ (zwho (q + 1)).toNatClampNeg) := by rw [zwhoS]; exact (by first | (rw [n_ob (by omega)]; omega) | (rw [n_obb (by omega)]; omega))
      have hcl : (zwho (q + 1)).toNatClampNeg = q := by rw [zwhoS, n_cl (by omega)]
      have hsh : ((1 : Int32) <<< (zwho (q + 1) &&& 31)) = nI (2 ^ q) := by rw [zwhoS, n_sh (by omega)]
      rw [if_neg (fun k => k (hi.mpr c)), if_neg hob, if_neg hob, hcl, hsh, r3', r4', r61, n_or, n_or, n_s1]
      refine tail _ (zfr_w (zfr_w (zfr_w (zfr_w (zfr_w0 60 _ _ rfl) 51 21 _ rfl) 51 22 _ rfl) 51 23 _ rfl) 61 _ _ rfl) ?_ ?_ ?_ ?_ ?_
      · intro i hi
        rw [← a60 i hi]
        refine ⟨?_, ?_⟩
        · rw [zw1_n _ _ (by omega), zw1_n _ _ (by omega), zw1_n _ _ (by omega), zw1_n _ _ (by omega), zw1_r]
          by_cases e : i = p
          · rw [if_pos ⟨rfl, e⟩, if_pos e]
          · rw [if_neg (fun q => e q.2), if_neg e]
        · show _ = nI (if q + 1 ≠ 0 ∧ q + 1 ≠ p + 1 ∧ i + 1 = q + 1 then K 1 i + 1 else K 1 i)
          by_cases e : i = q
          · rw [e, zw1_y, if_pos ⟨w0, c, rfl⟩]
          · rw [zw1_n _ _ (by omega), zw1_n _ _ (by omega), zw1_n _ _ (by omega), zw1_n _ _ (by omega), zw1_n _ _ (by omega), if_neg (fun k => e (by omega)), (r1 i hi).2]
      · rw [zw1_n _ _ (by omega), zw1_n _ _ (by omega), zw1_n _ _ (by omega), zw1_y]
        show _ = nI (if q + 1 ≠ 0 then K 3 0 ||| 2 ^ p else K 3 0)
        rw [if_pos w0]
      · rw [zw1_n _ _ (by omega), zw1_n _ _ (by omega), zw1_y]
        show _ = nI (if q + 1 ≠ 0 ∧ q + 1 ≠ p + 1 then K 3 1 ||| 2 ^ p else K 3 1)
        rw [if_pos ⟨w0, c⟩]
      · rw [zw1_n _ _ (by omega), zw1_y]
        show _ = nI (if q + 1 ≠ 0 ∧ q + 1 ≠ p + 1 then K 3 2 ||| 2 ^ (q + 1 - 1) else K 3 2)
        rw [if_pos ⟨w0, c⟩]; rfl
      · rw [zw1_n _ _ (by omega), zw1_n _ _ (by omega), zw1_n _ _ (by omega), zw1_n _ _ (by omega), zw1_n _ _ (by omega), r5]
abbrev kcm (n : Nat) (P : Nat → Nat → Nat) (cs : List Int32) (gap : Nat) (o : Option Nat) (l way lk : Nat) : Nat → zkS :=
  kcl n (zowy P n way) (fun p => P p 3) (fun p => P p 4) (thM o P l) lk (ttv cs (zslw P) gap way)
theorem m_calls_go (sc : zSc) {n : Nat} {P : Nat → Nat → Nat} {cs : List Int32} {gap : Nat} {o : Option Nat} (hr : zPR n P) {l way lk : Nat} (hl : l < 10) (hw : way < 3) (hlk : lk < 256) :
    ∀ (k pl : Nat) (S : zS) (o5 o6 o7 : Option Value), pl + k = n → zME n P cs gap o S → zRM (kcm n P cs gap o l way lk pl) S →
    ∃ S', zO zgV sc (zg1, (zm_X11_calls, 65), 60, S, [some (.ref 51), some (.int (nI l)), some (.int (nI way)), some (.int (nI lk)), some (.int (nI pl)), o5, o6, o7], []) = some S' ∧ zRM (kcm n P cs gap o l way lk n) S' ∧ zfr zkMc S S'
  | 0, pl, S, o5, o6, o7, h1, h2, h3 => by
    have hn := h2.1.2.1
    have : pl = n := by omega
    subst this
    refine ⟨S, ?_, h3, zfr_refl _ _⟩
    rw [e_X11_calls_60, h2.1.1, if_pos (by rw [n_le (by omega) (by omega)]; omega)]
  | k + 1, pl, S, o5, o6, o7, h1, h2, h3 => by
    have hn := h2.1.2.1
    have hord : ∀ i, i < n → zowy P n way i < n := fun i hi => od_lt (ykey P way) hi
    have hg : kgood n pl (kcm n P cs gap o l way lk pl) := kcl_good hn hord (fun _ _ _ _ => (tcl_b _).2) pl (by omega)
    have hp := hord pl (by omega)
    have hk := khelp_le (fun p => P p 3) (fun p => P p 4) (thM o P l) (kcm n P cs gap o l way lk pl) (zowy P n way pl) n 0
    have es : kcm n P cs gap o l way lk (pl + 1) = kst n (zowy P n way) (fun p => P p 3) (fun p => P p 4) (thM o P l) lk (ttv cs (zslw P) gap way) (kcm n P cs gap o l way lk pl) pl := rfl
    have next : ∀ (S1 : zS) (w : Nat) (x6 : Int32), zfr zkMc S S1 → zRM (kcm n P cs gap o l way lk (pl + 1)) S1 → ∃ S', zO zgV sc (zg1, (zm_X11_calls, 65), 60, S1, [some (.ref 51), some (.int (nI l)), some (.int (nI way)), some (.int (nI lk)), some (.int (nI (pl + 1))), some (.int (nI (zowy P n way pl))), some (.int x6), some (.int (zwho w))], []) = some S' ∧ zRM (kcm n P cs gap o l way lk n) S' ∧ zfr zkMc S S' := by
      intro S1 w x6 f1 r1
      obtain ⟨S', a1, a2, a3⟩ := m_calls_go sc hr hl hw hlk k (pl + 1) S1 _ _ _ (by omega) (zME_cg h2 f1) r1
      exact ⟨S', a1, a2, zfr_tr f1 a3⟩
    rw [e_X11_calls_60, h2.1.1, if_neg (by rw [n_le (by omega) (by omega)]; omega), m_orderAt sc h2.1 hr hw (by omega), if_pos (by omega), Option.bind_some]
    dsimp only
    rw [h3.2.2.2.2.2, m_isThere sc h2.1 hr h2.2.2.2 hp hl (by have := hg.2.2.2.2.1; omega), Option.bind_some]
    dsimp only
    unfold kst at es
    by_cases c : thM o P l (zowy P n way pl) (kcm n P cs gap o l way lk pl 3 4) = true
    · rw [if_pos c] at es
      rw [zb_t c, if_neg (by decide), e_X11_calls_108, if_pos (by decide)]
      obtain ⟨S1, a1, a2, a3⟩ := m_name142 sc h2 (K := kcm n P cs gap o l way lk pl) (pl := pl) (p := zowy P n way pl) (w := zowy P n way pl + 1) (way := way) hlk h3 hp (by omega) (nI l) 1 (fun _ => ⟨fun q => absurd q (by decide), fun q => absurd rfl q⟩)
      rw [← es] at a2
      obtain ⟨S', b1, b2, b3⟩ := next S1 (zowy P n way pl + 1) 1 a3 a2
      refine ⟨S', ?_, b2, b3⟩
      rw [zwhoS] at a1 b1
      rw [a1]; exact b1
    · rw [if_neg c] at es
      have c' : thM o P l (zowy P n way pl) (kcm n P cs gap o l way lk pl 3 4) = false := by simpa using c
      have ww : zcI sc zm_X11_whoWould [.ref 51, .int (nI (zowy P n way pl)), .int (nI l)] S = some (zwho (khelp (fun p => P p 3) (fun p => P p 4) (thM o P l) (kcm n P cs gap o l way lk pl) (zowy P n way pl) n 0), S) :=
        (c_X11_whoWould sc S _ _).trans (m_whoWould_go sc h2.1 hr h2.2.2.2 (fun i hi => (h3.1 i hi).2) h3.2.2.2.2.2 (fun i => by have := (hg.2.2.2.2.2 i).2.1; omega) (by have := hg.2.2.2.2.1; omega) hp hl c' n 0 (by omega))
      have nself : khelp (fun p => P p 3) (fun p => P p 4) (thM o P l) (kcm n P cs gap o l way lk pl) (zowy P n way pl) n 0 ≠ zowy P n way pl + 1 := by
        intro e
        have key : ∀ k q, khelp (fun p => P p 3) (fun p => P p 4) (thM o P l) (kcm n P cs gap o l way lk pl) (zowy P n way pl) k q = zowy P n way pl + 1 → False := by
          intro k
          induction k with
          | zero => intro q h; exact absurd h (by show ¬ (0 = _); omega)
          | succ k ih =>
            intro q h
            unfold khelp at h
            split at h
            · rename_i hc
              have : q = zowy P n way pl := by omega
              rw [this, c'] at hc
              simp at hc
            · exact ih (q + 1) h
        exact key n 0 e
      rw [zb_f c, if_pos rfl, ww, Option.bind_some]
      dsimp only
      rw [if_neg (fun q => q rfl), ifc (zwho_lt0 (w := khelp (fun p => P p 3) (fun p => P p 4) (thM o P l) (kcm n P cs gap o l way lk pl) (zowy P n way pl) n 0) (by omega))]
      have plain : ¬ (khelp (fun p => P p 3) (fun p => P p 4) (thM o P l) (kcm n P cs gap o l way lk pl) (zowy P n way pl) n 0 ≠ 0 ∧ lk.testBit (zowy P n way pl) = true) →
          ∃ S', zO zgV sc (zg1, (zm_X11_calls, 65), 142, S, [some (.ref 51), some (.int (nI l)), some (.int (nI way)), some (.int (nI lk)), some (.int (nI pl)), some (.int (nI (zowy P n way pl))), some (.int (0 : Int32)), some (.int (zwho (khelp (fun p => P p 3) (fun p => P p 4) (thM o P l) (kcm n P cs gap o l way lk pl) (zowy P n way pl) n 0)))], []) = some S' ∧ zRM (kcm n P cs gap o l way lk n) S' ∧ zfr zkMc S S' := by
        intro q
        rw [if_neg q] at es
        obtain ⟨S1, a1, a2, a3⟩ := m_name142 sc h2 (K := kcm n P cs gap o l way lk pl) (pl := pl) (p := zowy P n way pl) (w := khelp (fun p => P p 3) (fun p => P p 4) (thM o P l) (kcm n P cs gap o l way lk pl) (zowy P n way pl) n 0) (way := way) hlk h3 hp (by omega) (nI l) 0 (fun _ => ⟨fun _ => nself, fun _ => rfl⟩)
        rw [← es] at a2
        obtain ⟨S', b1, b2, b3⟩ := next S1 _ 0 a3 a2
        exact ⟨S', a1.trans b1, b2, b3⟩
      by_cases d : khelp (fun p => P p 3) (fun p => P p 4) (thM o P l) (kcm n P cs gap o l way lk pl) (zowy P n way pl) n 0 = 0
      · rw [if_pos d]
        exact plain (fun q => q.1 d)
      · rw [if_neg d, m_isIn sc S hlk (by omega), Option.bind_some]
        dsimp only
        by_cases e : lk.testBit (zowy P n way pl) = true
        · rw [if_pos ⟨d, e⟩] at es
          have f1 : zfr zkMc S (zw1 S 51 24 (S.1 51 24 + (1 : Int32))) := zfr_w0 51 24 _ rfl
          rw [zb_t e, if_neg (by decide), ← zwho0]
          obtain ⟨S1, a1, a2, a3⟩ := m_name142 sc (zME_cg h2 f1) (K := kca (kcm n P cs gap o l way lk pl)) (pl := pl) (p := zowy P n way pl) (w := 0) (way := way) hlk
            ⟨fun i hi => by rw [zw1_n _ _ (by omega), zw1_n _ _ (by omega)]; exact h3.1 i hi, by rw [zw1_n _ _ (by omega), h3.2.1]; rfl, by rw [zw1_n _ _ (by omega), h3.2.2.1]; rfl, by rw [zw1_n _ _ (by omega), h3.2.2.2.1]; rfl, by rw [zw1_y, h3.2.2.2.2.1, n_s1]; rfl, by rw [zw1_n _ _ (by omega), h3.2.2.2.2.2]; rfl⟩
            hp (by omega) (nI l) 0 (fun q => absurd rfl q)
          rw [← es] at a2
          obtain ⟨S', b1, b2, b3⟩ := next S1 0 0 (zfr_tr f1 a3) a2
          exact ⟨S', a1.trans b1, b2, b3⟩
        · rw [zb_f e, if_pos rfl]
          exact plain (fun q => e q.2)
theorem m_calls (sc : zSc) {n : Nat} {P : Nat → Nat → Nat} {cs : List Int32} {gap : Nat} {o : Option Nat} {S : zS} (h : zME n P cs gap o S) (hr : zPR n P) {l way lk : Nat} (hl : l < 10) (hw : way < 3) (hlk : lk < 256) :
    ∃ S', zcV sc zm_X11_calls [.ref 51, .int (nI l), .int (nI way), .int (nI lk)] S = some S' ∧ zRM (kcm n P cs gap o l way lk n) S' ∧ zfr zkMc S S' := by
  have init : ∀ (k i : Nat) (S1 : zS), i + k = 8 → zfr zkMc S S1 → (∀ j, j < i → S1.1 60 j = zwho 0 ∧ S1.1 61 j = nI 0) →
      ∃ S', zO zgV sc (zg1, (zm_X11_calls, 65), 3, S1, [some (.ref 51), some (.int (nI l)), some (.int (nI way)), some (.int (nI lk)), some (.int (nI i)), none, none, none], []) = some S' ∧ zRM (kcm n P cs gap o l way lk n) S' ∧ zfr zkMc S S' := by
    intro k
    induction k with
    | zero =>
      intro i S1 hi f1 h1
      have : i = 8 := by omega
      subst this
      have f2 : zfr zkMc S (zw1 (zw1 (zw1 (zw1 (zw1 S1 51 21 0) 51 22 0) 51 23 0) 51 24 0) 51 25 0) := zfr_w (zfr_w (zfr_w (zfr_w (zfr_w f1 51 21 _ rfl) 51 22 _ rfl) 51 23 _ rfl) 51 24 _ rfl) 51 25 _ rfl
      obtain ⟨S', a1, a2, a3⟩ := m_calls_go sc hr hl hw hlk n 0 (zw1 (zw1 (zw1 (zw1 (zw1 S1 51 21 0) 51 22 0) 51 23 0) 51 24 0) 51 25 0) none none none (by omega) (zME_cg h f2) (by
        refine ⟨fun i hi => ?_, ?_, ?_, ?_, ?_, ?_⟩
        · simp only [zw1_r]; exact h1 i hi
        · simp only [zw1_r]; rfl
        · simp only [zw1_r]; rfl
        · simp only [zw1_r]; rfl
        · simp only [zw1_r]; rfl
        · simp only [zw1_r]; rfl)
      refine ⟨S', ?_, a2, zfr_tr f2 a3⟩
      rw [e_X11_calls_3, if_pos (by decide)]
      exact a1
    | succ k ih =>
      intro i S1 hi f1 h1
      rw [e_X11_calls_3, if_neg (by rw [show (8 : Int32) = nI 8 from rfl, n_le (by omega) (by omega)]; omega), if_neg (by first | (rw [n_ob (by omega)]; omega) | (rw [n_obb (by omega)]; omega)), if_neg (by first | (rw [n_ob (by omega)]; omega) | (rw [n_obb (by omega)]; omega)), n_cl (by omega), n_s1]
      refine ih (i + 1) _ (by omega) (zfr_w (zfr_w f1 60 _ _ rfl) 61 _ _ rfl) (fun j hj => ?_)
      by_cases e : j = i
      · subst e
        rw [zw1_n _ _ (by omega), zw1_y, zw1_y, zwho0]; exact ⟨rfl, rfl⟩
      · rw [zw1_n _ _ (by omega), zw1_n _ _ (by omega), zw1_n _ _ (by omega), zw1_n _ _ (by omega)]
        exact h1 j (by omega)
  obtain ⟨S', a1, a2, a3⟩ := init 8 0 S (by omega) (zfr_refl _ _) (fun j hj => by omega)
  exact ⟨S', (c_X11_calls sc S _ _ _).trans a1, a2, a3⟩
