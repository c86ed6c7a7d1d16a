/-! ===== the model works a text out ===== -/
abbrev zMW (n : Nat) (N : Nat → Int32) (F : Option (Int32 × zS)) (S : zS) (given : Bool) (gives : Int32) (r : pL) : Prop :=
  ∃ v S', F = some (v, S') ∧ zfr zMF S S' ∧ (pfine n r → v = (if given = true then gives else (r.2.2.2 N).getD 0) ∧ S'.1 51 15 = -1) ∧ (¬ pfine n r → S'.1 51 15 = nI r.2.1)
theorem m_exitF (sc : zSc) {S : zS} {p : Nat} (h : S.1 51 15 = nI p) (hp : p < 2147483648) (x1 x2 x3 x4 : Int32) (o6 o7 : Option Value) :
    zO zgI sc (zg1, (zm_X11_workOut, 63), 33, S, [some (.ref 51), some (.int x1), some (.int x2), some (.int x3), some (.int x4), some (.int (0 : Int32)), o6, o7], []) = some (x4, S) := by
  rw [e_X11_workOut_33, if_pos rfl, h, if_pos (by rw [n_0le hp]; trivial)]
theorem m_work_go (sc : zSc) {n : Nat} {cb : Nat → Nat} (hz : zcbG n cb) (N : Nat → Int32) (x1 x2 : Int32) : ∀ (k pos : Nat) (S : zS) (given : Bool) (gives : Int32) (o6 o7 : Option Value), n < k + pos → zMS n cb pos 0 N S → (given = false → gives = 0) →
    zMW n N (zO zgI sc (zg1, (zm_X11_workOut, 63), 33, S, [some (.ref 51), some (.int x1), some (.int x2), some (.int (zb (given = true))), some (.int gives), some (.int (1 : Int32)), o6, o7], [])) S given gives (plines cb k pos)
  | 0, pos, S, given, gives, o6, o7, hk, h, _ => by have := h.2.2.2.2.1; omega
  | k + 1, pos, S, given, gives, o6, o7, hk, h, hgiv => by
    have hn := hz.1
    have IH := m_work_go sc hz N x1 x2 k
    have fl := pline_fact hz.2.1 pos h.2.2.2.2.1
    have bad : ∀ (p : Nat) (S1 : zS) (x3 x4 : Int32) (o6 o7 : Option Value), p ≤ n → zfr zMF S S1 → S1.1 51 15 = nI p →
        zMW n N ((zcI sc zm_X11_takes [.ref 51, .int (59 : Int32)] S1).bind (fun q => zO zgI sc (zg1, (zm_X11_workOut, 63), 33, q.2, [some (.ref 51), some (.int x1), some (.int x2), some (.int x3), some (.int x4), some (.int q.1), o6, o7], []))) S given gives (plbad p) := by
      intro p S1 x3 x4 o6 o7 hp hf h5
      rw [s_takesF sc h5 (by omega), Option.bind_some]
      dsimp only
      rw [m_exitF sc h5 (by omega)]
      exact ⟨_, _, rfl, hf, fun q => (Bool.false_ne_true q.1).elim, fun _ => h5⟩
    have tail : ∀ (S1 : zS) (g' : Bool) (v' : Int32) (o6 o7 : Option Value), (pline cb pos).1 = true → zfr zMF S S1 → zMS n cb (pline cb pos).2.1 0 N S1 → (g' = false → v' = 0) →
        (∀ t : Option Int32, (if g' = true then v' else t.getD 0) = (if given = true then gives else (match (pline cb pos).2.2.2 N with | some v => some v | none => t).getD 0)) →
        zMW n N ((zcI sc zm_X11_takes [.ref 51, .int (59 : Int32)] S1).bind (fun q => zO zgI sc (zg1, (zm_X11_workOut, 63), 33, q.2, [some (.ref 51), some (.int x1), some (.int x2), some (.int (zb (g' = true))), some (.int v'), some (.int q.1), o6, o7], []))) S given gives (plines cb (k + 1) pos) := by
      intro S1 g' v' o6 o7 hl hf h1 hg hv
      have e0 : plines cb (k + 1) pos = if (pline cb pos).1 = true then
        if cb (pline cb pos).2.1 = 59 then
          ((plines cb k ((pline cb pos).2.1 + 1)).1, (plines cb k ((pline cb pos).2.1 + 1)).2.1, (pline cb pos).2.2.1 ++ (plines cb k ((pline cb pos).2.1 + 1)).2.2.1,
            fun N => match (pline cb pos).2.2.2 N with | some v => some v | none => (plines cb k ((pline cb pos).2.1 + 1)).2.2.2 N)
        else pline cb pos
      else plbad (pline cb pos).2.1 := rfl
      have tk : zcI sc zm_X11_takes [.ref 51, .int (59 : Int32)] S1 = _ := s_takes sc hz h1 (c := 59) (by omega)
      rw [e0, if_pos hl, tk]
      by_cases c : cb (pline cb pos).2.1 = 59
      · have hlt : (pline cb pos).2.1 < n := by
          by_cases q : (pline cb pos).2.1 < n
          · exact q
          · have := hz.2.1 (pline cb pos).2.1 (by omega); omega
        rw [if_pos c, if_pos c, Option.bind_some]
        obtain ⟨v, S', a1, a2, a3, a4⟩ := IH ((pline cb pos).2.1 + 1) _ g' v' o6 o7 (by have := (fl.2.2 hl).1; omega) (zMS_adv h1 hlt) hg
        refine ⟨v, S', a1, zfr_tr (zfr_w hf 51 13 _ rfl) a2, fun q => ?_, fun q => ?_⟩
        · obtain ⟨b1, b2⟩ := a3 q
          refine ⟨?_, b2⟩
          rw [b1, hv]
        · exact a4 q
      · rw [if_neg c, if_neg c, Option.bind_some]
        dsimp only
        rw [e_X11_workOut_33, if_pos rfl, h1.2.2.1, if_neg neg1_ge0, h1.1.1, h1.2.1]
        by_cases d : (pline cb pos).2.1 < n
        · rw [if_neg (by rw [n_le (by omega) (by omega)]; omega), s_wrong sc h1.2.2.1 h1.2.1, Option.bind_some]
          exact ⟨_, _, rfl, zfr_w hf 51 15 _ rfl, fun q => by have := q.2; omega, fun _ => zw1_y _ _ _ _⟩
        · have := fl.1
          rw [if_pos (by rw [n_le (by omega) (by omega)]; omega)]
          refine ⟨_, _, rfl, hf, fun _ => ⟨?_, h1.2.2.1⟩, fun q => absurd ⟨hl, by omega⟩ q⟩
          have hvn := hv none
          have em : (match (pline cb pos).2.2.2 N with | some v => some v | none => (none : Option Int32)) = (pline cb pos).2.2.2 N := by cases (pline cb pos).2.2.2 N <;> rfl
          rw [em] at hvn
          rw [← hvn]
          by_cases g : g' = true
          · rw [if_pos g]
          · rw [if_neg g]
            exact hg (by simpa using g)
    have hbad : (pline cb pos).1 = false → plines cb (k + 1) pos = plbad (pline cb pos).2.1 := by
      intro q
      show (if (pline cb pos).1 = true then _ else _) = _
      rw [if_neg (by rw [q]; decide)]
    obtain ⟨v, S1, a1, a2, a3, a4, a5⟩ := (m_parts sc hz N 42 0 pos S (by omega) h).2.2.2.2.2 (by omega)
    have fct := pp_fact hz.2.1 42 0 0 pos h.2.2.2.2.1
    have hgv : given = false → gives = 0 := hgiv
    rw [e_X11_workOut_33, if_neg (by decide), lv_either h.2.2.2.1 (by omega), if_pos (by omega), a1, Option.bind_some]
    dsimp only
    by_cases e : (pp cb 42 0 0 pos).1 = true
    · obtain ⟨e1, e2, e3⟩ := a4 e
      have hS1 : zMS n cb (pp cb 42 0 0 pos).2.1 0 N S1 := zMS_cg h a3 a2 e2 e3 fct.1
      have tk : zcI sc zm_X11_takes [.ref 51, .int (63 : Int32)] S1 = _ := s_takes sc hz hS1 (c := 63) (by omega)
      rw [tk]
      by_cases c : cb (pp cb 42 0 0 pos).2.1 = 63
      · have hlt : (pp cb 42 0 0 pos).2.1 < n := by
          by_cases q : (pp cb 42 0 0 pos).2.1 < n
          · exact q
          · have := hz.2.1 (pp cb 42 0 0 pos).2.1 (by omega); omega
        have hS2 := zMS_adv hS1 hlt
        obtain ⟨w, S3, b1, b2, b3, b4, b5⟩ := (m_parts sc hz N 42 0 _ _ (by omega) hS2).2.2.2.2.2 (by omega)
        have fct2 := pp_fact hz.2.1 42 0 0 ((pp cb 42 0 0 pos).2.1 + 1) (by omega)
        have f3 : zfr zMF S S3 := zfr_tr (zfr_w a3 51 13 _ rfl) b3
        rw [if_pos c, Option.bind_some]
        dsimp only
        rw [if_neg (by decide), lv_either hS2.2.2.2.1 (by omega), if_pos (c := 8 + (6 - 0) * 8 + 6 < 63) (by omega), if_pos (c := 8 + (6 - 0) * 8 + 6 < 63) (by omega), b1, Option.bind_some, Option.bind_some]
        dsimp only
        by_cases e2' : (pp cb 42 0 0 ((pp cb 42 0 0 pos).2.1 + 1)).1 = true
        · obtain ⟨g1, g2, g3⟩ := b4 e2'
          have hp : pline cb pos = (true, (pp cb 42 0 0 ((pp cb 42 0 0 pos).2.1 + 1)).2.1, (pp cb 42 0 0 pos).2.2.1 ++ [-63] ++ (pp cb 42 0 0 ((pp cb 42 0 0 pos).2.1 + 1)).2.2.1 ++ [-59],
              fun N => if (pp cb 42 0 0 pos).2.2.2 N ≠ 0 then some ((pp cb 42 0 0 ((pp cb 42 0 0 pos).2.1 + 1)).2.2.2 N) else none) := by unfold pline; rw [if_pos e, if_pos c, if_pos e2']
          have hS3 : zMS n cb (pp cb 42 0 0 ((pp cb 42 0 0 pos).2.1 + 1)).2.1 0 N S3 := zMS_cg hS2 b3 b2 g2 g3 fct2.1
          rw [g2]
          by_cases z : v = 0
          · rw [if_pos z, if_neg neg1_ge0, if_pos rfl]
            refine tail S3 given gives _ _ (by rw [hp]) f3 (by rw [hp]; exact hS3) hgv (fun t => ?_)
            rw [hp]
            dsimp only
            have z' : ¬ ((pp cb 42 0 0 pos).2.2.2 N ≠ 0) := fun q => q (by rw [← e1]; exact z)
            rw [if_neg z']
          · rw [if_neg z, if_neg neg1_ge0, if_neg (show ¬ ((1 : Int32) = 0) by decide)]
            cases given with
            | true =>
              rw [if_pos (by decide)]
              refine tail S3 true gives _ _ (by rw [hp]) f3 (by rw [hp]; exact hS3) hgv (fun t => ?_)
              rw [if_pos rfl, if_pos rfl]
            | false =>
              rw [if_neg (by decide)]
              refine tail S3 true w _ _ (by rw [hp]) f3 (by rw [hp]; exact hS3) (fun q => Bool.noConfusion q) (fun t => ?_)
              rw [hp, if_pos rfl, if_neg (by decide)]
              dsimp only
              have z' : (pp cb 42 0 0 pos).2.2.2 N ≠ 0 := by rw [← e1]; exact z
              rw [if_pos z', g1]
              rfl
        · have e2'' : (pp cb 42 0 0 ((pp cb 42 0 0 pos).2.1 + 1)).1 = false := by simpa using e2'
          have hp : pline cb pos = plbad (pp cb 42 0 0 ((pp cb 42 0 0 pos).2.1 + 1)).2.1 := by unfold pline; rw [if_pos e, if_pos c, if_neg e2']
          rw [hbad (by rw [hp]), hp, b5 e2'']
          have hq : (0 : Int32) ≤ nI (pp cb 42 0 0 ((pp cb 42 0 0 pos).2.1 + 1)).2.1 := by rw [n_0le (by have := fct2.1; omega)]; trivial
          by_cases z : v = 0
          · rw [if_pos z, if_pos hq]
            exact bad _ S3 _ _ _ _ fct2.1 f3 (b5 e2'')
          · rw [if_neg z, if_pos hq]
            exact bad _ S3 _ _ _ _ fct2.1 f3 (b5 e2'')
      · have hp : pline cb pos = (true, (pp cb 42 0 0 pos).2.1, (pp cb 42 0 0 pos).2.2.1 ++ [-59], fun N => some ((pp cb 42 0 0 pos).2.2.2 N)) := by unfold pline; rw [if_pos e, if_neg c]
        rw [if_neg c, Option.bind_some]
        dsimp only
        rw [if_pos rfl, e2, if_neg neg1_ge0, if_neg (by decide)]
        cases given with
        | true =>
          rw [if_pos (by decide)]
          refine tail S1 true gives _ _ (by rw [hp]) a3 (by rw [hp]; exact hS1) hgv (fun t => ?_)
          rw [if_pos rfl, if_pos rfl]
        | false =>
          rw [if_neg (by decide)]
          refine tail S1 true v _ _ (by rw [hp]) a3 (by rw [hp]; exact hS1) (fun q => Bool.noConfusion q) (fun t => ?_)
          rw [hp, if_pos rfl, if_neg (by decide), e1]
          rfl
    · have e' : (pp cb 42 0 0 pos).1 = false := by simpa using e
      have hp : pline cb pos = plbad (pp cb 42 0 0 pos).2.1 := by unfold pline; rw [if_neg e]
      rw [hbad (by rw [hp]), hp, s_takesF sc (a5 e') (by have := fct.1; omega), Option.bind_some]
      dsimp only
      rw [if_pos rfl, a5 e', if_pos (by rw [n_0le (by have := fct.1; omega)]; trivial)]
      exact bad _ S1 _ _ _ _ fct.1 a3 (a5 e')
/-- the model's workOut over its tape (a = -1, c = 57) or its text (a = 0, c = 58) -/
theorem m_work (sc : zSc) {n : Nat} {cb : Nat → Nat} (hz : zcbG n cb) {S : zS} (a : Int32) (ha : (a = -1 ∧ ∀ i, i < n → S.1 57 i = nI (cb i)) ∨ (a = 0 ∧ ∀ i, i < n → S.1 58 i = nI (cb i))) :
    ∃ v S', zcI sc zm_X11_workOut [.ref 51, .int a, .int (nI n)] S = some (v, S') ∧ zfr (zk [] [(51, 12), (51, 13), (51, 14), (51, 15), (51, 16)]) S S' ∧
      (pfine n (ptext cb) → v = ((ptext cb).2.2.2 (S.1 59)).getD 0 ∧ S'.1 51 15 = -1) ∧ (¬ pfine n (ptext cb) → S'.1 51 15 = nI (ptext cb).2.1) := by
  have f0 : zfr (zk [] [(51, 12), (51, 13), (51, 14), (51, 15), (51, 16)]) S (zw1 (zw1 (zw1 (zw1 (zw1 S 51 12 a) 51 13 0) 51 14 (nI n)) 51 15 (-1)) 51 16 0) :=
    zfr_w (zfr_w (zfr_w (zfr_w (zfr_w0 51 12 _ rfl) 51 13 _ rfl) 51 14 _ rfl) 51 15 _ rfl) 51 16 _ rfl
  have h0 : zMS n cb 0 0 (S.1 59) (zw1 (zw1 (zw1 (zw1 (zw1 S 51 12 a) 51 13 0) 51 14 (nI n)) 51 15 (-1)) 51 16 0) := by
    refine ⟨⟨?_, ?_⟩, ?_, ?_, ?_, by omega, fun i hi => f0.1 59 i rfl⟩
    · rw [zw1_n _ _ (by omega), zw1_n _ _ (by omega), zw1_y]
    · have e12 : (zw1 (zw1 (zw1 (zw1 (zw1 S 51 12 a) 51 13 0) 51 14 (nI n)) 51 15 (-1)) 51 16 0).1 51 12 = a := by
        rw [zw1_n _ _ (by omega), zw1_n _ _ (by omega), zw1_n _ _ (by omega), zw1_n _ _ (by omega), zw1_y]
      rcases ha with ⟨a1, a2⟩ | ⟨a1, a2⟩
      · exact Or.inl ⟨e12.trans a1, fun i hi => (f0.1 57 i rfl).trans (a2 i hi)⟩
      · exact Or.inr ⟨e12.trans a1, fun i hi => (f0.1 58 i rfl).trans (a2 i hi)⟩
    · rw [zw1_n _ _ (by omega), zw1_n _ _ (by omega), zw1_n _ _ (by omega), zw1_y]; rfl
    · rw [zw1_n _ _ (by omega), zw1_y]
    · rw [zw1_y]; rfl
  obtain ⟨v, S', a1, a2, a3, a4⟩ := m_work_go sc hz (S.1 59) a (nI n) 121 0 _ false 0 none none (by have := hz.1; omega) h0 (fun _ => rfl)
  refine ⟨v, S', (c_X11_workOut sc S a (nI n)).trans a1, zfr_tr f0 (zfr_up _ _ a2 rfl), fun q => ?_, a4⟩
  obtain ⟨b1, b2⟩ := a3 q
  exact ⟨b1, b2⟩
