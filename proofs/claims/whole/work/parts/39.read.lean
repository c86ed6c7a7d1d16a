/-! ===== the class reads a text ===== -/
abbrev zTL (F : Option (Int32 × zS)) (S : zS) (sz : Nat) (r : pL) : Prop := ∃ S', F = some (zb (r.1 = true), S') ∧ S'.1 3 4 = nI r.2.1 ∧ zfr zTF S S' ∧ (r.1 = true → zTO sz r.2.2.1 S S')
theorem s_part0 (sc : zSc) {n : Nat} {cb : Nat → Nat} (hz : zcbG n cb) {pos sz : Nat} {S : zS} (h : zTS n cb pos sz S) : zTP (zcI sc zm_X7_part [.ref 3, .int (0 : Int32), .int (0 : Int32)] S) S sz (pp cb 42 0 0 pos) :=
  (s_parts sc hz 42).2 0 0 pos sz S (by omega) (by omega) (by omega) h
theorem s_line (sc : zSc) {n : Nat} {cb : Nat → Nat} (hz : zcbG n cb) {pos sz : Nat} {S : zS} (h : zTS n cb pos sz S) : zTL (zcI sc zm_X7_line [.ref 3] S) S sz (pline cb pos) := by
  have hn := hz.1
  obtain ⟨S1, a1, a2, a3, a4⟩ := s_part0 sc hz h
  have fct := pp_fact hz.2.1 42 0 0 pos h.2.2.2.1
  rw [c_X7_line, a1, Option.bind_some]
  dsimp only
  unfold pline
  by_cases e : (pp cb 42 0 0 pos).1 = true
  · obtain ⟨g1, g2⟩ := fct.2.2 e
    have O1 := a4 e
    have h5 := h.2.2.2.2
    rw [if_pos (by rw [zb_n]; exact e), if_pos e]
    have sk : zcI sc zm_X7_skip [.ref 3, .int (63 : Int32)] S1 = if cb (pp cb 42 0 0 pos).2.1 = 63 then some (1, zw1 S1 3 4 (nI ((pp cb 42 0 0 pos).2.1 + 1))) else some (0, S1) := s_skip sc hz (zTBq_cg h.1 a3) a2 fct.1 (c := 63) (by omega) (by omega)
    rw [sk]
    by_cases c : cb (pp cb 42 0 0 pos).2.1 = 63
    · have hlt : (pp cb 42 0 0 pos).2.1 < n := by
        by_cases q : (pp cb 42 0 0 pos).2.1 < n
        · exact q
        · have := hz.2.1 _ (Nat.le_of_not_lt q); omega
      rw [if_pos c, if_pos c, Option.bind_some]
      dsimp only
      rw [if_neg (by decide)]
      have O1' : zTO sz (pp cb 42 0 0 pos).2.2.1 S (zw1 S1 3 4 (nI ((pp cb 42 0 0 pos).2.1 + 1))) := zTO_pl O1
      obtain ⟨S2, b1, b2, b3, b4⟩ := s_emit sc (-63) O1'.1 (by omega)
      have O2 := zTO_app O1' b2
      have f2 : zfr zTF S S2 := zfr_tr (zfr_w a3 3 4 _ rfl) b4
      rw [b1, Option.bind_some]
      have hl : ((pp cb 42 0 0 pos).2.2.1 ++ [(-63 : Int32)]).length = (pp cb 42 0 0 pos).2.2.1.length + 1 := by rw [List.length_append]; rfl
      obtain ⟨S3, d1, d2, d3, d4⟩ := s_part0 sc hz (pos := (pp cb 42 0 0 pos).2.1 + 1) (sz := sz + ((pp cb 42 0 0 pos).2.2.1 ++ [(-63 : Int32)]).length) (S := S2) ⟨zTBq_cg h.1 f2, by rw [b3, zw1_y], O2.1, by omega, by rw [hl]; omega⟩
      have fct2 := pp_fact hz.2.1 42 0 0 ((pp cb 42 0 0 pos).2.1 + 1) (by omega)
      rw [d1, Option.bind_some]
      dsimp only
      by_cases e2 : (pp cb 42 0 0 ((pp cb 42 0 0 pos).2.1 + 1)).1 = true
      · obtain ⟨k1, k2⟩ := fct2.2.2 e2
        have O3 := zTO_app O2 (d4 e2)
        obtain ⟨S4, m1, m2, m3, m4⟩ := s_emit sc (-59) O3.1 (by rw [List.length_append, hl]; have := fct2.1; omega)
        rw [if_pos (by rw [zb_n]; exact e2), if_pos e2, m1, Option.bind_some]
        exact ⟨S4, rfl, m3.trans d2, zfr_tr (zfr_tr f2 d3) m4, fun _ => zTO_app O3 m2⟩
      · rw [if_neg (by rw [zb_n]; exact e2), if_neg e2]
        exact ⟨S3, rfl, d2, zfr_tr f2 d3, fun q => (Bool.false_ne_true q).elim⟩
    · rw [if_neg c, if_neg c, Option.bind_some]
      dsimp only
      rw [if_pos rfl]
      obtain ⟨S2, b1, b2, b3, b4⟩ := s_emit sc (-59) O1.1 (by have := fct.1; omega)
      rw [b1, Option.bind_some]
      exact ⟨S2, rfl, b3.trans a2, zfr_tr a3 b4, fun _ => zTO_app O1 b2⟩
  · rw [if_neg (by rw [zb_n]; exact e), if_neg e]
    exact ⟨S1, rfl, a2, a3, fun q => (Bool.false_ne_true q).elim⟩
abbrev pfine (n : Nat) (r : pL) : Prop := r.1 = true ∧ r.2.1 = n
def pval (n : Nat) (r : pL) : Int32 := if pfine n r then -1 else nI r.2.1
theorem s_read_go (sc : zSc) {n : Nat} {cb : Nat → Nat} (hz : zcbG n cb) : ∀ (k p0 sz : Nat) (S0 S1 : zS), n ≤ k + p0 → zTS n cb p0 sz S0 →
    S1.1 3 4 = nI (pline cb p0).2.1 → zfr zTF S0 S1 → ((pline cb p0).1 = true → zTO sz (pline cb p0).2.2.1 S0 S1) →
    ∃ S', zO zgI sc (zg1, (zm_X7_read, 65), 15, S1, [some (.ref 3), some (.int (zb ((pline cb p0).1 = true)))], []) = some (pval n (plines cb (k + 1) p0), S') ∧ zfr zTF S0 S' ∧ ((plines cb (k + 1) p0).1 = true → zTO sz (plines cb (k + 1) p0).2.2.1 S0 S') := by
  intro k
  induction k with
  | zero =>
    intro p0 sz S0 S1 hk h h1 hf hO
    have hn := hz.1
    have fct := pline_fact hz.2.1 p0 h.2.2.2.1
    have hb : (pline cb p0).1 = false := by
      cases e : (pline cb p0).1 with
      | false => rfl
      | true => have := fct.2.2 e; have := fct.1; omega
    have e0 : plines cb (0 + 1) p0 = plbad (pline cb p0).2.1 := by
      show (if (pline cb p0).1 = true then _ else _) = _
      rw [if_neg (by rw [hb]; decide)]
    rw [e_X7_read_15, e0, zb_f (by rw [hb]; decide), if_pos rfl, if_pos rfl, h1]
    refine ⟨S1, ?_, hf, fun q => (Bool.false_ne_true q).elim⟩
    unfold pval
    rw [if_neg (fun q => Bool.false_ne_true q.1)]
  | succ k ih =>
    intro p0 sz S0 S1 hk h h1 hf hO
    have hn := hz.1
    have fct := pline_fact hz.2.1 p0 h.2.2.2.1
    have hB := zTBq_cg h.1 hf
    have e0 : plines cb (k + 1 + 1) p0 = if (pline cb p0).1 = true then
      if cb (pline cb p0).2.1 = 59 then
        ((plines cb (k + 1) ((pline cb p0).2.1 + 1)).1, (plines cb (k + 1) ((pline cb p0).2.1 + 1)).2.1, (pline cb p0).2.2.1 ++ (plines cb (k + 1) ((pline cb p0).2.1 + 1)).2.2.1,
          fun N => match (pline cb p0).2.2.2 N with | some v => some v | none => (plines cb (k + 1) ((pline cb p0).2.1 + 1)).2.2.2 N)
      else pline cb p0
    else plbad (pline cb p0).2.1 := rfl
    rw [e_X7_read_15, e0]
    by_cases e : (pline cb p0).1 = true
    · obtain ⟨g1, g2⟩ := fct.2.2 e
      have O1 := hO e
      rw [if_pos e, if_neg (by rw [zb_t e]; decide), hB.1, h1]
      by_cases c : (pline cb p0).2.1 < n
      · rw [if_neg (by rw [n_le (by omega) (by omega)]; omega), s_letter sc hz.1 hB h1 fct.1, Option.bind_some]
        dsimp only
        rw [show (59 : Int32) = nI 59 from rfl]
        by_cases d : cb (pline cb p0).2.1 = 59
        · rw [if_neg (by rw [ne_eq, zlt_e hz (by omega) (by omega)]; exact fun q => q d), if_pos d, h1, n_s1]
          have h2 : zTS n cb ((pline cb p0).2.1 + 1) (sz + (pline cb p0).2.2.1.length) (zw1 S1 3 4 (nI ((pline cb p0).2.1 + 1))) :=
            ⟨zTBq_cg hB (zfr_w0 3 4 _ rfl), zw1_y _ _ _ _, by rw [zw1_n _ _ (by omega)]; exact O1.1, by omega, by have := h.2.2.2.2; omega⟩
          obtain ⟨S2, a1, a2, a3, a4⟩ := s_line sc hz h2
          obtain ⟨S', b1, b2, b3⟩ := ih ((pline cb p0).2.1 + 1) (sz + (pline cb p0).2.2.1.length) _ S2 (by omega) h2 a2 a3 a4
          rw [a1, Option.bind_some]
          dsimp only
          refine ⟨S', b1, zfr_tr (zfr_w hf 3 4 _ rfl) b2, fun q => ?_⟩
          exact zTO_app (zTO_pl O1) (b3 q)
        · rw [if_pos (by rw [ne_eq, zlt_e hz (by omega) (by omega)]; exact d), if_neg d, if_neg (by rw [zb_t e]; decide), if_pos (by rw [h1, hB.1, ne_eq, n_eq (by omega) (by omega)]; omega), h1]
          refine ⟨S1, ?_, hf, fun _ => O1⟩
          unfold pval
          rw [if_neg (fun q => by have := q.2; omega)]
      · have hp := fct.1
        rw [if_pos (by rw [n_le (by omega) (by omega)]; omega), if_neg (c := cb (pline cb p0).2.1 = 59) (by rw [hz.2.1 _ (by omega)]; omega), if_neg (by rw [zb_t e]; decide), if_neg (c := nI (pline cb p0).2.1 ≠ nI n) (by rw [ne_eq, n_eq (by omega) (by omega)]; omega)]
        refine ⟨S1, ?_, hf, fun _ => O1⟩
        unfold pval
        rw [if_pos ⟨e, by omega⟩]
    · rw [if_neg e, if_pos (by rw [zb_f e]), if_pos (by rw [zb_f e]), h1]
      refine ⟨S1, ?_, hf, fun q => (Bool.false_ne_true q).elim⟩
      unfold pval
      rw [if_neg (fun q => Bool.false_ne_true q.1)]
abbrev ptext (cb : Nat → Nat) : pL := plines cb 121 0
theorem s_read (sc : zSc) {n : Nat} {cb : Nat → Nat} (hz : zcbG n cb) {S : zS} (h : zTBq n cb S) :
    ∃ S', zcI sc zm_X7_read [.ref 3] S = some (pval n (ptext cb), S') ∧ zfr zTF S S' ∧ ((ptext cb).1 = true → S'.1 3 3 = nI (ptext cb).2.2.1.length ∧ xcd (S'.1 5) 0 (ptext cb).2.2.1) := by
  have hf0 : zfr zTF S (zw1 (zw1 S 3 4 0) 3 3 0) := zfr_w (zfr_w0 3 4 _ rfl) 3 3 _ rfl
  have h0 : zTS n cb 0 0 (zw1 (zw1 S 3 4 0) 3 3 0) := ⟨zTBq_cg h hf0, by rw [zw1_n _ _ (by omega), zw1_y]; rfl, by rw [zw1_y]; rfl, by omega, by omega⟩
  obtain ⟨S1, a1, a2, a3, a4⟩ := s_line sc hz h0
  obtain ⟨S', b1, b2, b3⟩ := s_read_go sc hz 120 0 0 _ S1 (by have := hz.1; omega) h0 a2 a3 a4
  refine ⟨S', ?_, zfr_tr hf0 b2, fun q => ?_⟩
  · rw [c_X7_read, a1, Option.bind_some]
    exact b1
  · have t := (b3 q).1
    rw [Nat.zero_add] at t
    exact ⟨t, (b3 q).2.1⟩
theorem s_take (sc : zSc) {S : zS} {cs : List Int32} (h : S.1 3 3 = nI cs.length) (hl : cs.length ≤ 121) (hc : xcd (S.1 5) 0 cs) :
    ∃ S', zcV sc zm_X3_take [.ref 6, .ref 3] S = some S' ∧ S'.1 6 2 = nI cs.length ∧ S'.1 6 7 = -1 ∧ xcd (S'.1 7) 0 cs ∧ zfr (zk [7] [(6, 2), (6, 7)]) S S' := by
  have e0 : (0 : Int32).toNatClampNeg = 0 := rfl
  rw [c_X3_take_3, h, if_neg (fun q => by
    rcases q with q | q | q | q | q
    · exact absurd q (by decide)
    · exact absurd q (by decide)
    · rw [n_lt0 (by omega)] at q; exact q
    · rw [n_cl (by omega), e0] at q; omega
    · rw [n_cl (by omega), e0] at q; omega), n_cl (by omega)]
  refine ⟨_, rfl, ?_, zw1_y _ _ _ _, ?_, ?_⟩
  · rw [zw1_n _ _ (by omega), zc1_r, if_neg (by omega), zw1_y]
  · refine xcd_rg cs 0 (fun j a b => ?_) hc
    rw [zw1_n _ _ (by omega), zc1_r, if_pos rfl]
    show (if (0 : Int32).toNatClampNeg ≤ j ∧ j < (0 : Int32).toNatClampNeg + cs.length then _ else _) = _
    rw [e0, if_pos ⟨by omega, by omega⟩, zw1_n _ _ (by omega)]
    show S.1 5 (0 + (j - 0)) = _
    rw [Nat.zero_add, Nat.sub_zero]
  · refine zfr_w (K := zk [7] [(6, 2), (6, 7)]) (S := S) (S' := zwc1 (zw1 S 6 2 (nI cs.length)) 7 (va_cpy ((zw1 S 6 2 (nI cs.length)).1 5) ((zw1 S 6 2 (nI cs.length)).1 7) (0 : Int32).toNatClampNeg (0 : Int32).toNatClampNeg cs.length)) ⟨fun c i k => ?_, rfl⟩ 6 7 _ rfl
    rw [zc1_r]
    by_cases e : c = 7
    · subst e; exact absurd k (by simp [zk])
    · rw [if_neg e]
      exact (zfr_w0 (K := zk [7] [(6, 2), (6, 7)]) (S := S) 6 2 (nI cs.length) rfl).1 c i k
