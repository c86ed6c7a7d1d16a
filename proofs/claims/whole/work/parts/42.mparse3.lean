theorem s_nameOf (sc : zSc) (S : zS) {c : Nat} (hc : c < 256) (h : ¬ pnm c) : zcI sc zm_X11_nameOf [.int (nI c)] S = some (-1, S) := by
  have e : ∀ d : Nat, d < 256 → (nI c = nI d) = (c = d) := fun d h => n_eq (by omega) (by omega)
  have e103 : (nI c = (103 : Int32)) = (c = 103) := e 103 (by omega)
  have e107 : (nI c = (107 : Int32)) = (c = 107) := e 107 (by omega)
  have e108 : (nI c = (108 : Int32)) = (c = 108) := e 108 (by omega)
  have e112 : (nI c = (112 : Int32)) = (c = 112) := e 112 (by omega)
  have e115 : (nI c = (115 : Int32)) = (c = 115) := e 115 (by omega)
  have e119 : (nI c = (119 : Int32)) = (c = 119) := e 119 (by omega)
  unfold pnm at h
  rw [c_X11_nameOf, ifc e103, if_neg (by omega), ifc e107, if_neg (c := c = 107) (by omega), ifc e108, if_neg (c := c = 108) (by omega), ifc e112, if_neg (c := c = 112) (by omega), ifc e115, if_neg (c := c = 115) (by omega), ifc e119, if_neg (c := c = 119) (by omega)]
  repeat (first | rfl | split)
theorem s_nameOfy (sc : zSc) (S : zS) {c : Nat} (h : pnm c) : ∃ k : Nat, k < 6 ∧ zcI sc zm_X11_nameOf [.int (nI c)] S = some (nI k, S) ∧ ∀ N, xnm N (nI c) = N k := by
  rcases h with rfl | rfl | rfl | rfl | rfl | rfl
  · exact ⟨0, by omega, by rw [c_X11_nameOf]; rfl, fun N => rfl⟩
  · exact ⟨1, by omega, by rw [c_X11_nameOf]; rfl, fun N => rfl⟩
  · exact ⟨2, by omega, by rw [c_X11_nameOf]; rfl, fun N => rfl⟩
  · exact ⟨3, by omega, by rw [c_X11_nameOf]; rfl, fun N => rfl⟩
  · exact ⟨4, by omega, by rw [c_X11_nameOf]; rfl, fun N => rfl⟩
  · exact ⟨5, by omega, by rw [c_X11_nameOf]; rfl, fun N => rfl⟩
theorem m_num (sc : zSc) {n : Nat} {cb : Nat → Nat} (hz : zcbG n cb) {o : Nat} {N : Nat → Int32} (x1 x2 : Int32) : ∀ (k pos v : Nat) (S : zS), k ≤ 4 → zMS n cb pos o N S → (k ≤ 3 ∨ pdig (cb pos)) →
    ∃ S', zO zgI sc (zg1, (zm_X11_one, 8 + (6 - o) * 8 + 1), 176, S, [some (.ref 51), some (.int x1), some (.int x2), some (.int (nI v)), some (.int (nI (4 - k)))], []) = some (nI (pnum cb k pos v).2, S') ∧ S'.1 51 13 = nI (pnum cb k pos v).1 ∧ zfr zMF S S' ∧ S'.1 51 15 = -1 ∧ S'.1 51 16 = nI o
  | 0, pos, v, S, hk, h, hd => by
    refine ⟨S, ?_, h.2.1, zfr_refl _ _, h.2.2.1, h.2.2.2.1⟩
    rw [e_X11_one_176, if_pos (by decide), if_pos (by decide)]
    rfl
  | k + 1, pos, v, S, hk, h, hd => by
    have hc := hz.2.2 pos
    have hn := hz.1
    have lb := lv_byteAt S
    have hB := s_byteAt sc hz h.1 h.2.1 h.2.2.2.2.1
    have l48 : (nI (cb pos) < (48 : Int32)) = (cb pos < 48) := n_lt (b := 48) (by omega) (by omega)
    have l57 : ((57 : Int32) < nI (cb pos)) = (57 < cb pos) := n_lt (a := 57) (by omega) (by omega)
    have stop : ¬ pdig (cb pos) → ((nI (4 - (k + 1)) : Int32) ≠ 0) := by
      intro q
      rw [n_ne0 (by omega)]
      have := hd.resolve_right q
      omega
    rw [e_X11_one_176, if_neg (by rw [show (4 : Int32) = nI 4 from rfl, n_le (by omega) (by omega)]; omega), if_pos (by omega), hB, Option.bind_some]
    dsimp only
    unfold pnum
    rw [ifc l48]
    by_cases c1 : cb pos < 48
    · have nd : ¬ pdig (cb pos) := by unfold pdig; omega
      rw [if_pos c1, if_pos (stop nd), if_neg nd]
      exact ⟨S, rfl, h.2.1, zfr_refl _ _, h.2.2.1, h.2.2.2.1⟩
    · rw [if_neg c1, if_pos (by omega), hB, Option.bind_some]
      dsimp only
      rw [ifc l57]
      by_cases c2 : 57 < cb pos
      · have nd : ¬ pdig (cb pos) := by unfold pdig; omega
        rw [if_pos c2, if_pos (stop nd), if_neg nd]
        exact ⟨S, rfl, h.2.1, zfr_refl _ _, h.2.2.1, h.2.2.2.1⟩
      · have yd : pdig (cb pos) := by unfold pdig; omega
        have hlt : pos < n := by
          by_cases q : pos < n
          · exact q
          · have := hz.2.1 pos (by omega); omega
        have ev : ((10 : Int32) * nI v) + nI (cb pos) - (48 : Int32) = nI (v * 10 + cb pos - 48) := by
          rw [show (10 : Int32) = nI 10 from rfl, zn_mul, zn_add, show (48 : Int32) = nI 48 from rfl, zn_sub (by omega), Nat.mul_comm]
        rw [if_neg c2, if_pos (by omega), hB, Option.bind_some, if_pos yd]
        dsimp only
        rw [ev, h.2.1, n_s1, n_s1, show 4 - (k + 1) + 1 = 4 - k by omega]
        have hS2 := zMS_adv h hlt
        obtain ⟨S', a1, a2, a3, a4, a5⟩ := m_num sc hz x1 x2 k (pos + 1) (v * 10 + cb pos - 48) _ (by omega) hS2 (Or.inl (by omega))
        exact ⟨S', a1, a2, zfr_tr (zfr_w0 51 13 _ rfl) a3, a4, a5⟩
theorem m_one (sc : zSc) {n : Nat} {cb : Nat → Nat} (hz : zcbG n cb) {o f : Nat} (ho : o ≤ 6) {N : Nat → Int32}
    (H0 : o < 6 → ∀ pos S, zMS n cb pos (o + 1) N S → zMP (zcI sc zm_X11_either [.ref 51] S) S (o + 1) N (pp cb f 0 (o + 1) pos))
    (H5 : o < 6 → ∀ pos S, zMS n cb pos (o + 1) N S → zMP (zcI sc zm_X11_one [.ref 51] S) S (o + 1) N (pp cb f 5 (o + 1) pos))
    (pos : Nat) (S : zS) (h : zMS n cb pos o N S) : zMP (zcI sc zm_X11_one [.ref 51] S) S o N (pp cb (f + 1) 5 o pos) := by
  have hn := hz.1
  have hc := hz.2.2 pos
  have lb := lv_byteAt S
  have ee : ∀ d : Nat, d < 256 → (nI (cb pos) = nI d) = (cb pos = d) := fun d h => n_eq (by omega) (by omega)
  have e33 : (nI (cb pos) = (33 : Int32)) = (cb pos = 33) := ee 33 (by omega)
  have e45 : (nI (cb pos) = (45 : Int32)) = (cb pos = 45) := ee 45 (by omega)
  have e40 : (nI (cb pos) ≠ (40 : Int32)) = (cb pos ≠ 40) := by rw [ne_eq, ne_eq]; rw [show (nI (cb pos) = (40 : Int32)) = (cb pos = 40) from ee 40 (by omega)]
  have hlt : cb pos ≠ 0 → pos < n := fun q => by
    by_cases k : pos < n
    · exact k
    · exact absurd (hz.2.1 pos (by omega)) q
  show zMP (zO zgI sc (zg1, (zm_X11_one, zlv zm_X11_one [.ref 51] S), 0, S, [some (.ref 51), none, none, none, none], [])) S o N _
  rw [lv_one h.2.2.2.1 (by omega), e_X11_one_0, h.2.2.1, if_pos (by decide), if_pos (by omega), s_byteAt sc hz h.1 h.2.1 h.2.2.2.2.1, Option.bind_some]
  dsimp only
  rw [ifc e33, ifc e45, ifc e40]
  -- the signs
  have w6 : o < 6 → pos < n → zMS n cb (pos + 1) (o + 1) N (zw1 (zw1 S 51 16 (S.1 51 16 + (1 : Int32))) 51 13 (S.1 51 13 + (1 : Int32))) := by
    intro q hp
    rw [h.2.1, h.2.2.2.1, n_s1, n_s1]
    exact zMS_cg h (zfr_w (zfr_w0 51 16 _ rfl) 51 13 _ rfl) (zw1_y _ _ _ _) (by rw [zw1_n _ _ (by omega), zw1_n _ _ (by omega)]; exact h.2.2.1) (by rw [zw1_n _ _ (by omega), zw1_y]) (by omega)
  have f6 : zfr zMF S (zw1 (zw1 S 51 16 (S.1 51 16 + (1 : Int32))) 51 13 (S.1 51 13 + (1 : Int32))) := zfr_w (zfr_w0 51 16 _ rfl) 51 13 _ rfl
  have full : ¬ o < 6 → ∀ x : Int32, zMP (zO zgI sc (zg1, (zm_X11_one, 8 + (6 - o) * 8 + 1), 32, S, [some (.ref 51), some (.int x), none, none, none], [])) S o N (pbad pos) := by
    intro q x
    have : o = 6 := by omega
    subst this
    have lw := lv_wrong S
    rw [e_X11_one_32, h.2.2.2.1, if_neg (fun k => k rfl), if_pos (by omega), s_wrong sc h.2.2.1 h.2.1, Option.bind_some]
    exact ⟨_, _, rfl, by rw [zw1_n _ _ (by omega)]; exact h.2.1, zfr_w0 51 15 _ rfl, fun q => (Bool.false_ne_true q).elim, fun _ => zw1_y _ _ _ _⟩
  have ne6 : o < 6 → S.1 51 16 ≠ 6 := by
    intro q
    rw [h.2.2.2.1, show (6 : Int32) = nI 6 from rfl, n_ne (by omega) (by omega)]
    omega
  have unary : ∀ (x : Int32), (x = 33 ∨ x = 45) → nI (cb pos) = x → (cb pos = 33 ∨ cb pos = 45) → o < 6 → zMP (zO zgI sc (zg1, (zm_X11_one, 8 + (6 - o) * 8 + 1), 32, S, [some (.ref 51), some (.int x), none, none, none], [])) S o N
      (if (pp cb f 5 (o + 1) (pos + 1)).1 = true then
          (true, (pp cb f 5 (o + 1) (pos + 1)).2.1, (pp cb f 5 (o + 1) (pos + 1)).2.2.1 ++ [if cb pos = 45 then -126 else -33], fun N => if cb pos = 45 then -((pp cb f 5 (o + 1) (pos + 1)).2.2.2 N) else (if (pp cb f 5 (o + 1) (pos + 1)).2.2.2 N = 0 then 1 else 0))
        else pbad (pp cb f 5 (o + 1) (pos + 1)).2.1) := by
    intro x hx ex hcc q
    have n40 : x ≠ 40 := by rcases hx with rfl | rfl <;> decide
    have hS2 := w6 q (hlt (by omega))
    have fct := pp_fact hz.2.1 f 5 (o + 1) (pos + 1) (by have := hlt (by omega); omega)
    obtain ⟨v, S1, a1, a2, a3, a4, a5⟩ := H5 q _ _ hS2
    rw [e_X11_one_32, if_pos (ne6 q), if_pos n40, lv_one hS2.2.2.2.1 (by omega), if_pos (by omega), a1, Option.bind_some]
    dsimp only
    rw [if_pos n40, e_X11_one_104, if_pos n40]
    have f2 : zfr zMF S (zw1 S1 51 16 (S1.1 51 16 - (1 : Int32))) := zfr_w (zfr_tr f6 a3) 51 16 _ rfl
    have val : (if x ≠ 45 then (if v ≠ 0 then zO zgI sc (zg1, (zm_X11_one, 8 + (6 - o) * 8 + 1), 144, (zw1 S1 51 16 (S1.1 51 16 - (1 : Int32))), [some (.ref 51), some (.int x), some (.int v), none, none], [.int (0 : Int32)]) else zO zgI sc (zg1, (zm_X11_one, 8 + (6 - o) * 8 + 1), 144, (zw1 S1 51 16 (S1.1 51 16 - (1 : Int32))), [some (.ref 51), some (.int x), some (.int v), none, none], [.int (1 : Int32)])) else zO zgI sc (zg1, (zm_X11_one, 8 + (6 - o) * 8 + 1), 144, (zw1 S1 51 16 (S1.1 51 16 - (1 : Int32))), [some (.ref 51), some (.int x), some (.int v), none, none], [.int (-v)])) = some (if cb pos = 45 then -v else (if v = 0 then 1 else 0), zw1 S1 51 16 (S1.1 51 16 - (1 : Int32))) := by
      rw [e_X11_one_144, e_X11_one_144, e_X11_one_144]
      by_cases c : cb pos = 45
      · rw [if_neg (by rw [← ex, c]; exact fun k => k rfl), if_pos c]
      · rw [if_pos (by rw [← ex, ne_eq, e45]; exact c), if_neg c]
        by_cases g : v = 0
        · rw [if_neg (fun k => k g), if_pos g]
        · rw [if_pos g, if_neg g]
    rw [val]
    by_cases e : (pp cb f 5 (o + 1) (pos + 1)).1 = true
    · obtain ⟨g1, g2, g3⟩ := a4 e
      rw [if_pos e, g1]
      refine ⟨_, _, rfl, by rw [zw1_n _ _ (by omega)]; exact a2, f2, fun _ => ⟨rfl, by rw [zw1_n _ _ (by omega)]; exact g2, ?_⟩, fun q => (Bool.false_ne_true q.symm).elim⟩
      rw [zw1_y, g3, n_p1 (by omega)]; rfl
    · have e' : (pp cb f 5 (o + 1) (pos + 1)).1 = false := by simpa using e
      rw [if_neg e]
      exact ⟨_, _, rfl, by rw [zw1_n _ _ (by omega)]; exact a2, f2, fun q => (Bool.false_ne_true q).elim, fun _ => by rw [zw1_n _ _ (by omega)]; exact a5 e'⟩
  unfold pp
  rw [if_neg (by omega : ¬ 5 ≤ 4)]
  by_cases c33 : cb pos = 33
  · rw [if_pos c33, if_neg (by unfold pdig; omega), if_neg (by unfold pnm; omega)]
    by_cases q : o < 6
    · rw [if_pos ⟨Or.inr (Or.inl c33), q⟩, if_neg (c := cb pos = 40) (by omega)]
      exact unary _ (Or.inl (by rw [c33]; rfl)) rfl (Or.inl c33) q
    · rw [if_neg (c := (cb pos = 40 ∨ cb pos = 33 ∨ cb pos = 45) ∧ o < 6) (fun k => q k.2)]
      exact full q _
  rw [if_neg c33]
  by_cases c45 : cb pos = 45
  · rw [if_pos c45, if_neg (by unfold pdig; omega), if_neg (by unfold pnm; omega)]
    by_cases q : o < 6
    · rw [if_pos ⟨Or.inr (Or.inr c45), q⟩, if_neg (c := cb pos = 40) (by omega)]
      exact unary _ (Or.inr (by rw [c45]; rfl)) rfl (Or.inr c45) q
    · rw [if_neg (c := (cb pos = 40 ∨ cb pos = 33 ∨ cb pos = 45) ∧ o < 6) (fun k => q k.2)]
      exact full q _
  rw [if_neg c45]
  by_cases c40 : cb pos = 40
  · rw [if_neg (c := cb pos ≠ 40) (fun k => k c40), if_neg (by unfold pdig; omega), if_neg (by unfold pnm; omega)]
    by_cases q : o < 6
    · have hS2 := w6 q (hlt (by omega))
      have fct := pp_fact hz.2.1 f 0 (o + 1) (pos + 1) (by have := hlt (by omega); omega)
      obtain ⟨v, S1, a1, a2, a3, a4, a5⟩ := H0 q _ _ hS2
      have lt := lv_takes S1 41
      rw [if_pos ⟨Or.inl c40, q⟩, if_pos c40, e_X11_one_32, if_pos (ne6 q), c40, show nI 40 = (40 : Int32) from rfl, if_neg (fun k => k rfl), lv_either hS2.2.2.2.1 (by omega), if_pos (by omega), a1, Option.bind_some]
      dsimp only
      rw [e_X11_one_83, if_neg (fun k => k rfl), if_pos (by omega)]
      by_cases e : (pp cb f 0 (o + 1) (pos + 1)).1 = true
      · obtain ⟨g1, g2, g3⟩ := a4 e
        have hS3 : zMS n cb (pp cb f 0 (o + 1) (pos + 1)).2.1 (o + 1) N S1 := zMS_cg hS2 a3 a2 g2 g3 fct.1
        have tk : zcI sc zm_X11_takes [.ref 51, .int (41 : Int32)] S1 = _ := s_takes sc hz hS3 (c := 41) (by omega)
        rw [if_pos e, tk]
        by_cases c41 : cb (pp cb f 0 (o + 1) (pos + 1)).2.1 = 41
        · rw [if_pos c41, if_pos c41, Option.bind_some]
          dsimp only
          rw [if_pos (by decide), e_X11_one_104, if_neg (fun k => k rfl), e_X11_one_144, g1]
          refine ⟨_, _, rfl, by rw [zw1_n _ _ (by omega), zw1_y], zfr_w (zfr_w (zfr_tr f6 a3) 51 13 _ rfl) 51 16 _ rfl, fun _ => ⟨rfl, by rw [zw1_n _ _ (by omega), zw1_n _ _ (by omega)]; exact g2, ?_⟩, fun q => (Bool.false_ne_true q.symm).elim⟩
          rw [zw1_y, zw1_n _ _ (by omega), g3, n_p1 (by omega)]; rfl
        · have lw := lv_wrong S1
          rw [if_neg c41, if_neg c41, Option.bind_some]
          dsimp only
          rw [if_neg (fun k => k rfl), if_pos (by omega), s_wrong sc g2 a2, Option.bind_some]
          exact ⟨_, _, rfl, by rw [zw1_n _ _ (by omega)]; exact a2, zfr_w (zfr_tr f6 a3) 51 15 _ rfl, fun q => (Bool.false_ne_true q).elim, fun _ => zw1_y _ _ _ _⟩
      · have e' : (pp cb f 0 (o + 1) (pos + 1)).1 = false := by simpa using e
        have lw := lv_wrong S1
        rw [if_neg e, s_takesF sc (a5 e') (by have := fct.1; omega), Option.bind_some]
        dsimp only
        rw [if_neg (fun k => k rfl), if_pos (by omega), s_wrongF sc (a5 e') (by have := fct.1; omega), Option.bind_some]
        exact ⟨_, _, rfl, by rw [zw1_n _ _ (by omega)]; exact a2, zfr_w (zfr_tr f6 a3) 51 15 _ rfl, fun q => (Bool.false_ne_true q).elim, fun _ => zw1_y _ _ _ _⟩
    · rw [if_neg (c := (cb pos = 40 ∨ cb pos = 33 ∨ cb pos = 45) ∧ o < 6) (fun k => q k.2)]
      exact full q _
  have ln := lv_nameOf S (nI (cb pos))
  rw [if_pos (c := cb pos ≠ 40) c40, if_pos (by omega)]
  by_cases cn : pnm (cb pos)
  · obtain ⟨k, k1, k2, k3⟩ := s_nameOfy sc S cn
    rw [k2, Option.bind_some]
    dsimp only
    rw [if_neg (c := nI k < 0) (by rw [n_lt0 (by omega)]; exact id), if_neg (c := nI k < 0 ∨ _) (by first | (rw [n_ob (by omega)]; omega) | (rw [n_obb (by omega)]; omega)), n_cl (by omega), h.2.2.2.2.2 k k1, h.2.1, n_s1, if_neg (c := pdig (cb pos)) (by unfold pdig; unfold pnm at cn; omega), if_pos cn]
    exact ⟨_, _, rfl, zw1_y _ _ _ _, zfr_w0 51 13 _ rfl, fun _ => ⟨(k3 N).symm, by rw [zw1_n _ _ (by omega)]; exact h.2.2.1, by rw [zw1_n _ _ (by omega)]; exact h.2.2.2.1⟩, fun q => (Bool.false_ne_true q.symm).elim⟩
  · rw [s_nameOf sc S hc cn, Option.bind_some]
    dsimp only
    rw [if_pos (by decide)]
    by_cases cd : pdig (cb pos)
    · obtain ⟨S', a1, a2, a3, a4, a5⟩ := m_num sc hz (nI (cb pos)) (-1) 4 pos 0 S (by omega) h (Or.inr cd)
      have a1' : zO zgI sc (zg1, (zm_X11_one, 8 + (6 - o) * 8 + 1), 176, S, [some (.ref 51), some (.int (nI (cb pos))), some (.int (-1 : Int32)), some (.int (0 : Int32)), some (.int (0 : Int32))], []) = _ := a1
      rw [if_pos cd, a1']
      exact ⟨_, S', rfl, a2, a3, fun _ => ⟨rfl, a4, a5⟩, fun q => (Bool.false_ne_true q.symm).elim⟩
    · have lw := lv_wrong S
      have l48 : (nI (cb pos) < (48 : Int32)) = (cb pos < 48) := n_lt (b := 48) (by omega) (by omega)
      have l57 : ((57 : Int32) < nI (cb pos)) = (57 < cb pos) := n_lt (a := 57) (by omega) (by omega)
      rw [if_neg cd, if_neg cn, if_neg (c := (cb pos = 40 ∨ cb pos = 33 ∨ cb pos = 45) ∧ o < 6) (fun k => by omega), e_X11_one_176, if_neg (by decide), if_pos (by omega), s_byteAt sc hz h.1 h.2.1 h.2.2.2.2.1, Option.bind_some]
      dsimp only
      have fin : ∃ v S', (if zlv zm_X11_wrong [.ref 51] S < 8 + (6 - o) * 8 + 1 then (zcI sc zm_X11_wrong [.ref 51] S).bind (fun q3 => some (q3.1, q3.2)) else none) = some (v, S') ∧ S'.1 51 13 = nI pos ∧ zfr zMF S S' ∧ S'.1 51 15 = nI pos := by
        rw [if_pos (by omega), s_wrong sc h.2.2.1 h.2.1, Option.bind_some]
        exact ⟨_, _, rfl, by rw [zw1_n _ _ (by omega)]; exact h.2.1, zfr_w0 51 15 _ rfl, zw1_y _ _ _ _⟩
      obtain ⟨v, S', b1, b2, b3, b4⟩ := fin
      rw [ifc l48]
      by_cases c1 : cb pos < 48
      · rw [if_pos c1, if_neg (fun k => k rfl), b1]
        exact ⟨v, S', rfl, b2, b3, fun q => (Bool.false_ne_true q).elim, fun _ => b4⟩
      · rw [if_neg c1, if_pos (by omega), s_byteAt sc hz h.1 h.2.1 h.2.2.2.2.1, Option.bind_some]
        dsimp only
        rw [ifc l57, if_pos (c := 57 < cb pos) (by unfold pdig at cd; omega), if_neg (fun k => k rfl), b1]
        exact ⟨v, S', rfl, b2, b3, fun q => (Bool.false_ne_true q).elim, fun _ => b4⟩
abbrev zMM (sc : zSc) (n : Nat) (cb : Nat → Nat) (N : Nat → Int32) (f : Nat) : Prop :=
  ∀ (o pos : Nat) (S : zS), o ≤ 6 → zMS n cb pos o N S →
    ((6 - o) * 6 + 1 ≤ f → zMP (zcI sc zm_X11_one [.ref 51] S) S o N (pp cb f 5 o pos)) ∧
    ((6 - o) * 6 + 2 ≤ f → zMP (zcI sc zm_X11_product [.ref 51] S) S o N (pp cb f 4 o pos)) ∧
    ((6 - o) * 6 + 3 ≤ f → zMP (zcI sc zm_X11_sums [.ref 51] S) S o N (pp cb f 3 o pos)) ∧
    ((6 - o) * 6 + 4 ≤ f → zMP (zcI sc zm_X11_compared [.ref 51] S) S o N (pp cb f 2 o pos)) ∧
    ((6 - o) * 6 + 5 ≤ f → zMP (zcI sc zm_X11_both [.ref 51] S) S o N (pp cb f 1 o pos)) ∧
    ((6 - o) * 6 + 6 ≤ f → zMP (zcI sc zm_X11_either [.ref 51] S) S o N (pp cb f 0 o pos))
theorem m_parts (sc : zSc) {n : Nat} {cb : Nat → Nat} (hz : zcbG n cb) (N : Nat → Int32) : ∀ f, zMM sc n cb N f
  | 0 => fun o pos S h1 h2 => ⟨fun q => by omega, fun q => by omega, fun q => by omega, fun q => by omega, fun q => by omega, fun q => by omega⟩
  | f + 1 => by
    have IH := m_parts sc hz N f
    intro o pos S ho h
    refine ⟨fun q => ?_, fun q => ?_, fun q => ?_, fun q => ?_, fun q => ?_, fun q => ?_⟩
    · exact m_one sc hz ho (fun k p S h => (IH (o + 1) p S (by omega) h).2.2.2.2.2 (by omega)) (fun k p S h => (IH (o + 1) p S (by omega) h).1 (by omega)) pos S h
    · exact m_product sc hz ho (fun p S h => (IH o p S ho h).1 (by omega)) pos S h
    · exact m_sums sc hz ho (fun p S h => (IH o p S ho h).2.1 (by omega)) pos S h
    · exact m_compared sc hz ho (fun p S h => (IH o p S ho h).2.2.1 (by omega)) pos S h
    · exact m_both sc hz ho (fun p S h => (IH o p S ho h).2.2.2.1 (by omega)) pos S h
    · exact m_either sc hz ho (fun p S h => (IH o p S ho h).2.2.2.2.1 (by omega)) pos S h
