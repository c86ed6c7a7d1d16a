/-- a state at fault -/
abbrev zMQ (n : Nat) (S : zS) (p : Nat) : Prop := S.1 51 15 = nI p ∧ p ≤ n
theorem m_compared (sc : zSc) {n : Nat} {cb : Nat → Nat} (hz : zcbG n cb) {o f : Nat} (ho : o ≤ 6) {N : Nat → Int32} (HG : ∀ pos S, zMS n cb pos o N S → zMP (zcI sc zm_X11_sums [.ref 51] S) S o N (pp cb f 3 o pos))
    (pos : Nat) (S : zS) (h : zMS n cb pos o N S) : zMP (zcI sc zm_X11_compared [.ref 51] S) S o N (pp cb (f + 1) 2 o pos) := by
  have hn := hz.1
  show zMP (zO zgI sc (zg1, (zm_X11_compared, zlv zm_X11_compared [.ref 51] S), 0, S, [some (.ref 51), none, none, none], [])) S o N _
  obtain ⟨v, S1, a1, a2, a3, a4, a5⟩ := HG pos S h
  have fct := pp_fact hz.2.1 f 3 o pos h.2.2.2.2.1
  have hB1 := zMB_cg h.1 a3
  have lb := lv_byteAt S1
  rw [lv_compared h.2.2.2.1 (by omega), e_X11_compared_0, lv_sums h.2.2.2.1 (by omega), if_pos (by omega), a1, Option.bind_some, pp_b cb f o pos (by omega)]
  dsimp only
  rw [if_pos (by omega), s_byteAt sc hz hB1 a2 fct.1, Option.bind_some]
  dsimp only
  by_cases e : (pp cb f (2 + 1) o pos).1 = true
  · obtain ⟨e1, e2, e3⟩ := a4 e
    have hS1 : zMS n cb (pp cb f (2 + 1) o pos).2.1 o N S1 := zMS_cg h a3 a2 e2 e3 fct.1
    have hc := hz.2.2 (pp cb f (2 + 1) o pos).2.1
    have ee : ∀ d : Nat, d < 256 → (nI (cb (pp cb f (2 + 1) o pos).2.1) = nI d) = (cb (pp cb f (2 + 1) o pos).2.1 = d) := fun d h => n_eq (by omega) (by omega)
    have e60 : (nI (cb (pp cb f (2 + 1) o pos).2.1) = (60 : Int32)) = (cb (pp cb f (2 + 1) o pos).2.1 = 60) := ee 60 (by omega)
    have e61 : (nI (cb (pp cb f (2 + 1) o pos).2.1) = (61 : Int32)) = (cb (pp cb f (2 + 1) o pos).2.1 = 61) := ee 61 (by omega)
    have e62 : (nI (cb (pp cb f (2 + 1) o pos).2.1) = (62 : Int32)) = (cb (pp cb f (2 + 1) o pos).2.1 = 62) := ee 62 (by omega)
    rw [if_pos e, e2, if_neg neg1_ge0, ifc e60, ifc e61, ifc e62, e1]
    show zMP _ S o N (if pbond (cb (pp cb f (2 + 1) o pos).2.1) = 2 then _ else _)
    -- what the second part is worked out to
    have second : pbond (cb (pp cb f (2 + 1) o pos).2.1) = 2 → ∀ K : Int32 × zS → Option (Int32 × zS),
        (∀ w S2, K (w, S2) = some (xop ((pp cb f (2 + 1) o pos).2.2.2 N) (nI (cb (pp cb f (2 + 1) o pos).2.1)) w, S2)) →
        zMP (if zlv zm_X11_sums [.ref 51] (zw1 S1 51 13 (S1.1 51 13 + (1 : Int32))) < 8 + (6 - o) * 8 + 4 then (zcI sc zm_X11_sums [.ref 51] (zw1 S1 51 13 (S1.1 51 13 + (1 : Int32)))).bind K else none) S o N
          (if pbond (cb (pp cb f (2 + 1) o pos).2.1) = 2 then
            if (pp cb f (2 + 1) o ((pp cb f (2 + 1) o pos).2.1 + 1)).1 = true then
              (if 2 = 2 then (true, (pp cb f (2 + 1) o ((pp cb f (2 + 1) o pos).2.1 + 1)).2.1, (pp cb f (2 + 1) o pos).2.2.1 ++ (pp cb f (2 + 1) o ((pp cb f (2 + 1) o pos).2.1 + 1)).2.2.1 ++ [-(nI (cb (pp cb f (2 + 1) o pos).2.1))], fun N => xop ((pp cb f (2 + 1) o pos).2.2.2 N) (nI (cb (pp cb f (2 + 1) o pos).2.1)) ((pp cb f (2 + 1) o ((pp cb f (2 + 1) o pos).2.1 + 1)).2.2.2 N))
               else pjoin (pp cb f (2 + 1) o) cb 2 121 (pp cb f (2 + 1) o ((pp cb f (2 + 1) o pos).2.1 + 1)).2.1 ((pp cb f (2 + 1) o pos).2.2.1 ++ (pp cb f (2 + 1) o ((pp cb f (2 + 1) o pos).2.1 + 1)).2.2.1 ++ [-(nI (cb (pp cb f (2 + 1) o pos).2.1))]) (fun N => xop ((pp cb f (2 + 1) o pos).2.2.2 N) (nI (cb (pp cb f (2 + 1) o pos).2.1)) ((pp cb f (2 + 1) o ((pp cb f (2 + 1) o pos).2.1 + 1)).2.2.2 N)))
            else pbad (pp cb f (2 + 1) o ((pp cb f (2 + 1) o pos).2.1 + 1)).2.1
          else (true, (pp cb f (2 + 1) o pos).2.1, (pp cb f (2 + 1) o pos).2.2.1, (pp cb f (2 + 1) o pos).2.2.2)) := by
      intro hb K hK
      have hlt : (pp cb f (2 + 1) o pos).2.1 < n := by
        by_cases q : (pp cb f (2 + 1) o pos).2.1 < n
        · exact q
        · rw [hz.2.1 _ (by omega)] at hb
          have : pbond 0 = 9 := rfl
          omega
      have hS2 := zMS_adv hS1 hlt
      obtain ⟨w, S2, b1, b2, b3, b4, b5⟩ := HG _ _ hS2
      have f2 : zfr zMF S S2 := zfr_tr a3 (zfr_tr (zfr_w0 51 13 _ rfl) b3)
      rw [a2, n_s1, lv_sums hS2.2.2.2.1 (by omega), if_pos (by omega), if_pos hb, b1, Option.bind_some, hK]
      by_cases g : (pp cb f (2 + 1) o ((pp cb f (2 + 1) o pos).2.1 + 1)).1 = true
      · obtain ⟨g1, g2, g3⟩ := b4 g
        rw [if_pos g, if_pos rfl, g1]
        exact ⟨_, S2, rfl, b2, f2, fun _ => ⟨rfl, g2, g3⟩, fun q => (Bool.false_ne_true q.symm).elim⟩
      · have g' : (pp cb f (2 + 1) o ((pp cb f (2 + 1) o pos).2.1 + 1)).1 = false := by simpa using g
        rw [if_neg g]
        exact ⟨_, S2, rfl, b2, f2, fun q => (Bool.false_ne_true q).elim, fun _ => b5 g'⟩
    by_cases c60 : cb (pp cb f (2 + 1) o pos).2.1 = 60
    · rw [if_pos c60]
      refine second (pb2.mpr (Or.inl c60)) _ (fun w S2 => ?_)
      dsimp only
      rw [ifc (show (nI (cb (pp cb f (2 + 1) o pos).2.1) ≠ (60 : Int32)) = (cb (pp cb f (2 + 1) o pos).2.1 ≠ 60) by rw [ne_eq, e60]), if_neg (fun q => q c60), c60]
      show (if w ≤ (pp cb f (2 + 1) o pos).2.2.2 N then some ((0 : Int32), S2) else some ((1 : Int32), S2)) = some ((if (pp cb f (2 + 1) o pos).2.2.2 N < w then 1 else 0), S2)
      by_cases q : (pp cb f (2 + 1) o pos).2.2.2 N < w
      · rw [if_pos q, if_neg (by rw [zi_le]; rw [zi_lt] at q; omega)]
      · rw [if_neg q, if_pos (by rw [zi_le]; rw [zi_lt] at q; omega)]
    · rw [if_neg c60]
      by_cases c61 : cb (pp cb f (2 + 1) o pos).2.1 = 61
      · rw [if_pos c61]
        refine second (pb2.mpr (Or.inr (Or.inl c61))) _ (fun w S2 => ?_)
        dsimp only
        rw [ifc (show (nI (cb (pp cb f (2 + 1) o pos).2.1) ≠ (60 : Int32)) = (cb (pp cb f (2 + 1) o pos).2.1 ≠ 60) by rw [ne_eq, e60]), if_pos c60, ifc (show (nI (cb (pp cb f (2 + 1) o pos).2.1) ≠ (61 : Int32)) = (cb (pp cb f (2 + 1) o pos).2.1 ≠ 61) by rw [ne_eq, e61]), if_neg (fun q => q c61), c61]
        show (if (pp cb f (2 + 1) o pos).2.2.2 N ≠ w then some ((0 : Int32), S2) else some ((1 : Int32), S2)) = some ((if (pp cb f (2 + 1) o pos).2.2.2 N = w then 1 else 0), S2)
        by_cases q : (pp cb f (2 + 1) o pos).2.2.2 N = w
        · rw [if_pos q, if_neg (fun k => k q)]
        · rw [if_neg q, if_pos q]
      · rw [if_neg c61]
        by_cases c62 : cb (pp cb f (2 + 1) o pos).2.1 = 62
        · rw [if_pos c62]
          refine second (pb2.mpr (Or.inr (Or.inr c62))) _ (fun w S2 => ?_)
          dsimp only
          rw [ifc (show (nI (cb (pp cb f (2 + 1) o pos).2.1) ≠ (60 : Int32)) = (cb (pp cb f (2 + 1) o pos).2.1 ≠ 60) by rw [ne_eq, e60]), if_pos c60, ifc (show (nI (cb (pp cb f (2 + 1) o pos).2.1) ≠ (61 : Int32)) = (cb (pp cb f (2 + 1) o pos).2.1 ≠ 61) by rw [ne_eq, e61]), if_pos c61, c62]
          show (if (pp cb f (2 + 1) o pos).2.2.2 N ≤ w then some ((0 : Int32), S2) else some ((1 : Int32), S2)) = some ((if w < (pp cb f (2 + 1) o pos).2.2.2 N then 1 else 0), S2)
          by_cases q : w < (pp cb f (2 + 1) o pos).2.2.2 N
          · rw [if_pos q, if_neg (by rw [zi_le]; rw [zi_lt] at q; omega)]
          · rw [if_neg q, if_pos (by rw [zi_le]; rw [zi_lt] at q; omega)]
        · rw [if_neg c62, if_neg (by rw [pb2]; omega)]
          exact ⟨_, S1, rfl, a2, a3, fun _ => ⟨rfl, e2, e3⟩, fun q => (Bool.false_ne_true q.symm).elim⟩
  · have e' : (pp cb f (2 + 1) o pos).1 = false := by simpa using e
    rw [if_neg e, a5 e', if_pos (by rw [n_0le (by have := fct.1; omega)]; trivial)]
    exact ⟨v, S1, rfl, a2, a3, fun q => (Bool.false_ne_true q).elim, fun _ => a5 e'⟩
theorem m_product (sc : zSc) {n : Nat} {cb : Nat → Nat} (hz : zcbG n cb) {o f : Nat} (ho : o ≤ 6) {N : Nat → Int32} (HG : ∀ pos S, zMS n cb pos o N S → zMP (zcI sc zm_X11_one [.ref 51] S) S o N (pp cb f 5 o pos))
    (pos : Nat) (S : zS) (h : zMS n cb pos o N S) : zMP (zcI sc zm_X11_product [.ref 51] S) S o N (pp cb (f + 1) 4 o pos) := by
  have hn := hz.1
  show zMP (zO zgI sc (zg1, (zm_X11_product, zlv zm_X11_product [.ref 51] S), 0, S, [some (.ref 51), none, none, none], [])) S o N _
  obtain ⟨v, S1, a1, a2, a3, a4, a5⟩ := HG pos S h
  have fct := pp_fact hz.2.1 f 5 o pos h.2.2.2.2.1
  have hB1 := zMB_cg h.1 a3
  have lb := lv_byteAt S1
  rw [lv_product h.2.2.2.1 (by omega), e_X11_product_0, lv_one h.2.2.2.1 (by omega), if_pos (by omega), a1, Option.bind_some, pp_b cb f o pos (by omega)]
  dsimp only
  rw [if_pos (by omega), s_byteAt sc hz hB1 a2 fct.1, Option.bind_some]
  dsimp only
  by_cases e : (pp cb f (4 + 1) o pos).1 = true
  · obtain ⟨e1, e2, e3⟩ := a4 e
    have hS1 : zMS n cb (pp cb f (4 + 1) o pos).2.1 o N S1 := zMS_cg h a3 a2 e2 e3 fct.1
    rw [if_pos e, e1]
    refine m_join hz (by omega) (by omega) (fun S => zcI sc zm_X11_one [.ref 51] S) (fun S x (a : Int32 × Option Value) => zO zgI sc (zg1, (zm_X11_product, 8 + (6 - o) * 8 + 2), 10, S, [some (.ref 51), some (.int x), some (.int a.1), a.2], [])) (fun p a => a.1 = nI (cb p)) HG ?_ ?_ ?_ S 122 _ _ _ S1 (nI (cb (pp cb f (4 + 1) o pos).2.1), none) (by omega) a3 hS1 rfl
    · intro S x a p hp hq
      try dsimp only
      rw [e_X11_product_10, hp, if_pos (by rw [n_0le hq]; trivial)]
      exact ⟨x, rfl⟩
    · intro S x a pos hS hA hb
      try dsimp only
      have hc := hz.2.2 pos
      have hb' : ¬ (cb pos = 42 ∨ cb pos = 47 ∨ cb pos = 37) := fun q => hb (pb4.mpr q)
      rw [e_X11_product_10, hS.2.2.1, if_neg neg1_ge0, hA, if_neg (by rw [show (42 : Int32) = nI 42 from rfl, n_eq (by omega) (by omega)]; omega), if_neg (by rw [show (47 : Int32) = nI 47 from rfl, n_eq (by omega) (by omega)]; omega), if_pos (by rw [show (37 : Int32) = nI 37 from rfl, n_ne (by omega) (by omega)]; omega)]
    · intro S x a pos hS hA hb hlt
      have hS2 := zMS_adv hS hlt
      -- the next byte is read, then the loop goes on
      have nx : ∀ (y w : Int32) (S2 : zS) (p : Nat), zMB n cb S2 → S2.1 51 13 = nI p → p ≤ n →
          (if zlv zm_X11_byteAt [.ref 51] S2 < 8 + (6 - o) * 8 + 2 then (zcI sc zm_X11_byteAt [.ref 51] S2).bind (fun q => zO zgI sc (zg1, (zm_X11_product, 8 + (6 - o) * 8 + 2), 10, q.2, [some (.ref 51), some (.int y), some (.int q.1), some (.int w)], [])) else none)
          = zO zgI sc (zg1, (zm_X11_product, 8 + (6 - o) * 8 + 2), 10, S2, [some (.ref 51), some (.int y), some (.int (nI (cb p))), some (.int w)], []) := by
        intro y w S2 p g1 g2 g3
        have := lv_byteAt S2
        rw [if_pos (by omega), s_byteAt sc hz g1 g2 g3, Option.bind_some]
      have fin : ∀ (K : Int32 × zS → Option (Int32 × zS)),
          (∀ w S2 p, zMB n cb S2 → S2.1 51 13 = nI p → p ≤ n → K (w, S2) = zO zgI sc (zg1, (zm_X11_product, 8 + (6 - o) * 8 + 2), 10, S2, [some (.ref 51), some (.int (xop x (nI (cb pos)) w)), some (.int (nI (cb p))), some (.int w)], [])) →
          (zO zgI sc (zg1, (zm_X11_product, 8 + (6 - o) * 8 + 2), 10, S, [some (.ref 51), some (.int x), some (.int a.1), a.2], []) = (zcI sc zm_X11_one [.ref 51] (zw1 S 51 13 (nI (pos + 1)))).bind K) →
          ∃ K : Int32 × zS → Option (Int32 × zS), (zO zgI sc (zg1, (zm_X11_product, 8 + (6 - o) * 8 + 2), 10, S, [some (.ref 51), some (.int x), some (.int a.1), a.2], []) = (zcI sc zm_X11_one [.ref 51] (zw1 S 51 13 (nI (pos + 1)))).bind K) ∧
          (∀ w S2 pos2, zMS n cb pos2 o N S2 → ∃ a' : Int32 × Option Value, a'.1 = nI (cb pos2) ∧ K (w, S2) = zO zgI sc (zg1, (zm_X11_product, 8 + (6 - o) * 8 + 2), 10, S2, [some (.ref 51), some (.int (xop x (nI (cb pos)) w)), some (.int a'.1), a'.2], [])) ∧
          (∀ w S2 p, S2.1 51 15 = nI p → p ≤ n → S2.1 51 13 = nI p → zMB n cb S2 → ∃ (x' : Int32) (a' : Int32 × Option Value), K (w, S2) = zO zgI sc (zg1, (zm_X11_product, 8 + (6 - o) * 8 + 2), 10, S2, [some (.ref 51), some (.int x'), some (.int a'.1), a'.2], [])) := by
        intro K hK h1
        exact ⟨K, h1, fun w S2 pos2 g => ⟨(nI (cb pos2), some (.int w)), rfl, hK w S2 pos2 g.1 g.2.1 g.2.2.2.2.1⟩, fun w S2 p _ g2 g3 g4 => ⟨_, (nI (cb p), some (.int w)), hK w S2 p g4 g3 g2⟩⟩
      have hL : zlv zm_X11_one [.ref 51] (zw1 S 51 13 (nI (pos + 1))) < 8 + (6 - o) * 8 + 2 := by rw [lv_one hS2.2.2.2.1 (by omega)]; omega
      rcases pb4.mp hb with c42 | c47 | c37
      · refine fin (fun q => (if (42 : Int32) ≠ 42 then (if q.1 ≠ 0 then (if (42 : Int32) ≠ 47 then (if q.1 = 0 then none else (if zlv zm_X11_byteAt [.ref 51] q.2 < 8 + (6 - o) * 8 + 2 then (zcI sc zm_X11_byteAt [.ref 51] q.2).bind (fun q2 => zO zgI sc (zg1, (zm_X11_product, 8 + (6 - o) * 8 + 2), 10, q2.2, [some (.ref 51), some (.int (x - x / q.1 * q.1)), some (.int q2.1), some (.int q.1)], [])) else none)) else (if q.1 = 0 then none else (if zlv zm_X11_byteAt [.ref 51] q.2 < 8 + (6 - o) * 8 + 2 then (zcI sc zm_X11_byteAt [.ref 51] q.2).bind (fun q2 => zO zgI sc (zg1, (zm_X11_product, 8 + (6 - o) * 8 + 2), 10, q2.2, [some (.ref 51), some (.int (x / q.1)), some (.int q2.1), some (.int q.1)], [])) else none))) else (if zlv zm_X11_byteAt [.ref 51] q.2 < 8 + (6 - o) * 8 + 2 then (zcI sc zm_X11_byteAt [.ref 51] q.2).bind (fun q2 => zO zgI sc (zg1, (zm_X11_product, 8 + (6 - o) * 8 + 2), 10, q2.2, [some (.ref 51), some (.int (0)), some (.int q2.1), some (.int q.1)], [])) else none)) else (if zlv zm_X11_byteAt [.ref 51] q.2 < 8 + (6 - o) * 8 + 2 then (zcI sc zm_X11_byteAt [.ref 51] q.2).bind (fun q2 => zO zgI sc (zg1, (zm_X11_product, 8 + (6 - o) * 8 + 2), 10, q2.2, [some (.ref 51), some (.int (x * q.1)), some (.int q2.1), some (.int q.1)], [])) else none))) ?hK ?h1
        case h1 =>
          try dsimp only
          rw [e_X11_product_10, hS.2.2.1, if_neg neg1_ge0, hA, c42, show nI 42 = (42 : Int32) from rfl, if_pos rfl, hS.2.1, n_s1, if_pos hL]
        case hK =>
          intro w S2 p g1 g2 g3
          try dsimp only
          rw [if_neg (fun q => q rfl), nx _ _ _ p g1 g2 g3, c42]; rfl
      · refine fin (fun q => (if (47 : Int32) ≠ 42 then (if q.1 ≠ 0 then (if (47 : Int32) ≠ 47 then (if q.1 = 0 then none else (if zlv zm_X11_byteAt [.ref 51] q.2 < 8 + (6 - o) * 8 + 2 then (zcI sc zm_X11_byteAt [.ref 51] q.2).bind (fun q2 => zO zgI sc (zg1, (zm_X11_product, 8 + (6 - o) * 8 + 2), 10, q2.2, [some (.ref 51), some (.int (x - x / q.1 * q.1)), some (.int q2.1), some (.int q.1)], [])) else none)) else (if q.1 = 0 then none else (if zlv zm_X11_byteAt [.ref 51] q.2 < 8 + (6 - o) * 8 + 2 then (zcI sc zm_X11_byteAt [.ref 51] q.2).bind (fun q2 => zO zgI sc (zg1, (zm_X11_product, 8 + (6 - o) * 8 + 2), 10, q2.2, [some (.ref 51), some (.int (x / q.1)), some (.int q2.1), some (.int q.1)], [])) else none))) else (if zlv zm_X11_byteAt [.ref 51] q.2 < 8 + (6 - o) * 8 + 2 then (zcI sc zm_X11_byteAt [.ref 51] q.2).bind (fun q2 => zO zgI sc (zg1, (zm_X11_product, 8 + (6 - o) * 8 + 2), 10, q2.2, [some (.ref 51), some (.int (0)), some (.int q2.1), some (.int q.1)], [])) else none)) else (if zlv zm_X11_byteAt [.ref 51] q.2 < 8 + (6 - o) * 8 + 2 then (zcI sc zm_X11_byteAt [.ref 51] q.2).bind (fun q2 => zO zgI sc (zg1, (zm_X11_product, 8 + (6 - o) * 8 + 2), 10, q2.2, [some (.ref 51), some (.int (x * q.1)), some (.int q2.1), some (.int q.1)], [])) else none))) ?hK ?h1
        case h1 =>
          try dsimp only
          rw [e_X11_product_10, hS.2.2.1, if_neg neg1_ge0, hA, c47, show nI 47 = (47 : Int32) from rfl, if_neg (by decide), if_pos rfl, hS.2.1, n_s1, if_pos hL]
        case hK =>
          intro w S2 p g1 g2 g3
          try dsimp only
          rw [if_pos (by decide), c47]
          by_cases q : w = 0
          · rw [if_neg (fun k => k q), nx _ _ _ p g1 g2 g3, show xop x (nI 47) w = if w = 0 then 0 else x / w from rfl, if_pos q]
          · rw [if_pos q, if_neg (fun k => k rfl), if_neg q, nx _ _ _ p g1 g2 g3, show xop x (nI 47) w = if w = 0 then 0 else x / w from rfl, if_neg q]
      · refine fin (fun q => (if (37 : Int32) ≠ 42 then (if q.1 ≠ 0 then (if (37 : Int32) ≠ 47 then (if q.1 = 0 then none else (if zlv zm_X11_byteAt [.ref 51] q.2 < 8 + (6 - o) * 8 + 2 then (zcI sc zm_X11_byteAt [.ref 51] q.2).bind (fun q2 => zO zgI sc (zg1, (zm_X11_product, 8 + (6 - o) * 8 + 2), 10, q2.2, [some (.ref 51), some (.int (x - x / q.1 * q.1)), some (.int q2.1), some (.int q.1)], [])) else none)) else (if q.1 = 0 then none else (if zlv zm_X11_byteAt [.ref 51] q.2 < 8 + (6 - o) * 8 + 2 then (zcI sc zm_X11_byteAt [.ref 51] q.2).bind (fun q2 => zO zgI sc (zg1, (zm_X11_product, 8 + (6 - o) * 8 + 2), 10, q2.2, [some (.ref 51), some (.int (x / q.1)), some (.int q2.1), some (.int q.1)], [])) else none))) else (if zlv zm_X11_byteAt [.ref 51] q.2 < 8 + (6 - o) * 8 + 2 then (zcI sc zm_X11_byteAt [.ref 51] q.2).bind (fun q2 => zO zgI sc (zg1, (zm_X11_product, 8 + (6 - o) * 8 + 2), 10, q2.2, [some (.ref 51), some (.int (0)), some (.int q2.1), some (.int q.1)], [])) else none)) else (if zlv zm_X11_byteAt [.ref 51] q.2 < 8 + (6 - o) * 8 + 2 then (zcI sc zm_X11_byteAt [.ref 51] q.2).bind (fun q2 => zO zgI sc (zg1, (zm_X11_product, 8 + (6 - o) * 8 + 2), 10, q2.2, [some (.ref 51), some (.int (x * q.1)), some (.int q2.1), some (.int q.1)], [])) else none))) ?hK ?h1
        case h1 =>
          try dsimp only
          rw [e_X11_product_10, hS.2.2.1, if_neg neg1_ge0, hA, c37, show nI 37 = (37 : Int32) from rfl, if_neg (by decide), if_neg (by decide), if_neg (fun q => q rfl), hS.2.1, n_s1, if_pos hL]
        case hK =>
          intro w S2 p g1 g2 g3
          try dsimp only
          rw [if_pos (by decide), c37]
          by_cases q : w = 0
          · rw [if_neg (fun k => k q), nx _ _ _ p g1 g2 g3, show xop x (nI 37) w = if w = 0 then 0 else x - x / w * w from rfl, if_pos q]
          · rw [if_pos q, if_pos (by decide), if_neg q, nx _ _ _ p g1 g2 g3, show xop x (nI 37) w = if w = 0 then 0 else x - x / w * w from rfl, if_neg q]
  · have e' : (pp cb f (4 + 1) o pos).1 = false := by simpa using e
    rw [if_neg e, e_X11_product_10, a5 e', if_pos (by rw [n_0le (by have := fct.1; omega)]; trivial)]
    exact ⟨v, S1, rfl, a2, a3, fun q => (Bool.false_ne_true q).elim, fun _ => a5 e'⟩
