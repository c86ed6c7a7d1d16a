/-! ===== the model reads a text ===== -/
abbrev zMB (n : Nat) (cb : Nat → Nat) (S : zS) : Prop := S.1 51 14 = nI n ∧ ((S.1 51 12 = -1 ∧ ∀ i, i < n → S.1 57 i = nI (cb i)) ∨ (S.1 51 12 = 0 ∧ ∀ i, i < n → S.1 58 i = nI (cb i)))
abbrev zMF : Nat → Nat → Bool := zk [] [(51, 13), (51, 15), (51, 16)]
abbrev zMS (n : Nat) (cb : Nat → Nat) (pos o : Nat) (N : Nat → Int32) (S : zS) : Prop :=
  zMB n cb S ∧ S.1 51 13 = nI pos ∧ S.1 51 15 = -1 ∧ S.1 51 16 = nI o ∧ pos ≤ n ∧ ∀ i, i < 6 → S.1 59 i = N i
abbrev zMP (F : Option (Int32 × zS)) (S : zS) (o : Nat) (N : Nat → Int32) (r : pR) : Prop :=
  ∃ v S', F = some (v, S') ∧ S'.1 51 13 = nI r.2.1 ∧ zfr zMF S S' ∧ (r.1 = true → v = r.2.2.2 N ∧ S'.1 51 15 = -1 ∧ S'.1 51 16 = nI o) ∧ (r.1 = false → S'.1 51 15 = nI r.2.1)
theorem zMB_cg {n : Nat} {cb : Nat → Nat} {S S' : zS} (h : zMB n cb S) (f : zfr zMF S S') : zMB n cb S' := by
  refine ⟨(f.1 51 14 rfl).trans h.1, ?_⟩
  rcases h.2 with ⟨a, b⟩ | ⟨a, b⟩
  · exact Or.inl ⟨(f.1 51 12 rfl).trans a, fun i k => (f.1 57 i rfl).trans (b i k)⟩
  · exact Or.inr ⟨(f.1 51 12 rfl).trans a, fun i k => (f.1 58 i rfl).trans (b i k)⟩
theorem zMS_cg {n : Nat} {cb : Nat → Nat} {pos o pos' o' : Nat} {N : Nat → Int32} {S S' : zS} (h : zMS n cb pos o N S) (f : zfr zMF S S') (e1 : S'.1 51 13 = nI pos') (e2 : S'.1 51 15 = -1) (e3 : S'.1 51 16 = nI o') (e4 : pos' ≤ n) : zMS n cb pos' o' N S' :=
  ⟨zMB_cg h.1 f, e1, e2, e3, e4, fun i k => (f.1 59 i rfl).trans (h.2.2.2.2.2 i k)⟩
theorem zMS_adv {n : Nat} {cb : Nat → Nat} {pos o : Nat} {N : Nat → Int32} {S : zS} (h : zMS n cb pos o N S) (e : pos < n) : zMS n cb (pos + 1) o N (zw1 S 51 13 (nI (pos + 1))) :=
  zMS_cg h (zfr_w0 51 13 _ rfl) (zw1_y _ _ _ _) (by rw [zw1_n _ _ (by omega)]; exact h.2.2.1) (by rw [zw1_n _ _ (by omega)]; exact h.2.2.2.1) (by omega)
theorem s_byteAt (sc : zSc) {n : Nat} {cb : Nat → Nat} (hz : zcbG n cb) {S : zS} (h : zMB n cb S) {pos : Nat} (hp : S.1 51 13 = nI pos) (hle : pos ≤ n) : zcI sc zm_X11_byteAt [.ref 51] S = some (nI (cb pos), S) := by
  have hn := hz.1
  rw [c_X11_byteAt, h.1, hp]
  by_cases c : pos < n
  · rw [if_neg (by rw [n_le (by omega) (by omega)]; omega)]
    rcases h.2 with ⟨a, b⟩ | ⟨a, b⟩
    · rw [a, if_neg (by decide), if_neg (by first | (rw [n_ob (by omega)]; omega) | (rw [n_obb (by omega)]; omega)), n_cl (by omega), b pos c]
    · have e0 : (0 : Int32) + nI pos = nI pos := by rw [show (0 : Int32) = nI 0 from rfl, zn_add, Nat.zero_add]
      rw [a, if_pos (by decide), e0, if_neg (by first | (rw [n_ob (by omega)]; omega) | (rw [n_obb (by omega)]; omega)), n_cl (by omega), b pos c]
  · rw [if_pos (by rw [n_le (by omega) (by omega)]; omega), hz.2.1 pos (by omega)]; rfl
theorem neg1_lt0 : ((-1 : Int32) < 0) = True := by decide
theorem neg1_ge0 : ¬ ((0 : Int32) ≤ -1) := by decide
theorem s_takes (sc : zSc) {n : Nat} {cb : Nat → Nat} (hz : zcbG n cb) {S : zS} {pos o : Nat} {N : Nat → Int32} (h : zMS n cb pos o N S) {c : Nat} (hc : c < 256) :
    zcI sc zm_X11_takes [.ref 51, .int (nI c)] S = if cb pos = c then some (1, zw1 S 51 13 (nI (pos + 1))) else some (0, S) := by
  have := hz.2.2 pos
  rw [c_X11_takes, h.2.2.1, if_neg neg1_ge0, s_byteAt sc hz h.1 h.2.1 h.2.2.2.2.1, Option.bind_some]
  try dsimp only
  rw [ifc (n_eq (a := cb pos) (b := c) (by omega) (by omega)), h.2.1, n_s1]
theorem s_takesF (sc : zSc) {S : zS} {p : Nat} (h : S.1 51 15 = nI p) (hp : p < 2147483648) (c : Int32) : zcI sc zm_X11_takes [.ref 51, .int c] S = some (0, S) := by
  rw [c_X11_takes, h, if_pos (by rw [n_0le hp]; trivial)]
theorem s_wrong (sc : zSc) {S : zS} {pos : Nat} (h : S.1 51 15 = -1) (hp : S.1 51 13 = nI pos) : zcI sc zm_X11_wrong [.ref 51] S = some (0, zw1 S 51 15 (nI pos)) := by
  rw [c_X11_wrong, h, if_neg neg1_ge0, hp]
theorem s_wrongF (sc : zSc) {S : zS} {p : Nat} (h : S.1 51 15 = nI p) (hp : p < 2147483648) : zcI sc zm_X11_wrong [.ref 51] S = some (0, zw1 S 51 15 (nI p)) := by
  rw [c_X11_wrong, h, if_pos (by rw [n_0le hp]; trivial)]
theorem lv_byteAt (S : zS) : zlv zm_X11_byteAt [.ref 51] S < 8 := by show zl0 zm_X11_byteAt < 8; decide
theorem lv_takes (S : zS) (x : Int32) : zlv zm_X11_takes [.ref 51, .int x] S < 8 := by show zl0 zm_X11_takes < 8; decide
theorem lv_wrong (S : zS) : zlv zm_X11_wrong [.ref 51] S < 8 := by show zl0 zm_X11_wrong < 8; decide
theorem lv_nameOf (S : zS) (x : Int32) : zlv zm_X11_nameOf [.int x] S < 8 := by show zl0 zm_X11_nameOf < 8; decide
theorem lv_either {S : zS} {o : Nat} (h : S.1 51 16 = nI o) (ho : o < 2147483648) : zlv zm_X11_either [.ref 51] S = 8 + (6 - o) * 8 + 6 := by
  show 8 + (6 - (S.1 51 16).toNatClampNeg) * 8 + 6 = _; rw [h, n_cl ho]
theorem lv_both {S : zS} {o : Nat} (h : S.1 51 16 = nI o) (ho : o < 2147483648) : zlv zm_X11_both [.ref 51] S = 8 + (6 - o) * 8 + 5 := by
  show 8 + (6 - (S.1 51 16).toNatClampNeg) * 8 + 5 = _; rw [h, n_cl ho]
theorem lv_compared {S : zS} {o : Nat} (h : S.1 51 16 = nI o) (ho : o < 2147483648) : zlv zm_X11_compared [.ref 51] S = 8 + (6 - o) * 8 + 4 := by
  show 8 + (6 - (S.1 51 16).toNatClampNeg) * 8 + 4 = _; rw [h, n_cl ho]
theorem lv_sums {S : zS} {o : Nat} (h : S.1 51 16 = nI o) (ho : o < 2147483648) : zlv zm_X11_sums [.ref 51] S = 8 + (6 - o) * 8 + 3 := by
  show 8 + (6 - (S.1 51 16).toNatClampNeg) * 8 + 3 = _; rw [h, n_cl ho]
theorem lv_product {S : zS} {o : Nat} (h : S.1 51 16 = nI o) (ho : o < 2147483648) : zlv zm_X11_product [.ref 51] S = 8 + (6 - o) * 8 + 2 := by
  show 8 + (6 - (S.1 51 16).toNatClampNeg) * 8 + 2 = _; rw [h, n_cl ho]
theorem lv_one {S : zS} {o : Nat} (h : S.1 51 16 = nI o) (ho : o < 2147483648) : zlv zm_X11_one [.ref 51] S = 8 + (6 - o) * 8 + 1 := by
  show 8 + (6 - (S.1 51 16).toNatClampNeg) * 8 + 1 = _; rw [h, n_cl ho]
/-- joining, for any of the model's loops -/
theorem m_join {α : Type} {n : Nat} {cb : Nat → Nat} (hz : zcbG n cb) {b o f : Nat} (hb : b ≤ 4) (hb2 : b ≠ 2) {N : Nat → Int32} (M : zS → Option (Int32 × zS)) (W : zS → Int32 → α → Option (Int32 × zS)) (A : Nat → α → Prop)
    (HG : ∀ pos S, zMS n cb pos o N S → zMP (M S) S o N (pp cb f (b + 1) o pos))
    (W1 : ∀ S x a p, S.1 51 15 = nI p → p < 2147483648 → ∃ v, W S x a = some (v, S))
    (W2 : ∀ S x a pos, zMS n cb pos o N S → A pos a → pbond (cb pos) ≠ b → W S x a = some (x, S))
    (W3 : ∀ S x a pos, zMS n cb pos o N S → A pos a → pbond (cb pos) = b → pos < n → ∃ K : Int32 × zS → Option (Int32 × zS), W S x a = (M (zw1 S 51 13 (nI (pos + 1)))).bind K ∧
      (∀ w S2 pos2, zMS n cb pos2 o N S2 → ∃ a', A pos2 a' ∧ K (w, S2) = W S2 (xop x (nI (cb pos)) w) a') ∧
      (∀ w S2 p, S2.1 51 15 = nI p → p ≤ n → S2.1 51 13 = nI p → zMB n cb S2 → ∃ x' a', K (w, S2) = W S2 x' a'))
    (S0 : zS) : ∀ (k pos : Nat) (acc : List Int32) (v : (Nat → Int32) → Int32) (S : zS) (a : α), n < k + pos → zfr zMF S0 S → zMS n cb pos o N S → A pos a →
    zMP (W S (v N) a) S0 o N (pjoin (pp cb f (b + 1) o) cb b k pos acc v)
  | 0, pos, acc, v, S, a, hk, hf, hS, hA => by have := hS.2.2.2.2.1; omega
  | k + 1, pos, acc, v, S, a, hk, hf, hS, hA => by
    have hn := hz.1
    unfold pjoin
    by_cases c : pbond (cb pos) = b
    · have hlt : pos < n := by
        by_cases q : pos < n
        · exact q
        · rw [hz.2.1 pos (by omega)] at c
          have : pbond 0 = 9 := rfl
          omega
      obtain ⟨K, k1, k2, k3⟩ := W3 S (v N) a pos hS hA c hlt
      obtain ⟨w, S1, a1, a2, a3, a4, a5⟩ := HG (pos + 1) _ (zMS_adv hS hlt)
      have fct := pp_fact hz.2.1 f (b + 1) o (pos + 1) (by omega)
      have hf1 : zfr zMF S0 S1 := zfr_tr hf (zfr_tr (zfr_w0 51 13 _ rfl) a3)
      rw [if_pos c, k1, a1, Option.bind_some]
      by_cases e : (pp cb f (b + 1) o (pos + 1)).1 = true
      · obtain ⟨e1, e2, e3⟩ := a4 e
        have hS1 : zMS n cb (pp cb f (b + 1) o (pos + 1)).2.1 o N S1 := zMS_cg hS (zfr_tr (zfr_w0 51 13 _ rfl) a3) a2 e2 e3 fct.1
        obtain ⟨a', g1, g2⟩ := k2 w S1 _ hS1
        rw [if_pos e, if_neg hb2, g2, e1]
        exact m_join hz hb hb2 M W A HG W1 W2 W3 S0 k _ _ (fun N => xop (v N) (nI (cb pos)) ((pp cb f (b + 1) o (pos + 1)).2.2.2 N)) S1 a' (by have := (fct.2.2 e).1; omega) hf1 hS1 g1
      · have e' : (pp cb f (b + 1) o (pos + 1)).1 = false := by simpa using e
        obtain ⟨x', a', g1⟩ := k3 w S1 _ (a5 e') fct.1 a2 (zMB_cg hS.1 (zfr_tr (zfr_w0 51 13 _ rfl) a3))
        obtain ⟨y, g2⟩ := W1 S1 x' a' _ (a5 e') (by have := fct.1; omega)
        rw [if_neg e, g1, g2]
        exact ⟨y, S1, rfl, a2, hf1, fun q => (Bool.false_ne_true q).elim, fun _ => a5 e'⟩
    · rw [if_neg c, W2 S (v N) a pos hS hA c]
      exact ⟨v N, S, rfl, hS.2.1, hf, fun _ => ⟨rfl, hS.2.2.1, hS.2.2.2.1⟩, fun q => (Bool.false_ne_true q.symm).elim⟩
theorem pb0 {c : Nat} : pbond c = 0 ↔ c = 124 := by unfold pbond; split <;> (try split) <;> (try split) <;> (try split) <;> (try split) <;> omega
theorem pb1 {c : Nat} : pbond c = 1 ↔ c = 38 := by unfold pbond; split <;> (try split) <;> (try split) <;> (try split) <;> (try split) <;> omega
theorem pb2 {c : Nat} : pbond c = 2 ↔ (c = 60 ∨ c = 61 ∨ c = 62) := by unfold pbond; split <;> (try split) <;> (try split) <;> (try split) <;> (try split) <;> omega
theorem pb3 {c : Nat} : pbond c = 3 ↔ (c = 43 ∨ c = 45) := by unfold pbond; split <;> (try split) <;> (try split) <;> (try split) <;> (try split) <;> omega
theorem pb4 {c : Nat} : pbond c = 4 ↔ (c = 42 ∨ c = 47 ∨ c = 37) := by unfold pbond; split <;> (try split) <;> (try split) <;> (try split) <;> (try split) <;> omega
theorem m_either (sc : zSc) {n : Nat} {cb : Nat → Nat} (hz : zcbG n cb) {o f : Nat} (ho : o ≤ 6) {N : Nat → Int32} (HG : ∀ pos S, zMS n cb pos o N S → zMP (zcI sc zm_X11_both [.ref 51] S) S o N (pp cb f 1 o pos))
    (pos : Nat) (S : zS) (h : zMS n cb pos o N S) : zMP (zcI sc zm_X11_either [.ref 51] S) S o N (pp cb (f + 1) 0 o pos) := by
  have hn := hz.1
  show zMP (zO zgI sc (zg1, (zm_X11_either, zlv zm_X11_either [.ref 51] S), 0, S, [some (.ref 51), none, none], [])) S o N _
  obtain ⟨v, S1, a1, a2, a3, a4, a5⟩ := HG pos S h
  have fct := pp_fact hz.2.1 f 1 o pos h.2.2.2.2.1
  rw [lv_either h.2.2.2.1 (by omega), e_X11_either_0, lv_both h.2.2.2.1 (by omega), if_pos (by omega), a1, Option.bind_some, pp_b cb f o pos (by omega)]
  try dsimp only
  by_cases e : (pp cb f (0 + 1) o pos).1 = true
  · obtain ⟨e1, e2, e3⟩ := a4 e
    have hS1 : zMS n cb (pp cb f (0 + 1) o pos).2.1 o N S1 := zMS_cg h a3 a2 e2 e3 fct.1
    rw [if_pos e, e1]
    refine m_join hz (by omega) (by omega) (fun S => zcI sc zm_X11_both [.ref 51] S) (fun S x (a : Option Value) => zO zgI sc (zg1, (zm_X11_either, 8 + (6 - o) * 8 + 6), 5, S, [some (.ref 51), some (.int x), a], [])) (fun _ _ => True) HG ?_ ?_ ?_ S 122 _ _ _ S1 none (by omega) a3 hS1 trivial
    · intro S x a p hp hq
      try dsimp only
      rw [e_X11_either_5, if_pos (by have := lv_takes S 124; omega), s_takesF sc hp hq, Option.bind_some]
      exact ⟨x, if_pos rfl⟩
    · intro S x a pos hS _ hb
      try dsimp only
      have tk : zcI sc zm_X11_takes [.ref 51, .int (124 : Int32)] S = _ := s_takes sc hz hS (c := 124) (by omega)
      rw [e_X11_either_5, if_pos (by have := lv_takes S 124; omega), tk, if_neg (fun q => hb (pb0.mpr q)), Option.bind_some]
      exact if_pos rfl
    · intro S x a pos hS _ hb hlt
      have tk : zcI sc zm_X11_takes [.ref 51, .int (124 : Int32)] S = _ := s_takes sc hz hS (c := 124) (by omega)
      have hS2 := zMS_adv hS hlt
      refine ⟨fun q2 => (if x ≠ 0 then zO zgI sc (zg1, (zm_X11_either, 8 + (6 - o) * 8 + 6), 5, q2.2, [some (.ref 51), some (.int (1 : Int32)), some (.int q2.1)], []) else (if q2.1 = 0 then zO zgI sc (zg1, (zm_X11_either, 8 + (6 - o) * 8 + 6), 5, q2.2, [some (.ref 51), some (.int (0 : Int32)), some (.int q2.1)], []) else zO zgI sc (zg1, (zm_X11_either, 8 + (6 - o) * 8 + 6), 5, q2.2, [some (.ref 51), some (.int (1 : Int32)), some (.int q2.1)], []))), ?_, ?_, ?_⟩
      · try dsimp only
        rw [e_X11_either_5, if_pos (by have := lv_takes S 124; omega), tk, if_pos (pb0.mp hb), Option.bind_some, if_neg (show ¬ ((1 : Int32) = 0) by decide), lv_both hS2.2.2.2.1 (by omega), if_pos (by omega)]
      · intro w S2 pos2 _
        refine ⟨some (.int w), trivial, ?_⟩
        have : xop x (nI (cb pos)) w = if x ≠ 0 ∨ w ≠ 0 then 1 else 0 := by rw [pb0.mp hb]; rfl
        rw [this]
        try dsimp only
        by_cases c1 : x = 0
        · rw [if_neg (fun q => q c1)]
          by_cases c2 : w = 0
          · rw [if_pos c2, if_neg (fun q => q.elim (fun k => k c1) (fun k => k c2))]
          · rw [if_neg c2, if_pos (Or.inr c2)]
        · rw [if_pos c1, if_pos (Or.inl c1)]
      · intro w S2 p _ _ _ _
        try dsimp only
        by_cases c1 : x = 0
        · rw [if_neg (fun q => q c1)]
          by_cases c2 : w = 0
          · rw [if_pos c2]; exact ⟨_, _, rfl⟩
          · rw [if_neg c2]; exact ⟨_, _, rfl⟩
        · rw [if_pos c1]; exact ⟨_, _, rfl⟩
  · have e' : (pp cb f (0 + 1) o pos).1 = false := by simpa using e
    rw [if_neg e, e_X11_either_5, if_pos (by have := lv_takes S1 124; omega), s_takesF sc (a5 e') (by have := fct.1; omega), Option.bind_some, if_pos rfl]
    exact ⟨v, S1, rfl, a2, a3, fun q => (Bool.false_ne_true q).elim, fun _ => a5 e'⟩
theorem m_both (sc : zSc) {n : Nat} {cb : Nat → Nat} (hz : zcbG n cb) {o f : Nat} (ho : o ≤ 6) {N : Nat → Int32} (HG : ∀ pos S, zMS n cb pos o N S → zMP (zcI sc zm_X11_compared [.ref 51] S) S o N (pp cb f 2 o pos))
    (pos : Nat) (S : zS) (h : zMS n cb pos o N S) : zMP (zcI sc zm_X11_both [.ref 51] S) S o N (pp cb (f + 1) 1 o pos) := by
  have hn := hz.1
  show zMP (zO zgI sc (zg1, (zm_X11_both, zlv zm_X11_both [.ref 51] S), 0, S, [some (.ref 51), none, none], [])) S o N _
  obtain ⟨v, S1, a1, a2, a3, a4, a5⟩ := HG pos S h
  have fct := pp_fact hz.2.1 f 2 o pos h.2.2.2.2.1
  rw [lv_both h.2.2.2.1 (by omega), e_X11_both_0, lv_compared h.2.2.2.1 (by omega), if_pos (by omega), a1, Option.bind_some, pp_b cb f o pos (by omega)]
  try dsimp only
  by_cases e : (pp cb f (1 + 1) o pos).1 = true
  · obtain ⟨e1, e2, e3⟩ := a4 e
    have hS1 : zMS n cb (pp cb f (1 + 1) o pos).2.1 o N S1 := zMS_cg h a3 a2 e2 e3 fct.1
    rw [if_pos e, e1]
    refine m_join hz (by omega) (by omega) (fun S => zcI sc zm_X11_compared [.ref 51] S) (fun S x (a : Option Value) => zO zgI sc (zg1, (zm_X11_both, 8 + (6 - o) * 8 + 5), 5, S, [some (.ref 51), some (.int x), a], [])) (fun _ _ => True) HG ?_ ?_ ?_ S 122 _ _ _ S1 none (by omega) a3 hS1 trivial
    · intro S x a p hp hq
      try dsimp only
      rw [e_X11_both_5, if_pos (by have := lv_takes S 38; omega), s_takesF sc hp hq, Option.bind_some]
      exact ⟨x, if_pos rfl⟩
    · intro S x a pos hS _ hb
      try dsimp only
      have tk : zcI sc zm_X11_takes [.ref 51, .int (38 : Int32)] S = _ := s_takes sc hz hS (c := 38) (by omega)
      rw [e_X11_both_5, if_pos (by have := lv_takes S 38; omega), tk, if_neg (fun q => hb (pb1.mpr q)), Option.bind_some]
      exact if_pos rfl
    · intro S x a pos hS _ hb hlt
      have tk : zcI sc zm_X11_takes [.ref 51, .int (38 : Int32)] S = _ := s_takes sc hz hS (c := 38) (by omega)
      have hS2 := zMS_adv hS hlt
      refine ⟨fun q2 => (if x = 0 then zO zgI sc (zg1, (zm_X11_both, 8 + (6 - o) * 8 + 5), 5, q2.2, [some (.ref 51), some (.int (0 : Int32)), some (.int q2.1)], []) else (if q2.1 = 0 then zO zgI sc (zg1, (zm_X11_both, 8 + (6 - o) * 8 + 5), 5, q2.2, [some (.ref 51), some (.int (0 : Int32)), some (.int q2.1)], []) else zO zgI sc (zg1, (zm_X11_both, 8 + (6 - o) * 8 + 5), 5, q2.2, [some (.ref 51), some (.int (1 : Int32)), some (.int q2.1)], []))), ?_, ?_, ?_⟩
      · try dsimp only
        rw [e_X11_both_5, if_pos (by have := lv_takes S 38; omega), tk, if_pos (pb1.mp hb), Option.bind_some, if_neg (show ¬ ((1 : Int32) = 0) by decide), lv_compared hS2.2.2.2.1 (by omega), if_pos (by omega)]
      · intro w S2 pos2 _
        refine ⟨some (.int w), trivial, ?_⟩
        have : xop x (nI (cb pos)) w = if x ≠ 0 ∧ w ≠ 0 then 1 else 0 := by rw [pb1.mp hb]; rfl
        rw [this]
        try dsimp only
        by_cases c1 : x = 0
        · rw [if_pos c1, if_neg (fun q => q.1 c1)]
        · rw [if_neg c1]
          by_cases c2 : w = 0
          · rw [if_pos c2, if_neg (fun q => q.2 c2)]
          · rw [if_neg c2, if_pos ⟨c1, c2⟩]
      · intro w S2 p _ _ _ _
        try dsimp only
        by_cases c1 : x = 0
        · rw [if_pos c1]; exact ⟨_, _, rfl⟩
        · rw [if_neg c1]
          by_cases c2 : w = 0
          · rw [if_pos c2]; exact ⟨_, _, rfl⟩
          · rw [if_neg c2]; exact ⟨_, _, rfl⟩
  · have e' : (pp cb f (1 + 1) o pos).1 = false := by simpa using e
    rw [if_neg e, e_X11_both_5, if_pos (by have := lv_takes S1 38; omega), s_takesF sc (a5 e') (by have := fct.1; omega), Option.bind_some, if_pos rfl]
    exact ⟨v, S1, rfl, a2, a3, fun q => (Bool.false_ne_true q).elim, fun _ => a5 e'⟩
theorem m_sums (sc : zSc) {n : Nat} {cb : Nat → Nat} (hz : zcbG n cb) {o f : Nat} (ho : o ≤ 6) {N : Nat → Int32} (HG : ∀ pos S, zMS n cb pos o N S → zMP (zcI sc zm_X11_product [.ref 51] S) S o N (pp cb f 4 o pos))
    (pos : Nat) (S : zS) (h : zMS n cb pos o N S) : zMP (zcI sc zm_X11_sums [.ref 51] S) S o N (pp cb (f + 1) 3 o pos) := by
  have hn := hz.1
  show zMP (zO zgI sc (zg1, (zm_X11_sums, zlv zm_X11_sums [.ref 51] S), 0, S, [some (.ref 51), none, none, none], [])) S o N _
  obtain ⟨v, S1, a1, a2, a3, a4, a5⟩ := HG pos S h
  have fct := pp_fact hz.2.1 f 4 o pos h.2.2.2.2.1
  rw [lv_sums h.2.2.2.1 (by omega), e_X11_sums_0, lv_product h.2.2.2.1 (by omega), if_pos (by omega), a1, Option.bind_some, pp_b cb f o pos (by omega)]
  try dsimp only
  by_cases e : (pp cb f (3 + 1) o pos).1 = true
  · obtain ⟨e1, e2, e3⟩ := a4 e
    have hS1 : zMS n cb (pp cb f (3 + 1) o pos).2.1 o N S1 := zMS_cg h a3 a2 e2 e3 fct.1
    rw [if_pos e, e1]
    refine m_join hz (by omega) (by omega) (fun S => zcI sc zm_X11_product [.ref 51] S) (fun S x (a : Option Value × Option Value) => zO zgI sc (zg1, (zm_X11_sums, 8 + (6 - o) * 8 + 3), 5, S, [some (.ref 51), some (.int x), a.1, a.2], [])) (fun _ _ => True) HG ?_ ?_ ?_ S 122 _ _ _ S1 (none, none) (by omega) a3 hS1 trivial
    · intro S x a p hp hq
      try dsimp only
      rw [e_X11_sums_5, hp, if_pos (by rw [n_0le hq]; trivial)]
      exact ⟨x, rfl⟩
    · intro S x a pos hS _ hb
      try dsimp only
      have hc := hz.2.2 pos
      have hb' : ¬ (cb pos = 43 ∨ cb pos = 45) := fun q => hb (pb3.mpr q)
      have lb := lv_byteAt S
      rw [e_X11_sums_5, hS.2.2.1, if_neg neg1_ge0, if_pos (by omega), s_byteAt sc hz hS.1 hS.2.1 hS.2.2.2.2.1, Option.bind_some]
      try dsimp only
      rw [if_neg (by rw [show (43 : Int32) = nI 43 from rfl, n_eq (by omega) (by omega)]; omega), if_pos (by omega), s_byteAt sc hz hS.1 hS.2.1 hS.2.2.2.2.1, Option.bind_some]
      try dsimp only
      rw [if_pos (by rw [show (45 : Int32) = nI 45 from rfl, n_ne (by omega) (by omega)]; omega)]
    · intro S x a pos hS _ hb hlt
      have hS2 := zMS_adv hS hlt
      have lb := lv_byteAt S
      have hB := s_byteAt sc hz hS.1 hS.2.1 hS.2.2.2.2.1
      rcases pb3.mp hb with c43 | c45
      · refine ⟨fun q4 => zO zgI sc (zg1, (zm_X11_sums, 8 + (6 - o) * 8 + 3), 5, q4.2, [some (.ref 51), some (.int (x + q4.1)), some (.int (1 : Int32)), some (.int q4.1)], []), ?_, ?_, ?_⟩
        · try dsimp only
          rw [e_X11_sums_5, hS.2.2.1, if_neg neg1_ge0, if_pos (by omega), hB, Option.bind_some]
          try dsimp only
          rw [c43, show nI 43 = (43 : Int32) from rfl, if_pos rfl, if_pos (by omega), hB, Option.bind_some]
          try dsimp only
          rw [c43, show nI 43 = (43 : Int32) from rfl, if_neg (fun q => q rfl), hS.2.1, n_s1, lv_product hS2.2.2.2.1 (by omega), if_pos (by omega)]
          rfl
        · intro w S2 pos2 _
          refine ⟨(some (.int 1), some (.int w)), trivial, ?_⟩
          rw [c43]; rfl
        · intro w S2 p _ _ _ _
          exact ⟨x + w, (some (.int 1), some (.int w)), rfl⟩
      · refine ⟨fun q4 => zO zgI sc (zg1, (zm_X11_sums, 8 + (6 - o) * 8 + 3), 5, q4.2, [some (.ref 51), some (.int (x - q4.1)), some (.int (0 : Int32)), some (.int q4.1)], []), ?_, ?_, ?_⟩
        · try dsimp only
          rw [e_X11_sums_5, hS.2.2.1, if_neg neg1_ge0, if_pos (by omega), hB, Option.bind_some]
          try dsimp only
          rw [c45, show nI 45 = (45 : Int32) from rfl, if_neg (by decide), if_pos (by omega), hB, Option.bind_some]
          try dsimp only
          rw [c45, show nI 45 = (45 : Int32) from rfl, if_neg (fun q => q rfl), if_pos (by omega), hB, Option.bind_some]
          try dsimp only
          rw [c45, show nI 45 = (45 : Int32) from rfl, if_pos (by decide), hS.2.1, n_s1, lv_product hS2.2.2.2.1 (by omega), if_pos (by omega)]
          rfl
        · intro w S2 pos2 _
          refine ⟨(some (.int 0), some (.int w)), trivial, ?_⟩
          rw [c45]; rfl
        · intro w S2 p _ _ _ _
          exact ⟨x - w, (some (.int 0), some (.int w)), rfl⟩
  · have e' : (pp cb f (3 + 1) o pos).1 = false := by simpa using e
    rw [if_neg e, e_X11_sums_5, a5 e', if_pos (by rw [n_0le (by have := fct.1; omega)]; trivial)]
    exact ⟨v, S1, rfl, a2, a3, fun q => (Bool.false_ne_true q).elim, fun _ => a5 e'⟩
