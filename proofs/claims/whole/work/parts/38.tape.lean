/-! ===== the class's tape ===== -/
abbrev zTBq (n : Nat) (cb : Nat → Nat) (S : zS) : Prop := S.1 3 2 = nI n ∧ ∀ i, i < n → S.1 4 i = nI (cb i)
abbrev zcbG (n : Nat) (cb : Nat → Nat) : Prop := n ≤ 120 ∧ pend cb n ∧ ∀ i, cb i < 256
abbrev zTF : Nat → Nat → Bool := zk [5] [(3, 3), (3, 4)]
/-- codes laid from a place on -/
abbrev zTO (sz : Nat) (cs : List Int32) (S S' : zS) : Prop := S'.1 3 3 = nI (sz + cs.length) ∧ xcd (S'.1 5) sz cs ∧ ∀ j, j < sz → S'.1 5 j = S.1 5 j
abbrev zTP (F : Option (Int32 × zS)) (S : zS) (sz : Nat) (r : pR) : Prop := ∃ S', F = some (zb (r.1 = true), S') ∧ S'.1 3 4 = nI r.2.1 ∧ zfr zTF S S' ∧ (r.1 = true → zTO sz r.2.2.1 S S')
theorem xcd_rg {f g : Nat → Int32} : ∀ (cs : List Int32) (a : Nat), (∀ j, a ≤ j → j < a + cs.length → g j = f j) → xcd f a cs → xcd g a cs
  | [], _, _, _ => trivial
  | c :: cs, a, h, k => by
    have e : (c :: cs).length = cs.length + 1 := rfl
    rw [e] at h
    exact ⟨(h a (by omega) (by omega)).trans k.1, xcd_rg cs (a + 1) (fun j p q => h j (by omega) (by omega)) k.2⟩
theorem xcd_app {f : Nat → Int32} : ∀ (cs ds : List Int32) (a : Nat), xcd f a cs → xcd f (a + cs.length) ds → xcd f a (cs ++ ds)
  | [], ds, a, _, h => h
  | c :: cs, ds, a, k, h => by
    refine ⟨k.1, xcd_app cs ds (a + 1) k.2 ?_⟩
    rw [show a + 1 + cs.length = a + (c :: cs).length by show _ = a + (cs.length + 1); omega]
    exact h
theorem zTO_app {sz : Nat} {c1 c2 : List Int32} {S S1 S2 : zS} (h : zTO sz c1 S S1) (g : zTO (sz + c1.length) c2 S1 S2) : zTO sz (c1 ++ c2) S S2 := by
  refine ⟨?_, ?_, ?_⟩
  · rw [g.1, List.length_append, Nat.add_assoc]
  · refine xcd_app c1 c2 sz (xcd_rg c1 sz (fun j a b => g.2.2 j (by omega)) h.2.1) g.2.1
  · intro j hj
    rw [g.2.2 j (by omega), h.2.2 j hj]
theorem zTO_pl {sz : Nat} {cs : List Int32} {S S1 : zS} {x : Int32} (h : zTO sz cs S S1) : zTO sz cs S (zw1 S1 3 4 x) :=
  ⟨by rw [zw1_n _ _ (by omega)]; exact h.1, xcd_rg cs sz (fun j _ _ => zw1_n _ _ (by omega)) h.2.1, fun j k => by rw [zw1_n _ _ (by omega)]; exact h.2.2 j k⟩
theorem zTO_pl0 {sz : Nat} {cs : List Int32} {S S1 : zS} {x : Int32} (h : zTO sz cs (zw1 S 3 4 x) S1) : zTO sz cs S S1 :=
  ⟨h.1, h.2.1, fun j k => by rw [h.2.2 j k, zw1_n _ _ (by omega)]⟩
theorem zTBq_cg {n : Nat} {cb : Nat → Nat} {S S' : zS} (h : zTBq n cb S) (f : zfr zTF S S') : zTBq n cb S' :=
  ⟨(f.1 3 2 rfl).trans h.1, fun i k => (f.1 4 i rfl).trans (h.2 i k)⟩
def zlt (n : Nat) (cb : Nat → Nat) (pos : Nat) : Int32 := if pos < n then nI (cb pos) else -1
theorem zlt_e {n : Nat} {cb : Nat → Nat} (hz : zcbG n cb) {pos c : Nat} (hc : 0 < c) (hc' : c < 2147483648) : (zlt n cb pos = nI c) = (cb pos = c) := by
  unfold zlt
  by_cases h : pos < n
  · have := hz.2.2 pos
    rw [if_pos h, n_eq (by omega) hc']
  · rw [if_neg h, hz.2.1 pos (by omega)]
    refine propext ⟨fun e => ?_, fun e => by omega⟩
    rw [zi_eq, zi_nI hc', show (-1 : Int32).toInt = -1 from rfl] at e
    omega
theorem zlt_of {n : Nat} {cb : Nat → Nat} (hz : zcbG n cb) {pos c : Nat} (hc : 0 < c) (h : cb pos = c) : zlt n cb pos = nI c := by
  have := hz.2.2 pos
  rw [zlt_e hz hc (by omega)]; exact h
theorem zlt_in {n : Nat} {cb : Nat → Nat} (hz : zcbG n cb) {pos : Nat} (h : pos < n) : zlt n cb pos = nI (cb pos) := if_pos h
theorem s_letter (sc : zSc) {n : Nat} {cb : Nat → Nat} {S : zS} (hn : n ≤ 120) (h : zTBq n cb S) {pos : Nat} (hp : S.1 3 4 = nI pos) (hle : pos ≤ n) : zcI sc zm_X7_letter [.ref 3] S = some (zlt n cb pos, S) := by
  rw [c_X7_letter, h.1, hp]
  unfold zlt
  by_cases c : pos < n
  · rw [if_neg (by rw [n_le (by omega) (by omega)]; omega), if_neg (by first | (rw [n_ob (by omega)]; omega) | (rw [n_obb (by omega)]; omega)), n_cl (by omega), h.2 pos c, if_pos c]
  · rw [if_pos (by rw [n_le (by omega) (by omega)]; omega), if_neg c]
theorem s_skip (sc : zSc) {n : Nat} {cb : Nat → Nat} {S : zS} (hz : zcbG n cb) (h : zTBq n cb S) {pos c : Nat} (hp : S.1 3 4 = nI pos) (hle : pos ≤ n) (hc : 0 < c) (hc' : c < 256) :
    zcI sc zm_X7_skip [.ref 3, .int (nI c)] S = if cb pos = c then some (1, zw1 S 3 4 (nI (pos + 1))) else some (0, S) := by
  rw [c_X7_skip, s_letter sc hz.1 h hp hle, Option.bind_some]
  dsimp only
  rw [ifc (zlt_e hz hc (by omega)), hp, n_s1]
theorem s_emit (sc : zSc) {S : zS} {sz : Nat} (c : Int32) (h : S.1 3 3 = nI sz) (hs : sz < 121) : ∃ S', zcV sc zm_X7_emit [.ref 3, .int c] S = some S' ∧ zTO sz [c] S S' ∧ S'.1 3 4 = S.1 3 4 ∧ zfr zTF S S' := by
  refine ⟨zw1 (zw1 S 5 sz c) 3 3 (nI (sz + 1)), ?_, ⟨zw1_y _ _ _ _, ⟨by rw [zw1_n _ _ (by omega), zw1_y], trivial⟩, fun j hj => by rw [zw1_n _ _ (by omega), zw1_n _ _ (by omega)]⟩, by rw [zw1_n _ _ (by omega), zw1_n _ _ (by omega)], zfr_w (zfr_w0 5 _ _ rfl) 3 3 _ rfl⟩
  rw [c_X7_emit, h, if_neg (by rw [show (121 : Int32) = nI 121 from rfl, n_le (by omega) (by omega)]; omega), if_neg (by first | (rw [n_ob (by omega)]; omega) | (rw [n_obb (by omega)]; omega)), n_cl (by omega), n_s1]
theorem s_isDigit (sc : zSc) {n : Nat} {cb : Nat → Nat} {S : zS} (hz : zcbG n cb) (pos : Nat) : zcI sc zm_X7_isDigit [.int (zlt n cb pos)] S = some (zb (pdig (cb pos)), S) := by
  rw [c_X7_isDigit, s_within, Option.bind_some]
  dsimp only
  rw [if_pos (zb_01.mpr trivial)]
  refine zb_sm ?_
  have := hz.2.2 pos
  rw [show (48 : Int32).toInt = 48 from rfl, show (57 : Int32).toInt = 57 from rfl]
  unfold zlt pdig
  by_cases c : pos < n
  · rw [if_pos c, zi_nI (by omega)]; omega
  · rw [if_neg c, hz.2.1 pos (by omega), show (-1 : Int32).toInt = -1 from rfl]; omega
theorem zlt_xin {n : Nat} {cb : Nat → Nat} (hz : zcbG n cb) (pos : Nat) : xin (zlt n cb pos) ↔ pnm (cb pos) := by
  have := hz.2.2 pos
  by_cases c : pos < n
  · rw [zlt_in hz c, xin_n this]
  · have e : zlt n cb pos = -1 := if_neg c
    rw [e, hz.2.1 pos (by omega)]
    exact ⟨fun q => absurd q (by decide), fun q => absurd q (by decide)⟩
theorem s_bond (sc : zSc) (S : zS) {c : Nat} (hc : c < 256) : zcI sc zm_X7_bond [.int (nI c)] S = some (if pbond c ≤ 4 then nI (pbond c) else -1, S) := by
  rw [c_X7_bond]
  have e37 : (nI c = (37 : Int32)) = (c = 37) := n_eq (b := 37) (by omega) (by omega)
  have e38 : (nI c = (38 : Int32)) = (c = 38) := n_eq (b := 38) (by omega) (by omega)
  have e42 : (nI c = (42 : Int32)) = (c = 42) := n_eq (b := 42) (by omega) (by omega)
  have e43 : (nI c = (43 : Int32)) = (c = 43) := n_eq (b := 43) (by omega) (by omega)
  have e45 : (nI c = (45 : Int32)) = (c = 45) := n_eq (b := 45) (by omega) (by omega)
  have e47 : (nI c = (47 : Int32)) = (c = 47) := n_eq (b := 47) (by omega) (by omega)
  have e60 : (nI c = (60 : Int32)) = (c = 60) := n_eq (b := 60) (by omega) (by omega)
  have e61 : (nI c = (61 : Int32)) = (c = 61) := n_eq (b := 61) (by omega) (by omega)
  have e62 : (nI c = (62 : Int32)) = (c = 62) := n_eq (b := 62) (by omega) (by omega)
  have e124 : (nI c = (124 : Int32)) = (c = 124) := n_eq (b := 124) (by omega) (by omega)
  rw [ifc e37, ifc e38, ifc e42, ifc e43, ifc e45, ifc e47, ifc e60, ifc e61, ifc e62, ifc e124]
  by_cases h1 : c = 37
  · subst h1; rfl
  rw [if_neg h1]
  by_cases h2 : c = 38
  · subst h2; rfl
  rw [if_neg h2]
  by_cases h3 : c = 42
  · subst h3; rfl
  rw [if_neg h3]
  by_cases h4 : c = 43
  · subst h4; rfl
  rw [if_neg h4]
  by_cases h5 : c = 45
  · subst h5; rfl
  rw [if_neg h5]
  by_cases h6 : c = 47
  · subst h6; rfl
  rw [if_neg h6]
  by_cases h7 : c = 60
  · subst h7; rfl
  rw [if_neg h7]
  by_cases h8 : c = 61
  · subst h8; rfl
  rw [if_neg h8]
  by_cases h9 : c = 62
  · subst h9; rfl
  rw [if_neg h9]
  by_cases h10 : c = 124
  · subst h10; rfl
  rw [if_neg h10]
  have : pbond c = 9 := by
    unfold pbond
    rw [if_neg h10, if_neg h2, if_neg (by omega), if_neg (by omega), if_neg (by omega)]
  rw [this, if_neg (by omega)]
theorem s_number_go (sc : zSc) {n : Nat} {cb : Nat → Nat} (hz : zcbG n cb) {sz : Nat} (hs : sz < 121) : ∀ (k pos v : Nat) (S : zS), k ≤ 4 → zTBq n cb S → S.1 3 4 = nI pos → pos ≤ n → S.1 3 3 = nI sz →
    ∃ S', zO zgV sc (zg1, (zm_X7_number, 3), 4, S, [some (.ref 3), some (.int (nI v)), some (.int (nI (4 - k)))], []) = some S' ∧ S'.1 3 4 = nI (pnum cb k pos v).1 ∧ zfr zTF S S' ∧ zTO sz [nI (pnum cb k pos v).2] S S'
  | 0, pos, v, S, hk, h, hp, hle, h3 => by
    obtain ⟨S', a1, a2, a3, a4⟩ := s_emit sc (nI v) h3 hs
    refine ⟨S', ?_, a3.trans hp, a4, a2⟩
    rw [e_X7_number_4, if_pos (by decide), a1, Option.bind_some]
  | k + 1, pos, v, S, hk, h, hp, hle, h3 => by
    rw [e_X7_number_4, if_neg (by rw [show (4 : Int32) = nI 4 from rfl, n_le (by omega) (by omega)]; omega), s_letter sc hz.1 h hp hle, Option.bind_some]
    dsimp only
    rw [s_isDigit sc hz pos, Option.bind_some]
    dsimp only
    unfold pnum
    by_cases c : pdig (cb pos)
    · have hlt : pos < n := by
        by_cases q : pos < n
        · exact q
        · have := hz.2.1 pos (by omega); omega
      rw [zb_t c, if_neg (by decide), if_pos c, s_letter sc hz.1 h hp hle, Option.bind_some]
      dsimp only
      rw [zlt_in hz hlt, hp, n_s1, show (10 : Int32) = nI 10 from rfl, zn_mul, zn_add, show (48 : Int32) = nI 48 from rfl, zn_sub (by omega), show (1 : Int32) = nI 1 from rfl, zn_add, show 4 - (k + 1) + 1 = 4 - k by omega]
      obtain ⟨S', a1, a2, a3, a4⟩ := s_number_go sc hz hs k (pos + 1) (v * 10 + cb pos - 48) (zw1 S 3 4 (nI (pos + 1))) (by omega) (zTBq_cg h (zfr_w0 3 4 _ rfl)) (zw1_y _ _ _ _) (by omega) (by rw [zw1_n _ _ (by omega)]; exact h3)
      exact ⟨S', a1, a2, zfr_tr (zfr_w0 3 4 _ rfl) a3, zTO_pl0 a4⟩
    · obtain ⟨S', a1, a2, a3, a4⟩ := s_emit sc (nI v) h3 hs
      rw [zb_f c, if_pos rfl, if_neg c, a1, Option.bind_some]
      exact ⟨S', rfl, a3.trans hp, a4, a2⟩
theorem lv_letter (S : zS) : zlv zm_X7_letter [.ref 3] S < 8 := by show zl0 zm_X7_letter < 8; decide
theorem lv_bond (S : zS) (x : Int32) : zlv zm_X7_bond [.int x] S < 8 := by show zl0 zm_X7_bond < 8; decide
theorem lv_emit (S : zS) (x : Int32) : zlv zm_X7_emit [.ref 3, .int x] S < 8 := by show zl0 zm_X7_emit < 8; decide
theorem lv_isDigit (S : zS) (x : Int32) : zlv zm_X7_isDigit [.int x] S < 8 := by show zl0 zm_X7_isDigit < 8; decide
theorem lv_isName (S : zS) (x : Int32) : zlv zm_X3_isName [.int x] S < 8 := by show zl0 zm_X3_isName < 8; decide
theorem lv_number (S : zS) : zlv zm_X7_number [.ref 3] S < 8 := by show zl0 zm_X7_number < 8; decide
theorem lv_skip (S : zS) (x : Int32) : zlv zm_X7_skip [.ref 3, .int x] S < 8 := by show zl0 zm_X7_skip < 8; decide
theorem lv_part (S : zS) {b o : Nat} (hb : b < 2147483648) (ho : o < 2147483648) : zlv zm_X7_part [.ref 3, .int (nI b), .int (nI o)] S = 8 + (6 - o) * 8 + (6 - b) := by
  show 8 + (6 - (nI o).toNatClampNeg) * 8 + (6 - (nI b).toNatClampNeg) = _
  rw [n_cl hb, n_cl ho]
theorem lv_operand (S : zS) {o : Nat} (ho : o < 2147483648) : zlv zm_X7_operand [.ref 3, .int (nI o)] S = 8 + (6 - o) * 8 := by
  show 8 + (6 - (nI o).toNatClampNeg) * 8 = _
  rw [n_cl ho]
/-- a state at a place, with so many codes -/
abbrev zTS (n : Nat) (cb : Nat → Nat) (pos sz : Nat) (S : zS) : Prop := zTBq n cb S ∧ S.1 3 4 = nI pos ∧ S.1 3 3 = nI sz ∧ pos ≤ n ∧ sz ≤ pos
theorem s_join (sc : zSc) {n : Nat} {cb : Nat → Nat} (hz : zcbG n cb) {b o f : Nat} (hb : b ≤ 4) (ho : o ≤ 6)
    (HG : ∀ (pos sz : Nat) (S : zS), zTS n cb pos sz S → zTP (zcI sc zm_X7_part [.ref 3, .int (nI (b + 1)), .int (nI o)] S) S sz (pp cb f (b + 1) o pos)) (S0 : zS) (sz : Nat) :
    ∀ (k pos : Nat) (acc : List Int32) (v : (Nat → Int32) → Int32) (S : zS) (o4 : Option Value), n < k + pos → zfr zTF S0 S → zTS n cb pos (sz + acc.length) S → zTO sz acc S0 S →
    zTP (zO zgI sc (zg1, (zm_X7_part, 8 + (6 - o) * 8 + (6 - b)), 26, S, [some (.ref 3), some (.int (nI b)), some (.int (nI o)), some (.int (1 : Int32)), o4], [])) S0 sz (pjoin (pp cb f (b + 1) o) cb b k pos acc v)
  | 0, pos, acc, v, S, o4, hk, hf, hS, hO => by have := hS.2.2.2.1; omega
  | k + 1, pos, acc, v, S, o4, hk, hf, hS, hO => by
    obtain ⟨h1, h2, h3, h4, h5⟩ := hS
    have hn := hz.1
    rw [e_X7_part_26, if_neg (by decide), h1.1, h2]
    unfold pjoin
    by_cases c : pos < n
    · have hc := hz.2.2 pos
      rw [if_neg (by rw [n_le (by omega) (by omega)]; omega), if_pos (by have := lv_letter S; omega), s_letter sc hz.1 h1 h2 h4, Option.bind_some]
      dsimp only
      rw [zlt_in hz c, if_pos (by have := lv_bond S (nI (cb pos)); omega), s_bond sc S hc, Option.bind_some]
      dsimp only
      have hbd : ((if pbond (cb pos) ≤ 4 then nI (pbond (cb pos)) else (-1 : Int32)) ≠ nI b) = ¬ (pbond (cb pos) = b) := by
        by_cases q : pbond (cb pos) ≤ 4
        · rw [if_pos q, n_ne (by omega) (by omega)]
        · rw [if_neg q]
          refine propext ⟨fun _ => by omega, fun _ e => ?_⟩
          rw [zi_eq, zi_nI (by omega), show (-1 : Int32).toInt = -1 from rfl] at e
          omega
      rw [ifc hbd]
      by_cases d : pbond (cb pos) = b
      · rw [if_neg (fun q => q d), if_pos d, if_pos (by have := lv_letter S; omega), s_letter sc hz.1 h1 h2 h4, Option.bind_some]
        dsimp only
        rw [zlt_in hz c, h2, n_s1, n_s1, if_pos (by rw [lv_part _ (by omega) (by omega)]; omega)]
        obtain ⟨S1, a1, a2, a3, a4⟩ := HG (pos + 1) (sz + acc.length) (zw1 S 3 4 (nI (pos + 1))) ⟨zTBq_cg h1 (zfr_w0 3 4 _ rfl), zw1_y _ _ _ _, by rw [zw1_n _ _ (by omega)]; exact h3, by omega, by omega⟩
        have fct := pp_fact hz.2.1 f (b + 1) o (pos + 1) (by omega)
        have hf1 : zfr zTF S0 S1 := zfr_tr hf (zfr_tr (zfr_w0 3 4 _ rfl) a3)
        rw [a1, Option.bind_some]
        dsimp only
        by_cases e : (pp cb f (b + 1) o (pos + 1)).1 = true
        · obtain ⟨g1, g2⟩ := fct.2.2 e
          have O1 : zTO sz (acc ++ (pp cb f (b + 1) o (pos + 1)).2.2.1) S0 S1 := zTO_app hO (zTO_pl0 (a4 e))
          obtain ⟨S2, b1, b2, b3, b4⟩ := s_emit sc (-(nI (cb pos))) (a4 e).1 (by have := fct.1; omega)
          have O2 : zTO sz (acc ++ (pp cb f (b + 1) o (pos + 1)).2.2.1 ++ [-(nI (cb pos))]) S0 S2 := zTO_app O1 (by rw [List.length_append, ← Nat.add_assoc]; exact b2)
          have hf2 : zfr zTF S0 S2 := zfr_tr hf1 b4
          rw [if_pos (by rw [zb_n]; exact e), if_pos (by have := lv_emit S1 (-(nI (cb pos))); omega), b1, Option.bind_some, if_pos e, show (2 : Int32) = nI 2 from rfl, ifc (n_eq (a := b) (b := 2) (by omega) (by omega))]
          by_cases m : b = 2
          · rw [if_pos m, if_pos m, e_X7_part_26, if_pos rfl]
            exact ⟨S2, rfl, b3.trans a2, hf2, fun _ => O2⟩
          · rw [if_neg m, if_neg m]
            have hl : (acc ++ (pp cb f (b + 1) o (pos + 1)).2.2.1 ++ [-(nI (cb pos))]).length = acc.length + (pp cb f (b + 1) o (pos + 1)).2.2.1.length + 1 := by rw [List.length_append, List.length_append]; rfl
            exact s_join sc hz hb ho HG S0 sz k _ _ _ S2 _ (by omega) hf2 ⟨zTBq_cg h1 (zfr_tr (zfr_tr (zfr_w0 3 4 _ rfl) a3) b4), b3.trans a2, O2.1, fct.1, by rw [hl]; omega⟩ O2
        · rw [if_neg (by rw [zb_n]; exact e), if_neg e]
          exact ⟨S1, rfl, a2, hf1, fun q => (Bool.false_ne_true q).elim⟩
      · rw [if_pos d, if_neg d]
        exact ⟨S, rfl, h2, hf, fun _ => hO⟩
    · rw [if_pos (by rw [n_le (by omega) (by omega)]; omega), if_neg (by rw [hz.2.1 pos (by omega)]; show ¬ (9 = b); omega)]
      exact ⟨S, rfl, h2, hf, fun _ => hO⟩
abbrev zPP (sc : zSc) (n : Nat) (cb : Nat → Nat) (f : Nat) : Prop :=
  (∀ (o pos sz : Nat) (S : zS), o ≤ 6 → (6 - o) * 6 + 1 ≤ f → zTS n cb pos sz S → zTP (zcI sc zm_X7_operand [.ref 3, .int (nI o)] S) S sz (pp cb f 5 o pos)) ∧
  (∀ (b o pos sz : Nat) (S : zS), b ≤ 5 → o ≤ 6 → (6 - o) * 6 + (5 - b) + 1 ≤ f → zTS n cb pos sz S → zTP (zcI sc zm_X7_part [.ref 3, .int (nI b), .int (nI o)] S) S sz (pp cb f b o pos))
theorem s_operand (sc : zSc) {n : Nat} {cb : Nat → Nat} (hz : zcbG n cb) {f : Nat} (IH : zPP sc n cb f) (o pos sz : Nat) (S : zS) (ho : o ≤ 6) (hf : (6 - o) * 6 ≤ f) (hS : zTS n cb pos sz S) : zTP (zcI sc zm_X7_operand [.ref 3, .int (nI o)] S) S sz (pp cb (f + 1) 5 o pos) := by
  obtain ⟨h1, h2, h3, h4, h5⟩ := hS
  have hn := hz.1
  have hc := hz.2.2 pos
  show zTP (zO zgI sc (zg1, (zm_X7_operand, zlv zm_X7_operand [.ref 3, .int (nI o)] S), 0, S, [some (.ref 3), some (.int (nI o)), none], [])) S sz _
  rw [lv_operand S (by omega), e_X7_operand_0, if_pos (by have := lv_letter S; omega), s_letter sc hz.1 h1 h2 h4, Option.bind_some]
  dsimp only
  rw [if_pos (by have := lv_isDigit S (zlt n cb pos); omega), s_isDigit sc hz pos, Option.bind_some]
  dsimp only
  unfold pp
  rw [if_neg (by omega : ¬ 5 ≤ 4)]
  have hlt : cb pos ≠ 0 → pos < n := fun q => by
    by_cases k : pos < n
    · exact k
    · exact absurd (hz.2.1 pos (by omega)) q
  by_cases c1 : pdig (cb pos)
  · obtain ⟨S', a1, a2, a3, a4⟩ := s_number_go sc hz (sz := sz) (by omega) 4 pos 0 S (by omega) h1 h2 h4 h3
    rw [zb_t c1, if_neg (by decide), if_pos c1, if_pos (by have := lv_number S; omega), c_X7_number]
    have a1' : zO zgV sc (zg1, (zm_X7_number, 3), 4, S, [some (.ref 3), some (.int (0 : Int32)), some (.int (0 : Int32))], []) = some S' := a1
    rw [a1', Option.bind_some]
    exact ⟨S', rfl, a2, a3, fun _ => a4⟩
  rw [zb_f c1, if_pos rfl, if_neg c1, if_pos (by have := lv_isName S (zlt n cb pos); omega), s_isName, Option.bind_some]
  dsimp only
  by_cases c2 : pnm (cb pos)
  · have hp := hlt (by unfold pnm at c2; omega)
    obtain ⟨S1, b1, b2, b3, b4⟩ := s_emit sc (S := zw1 S 3 4 (nI (pos + 1))) (sz := sz) (-(nI (cb pos))) (by rw [zw1_n _ _ (by omega)]; exact h3) (by omega)
    rw [zb_t ((zlt_xin hz pos).mpr c2), if_neg (by decide), if_pos c2, zlt_in hz hp, h2, n_s1, if_pos (by have := lv_emit (zw1 S 3 4 (nI (pos + 1))) (-(nI (cb pos))); omega), b1, Option.bind_some]
    exact ⟨S1, rfl, by rw [b3, zw1_y], zfr_tr (zfr_w0 3 4 _ rfl) b4, fun _ => zTO_pl0 b2⟩
  rw [zb_f (fun q => c2 ((zlt_xin hz pos).mp q)), if_pos rfl, if_neg c2]
  -- a sign before an operand
  have unary : ∀ (c : Nat) (code : Int32), cb pos = c → c ≠ 40 → (c = 33 ∨ c = 45) → (if c = 45 then (-126 : Int32) else -33) = code → o < 6 →
      zTP (if zlv zm_X7_operand [.ref 3, .int (nI o + (1 : Int32))] (zw1 S 3 4 (S.1 3 4 + (1 : Int32))) < 8 + (6 - o) * 8 then (zcI sc zm_X7_operand [.ref 3, .int (nI o + (1 : Int32))] (zw1 S 3 4 (S.1 3 4 + (1 : Int32)))).bind (fun q4 => (if q4.1 ≠ 0 then (if zlv zm_X7_emit [.ref 3, .int code] q4.2 < 8 + (6 - o) * 8 then (zcV sc zm_X7_emit [.ref 3, .int code] q4.2).bind (fun q5 => some ((1 : Int32), q5)) else none) else some ((0 : Int32), q4.2))) else none) S sz
        (if (pp cb f 5 (o + 1) (pos + 1)).1 = true then
          (true, (pp cb f 5 (o + 1) (pos + 1)).2.1, (pp cb f 5 (o + 1) (pos + 1)).2.2.1 ++ [if cb pos = 45 then -126 else -33], fun N => if cb pos = 45 then -((pp cb f 5 (o + 1) (pos + 1)).2.2.2 N) else (if (pp cb f 5 (o + 1) (pos + 1)).2.2.2 N = 0 then 1 else 0))
        else pbad (pp cb f 5 (o + 1) (pos + 1)).2.1) := by
    intro c code e1 e2 e3 e4 e5
    have hp := hlt (by omega)
    have fct := pp_fact hz.2.1 f 5 (o + 1) (pos + 1) (by omega)
    rw [h2, n_s1, n_s1, lv_operand _ (by omega), if_pos (by omega)]
    obtain ⟨S1, a1, a2, a3, a4⟩ := IH.1 (o + 1) (pos + 1) sz (zw1 S 3 4 (nI (pos + 1))) (by omega) (by omega) ⟨zTBq_cg h1 (zfr_w0 3 4 _ rfl), zw1_y _ _ _ _, by rw [zw1_n _ _ (by omega)]; exact h3, by omega, by omega⟩
    rw [a1, Option.bind_some]
    dsimp only
    by_cases e : (pp cb f 5 (o + 1) (pos + 1)).1 = true
    · obtain ⟨g1, g2⟩ := fct.2.2 e
      obtain ⟨S2, b1, b2, b3, b4⟩ := s_emit sc code (a4 e).1 (by have := fct.1; omega)
      rw [if_pos (by rw [zb_n]; exact e), if_pos e, if_pos (by have := lv_emit S1 code; omega), b1, Option.bind_some, e1, e4]
      exact ⟨S2, rfl, b3.trans a2, zfr_tr (zfr_tr (zfr_w0 3 4 _ rfl) a3) b4, fun _ => zTO_app (zTO_pl0 (a4 e)) b2⟩
    · rw [if_neg (by rw [zb_n]; exact e), if_neg e]
      exact ⟨S1, rfl, a2, zfr_tr (zfr_w0 3 4 _ rfl) a3, fun q => (Bool.false_ne_true q).elim⟩
  by_cases c3 : cb pos = 40
  · have hp := hlt (by omega)
    rw [zlt_of hz (by omega) c3, show nI 40 = (40 : Int32) from rfl, if_pos rfl]
    by_cases c4 : o < 6
    · rw [if_pos (by rw [show (6 : Int32) = nI 6 from rfl, n_lt (by omega) (by omega)]; exact c4), if_neg (by decide), if_pos (c := (cb pos = 40 ∨ cb pos = 33 ∨ cb pos = 45) ∧ o < 6) ⟨Or.inl c3, c4⟩, if_pos c3]
      rw [h2, n_s1, n_s1, show (0 : Int32) = nI 0 from rfl, lv_part _ (by omega) (by omega), if_pos (by omega)]
      have fct := pp_fact hz.2.1 f 0 (o + 1) (pos + 1) (by omega)
      obtain ⟨S1, a1, a2, a3, a4⟩ := IH.2 0 (o + 1) (pos + 1) sz (zw1 S 3 4 (nI (pos + 1))) (by omega) (by omega) (by omega) ⟨zTBq_cg h1 (zfr_w0 3 4 _ rfl), zw1_y _ _ _ _, by rw [zw1_n _ _ (by omega)]; exact h3, by omega, by omega⟩
      have hf1 : zfr zTF S S1 := zfr_tr (zfr_w0 3 4 _ rfl) a3
      rw [a1, Option.bind_some]
      dsimp only
      by_cases e : (pp cb f 0 (o + 1) (pos + 1)).1 = true
      · rw [if_neg (by rw [zb_t e]; decide), if_pos e, if_pos (by have := lv_skip S1 41; omega), show (41 : Int32) = nI 41 from rfl, s_skip sc hz (zTBq_cg h1 hf1) a2 fct.1 (by omega) (by omega)]
        by_cases g : cb (pp cb f 0 (o + 1) (pos + 1)).2.1 = 41
        · rw [if_pos g, if_pos g, Option.bind_some]
          exact ⟨_, rfl, zw1_y _ _ _ _, zfr_w hf1 3 4 _ rfl, fun _ => zTO_pl (zTO_pl0 (a4 e))⟩
        · rw [if_neg g, if_neg g, Option.bind_some]
          exact ⟨S1, rfl, a2, hf1, fun q => (Bool.false_ne_true q).elim⟩
      · rw [if_pos (by rw [zb_f e]; rfl), if_neg e]
        exact ⟨S1, rfl, a2, hf1, fun q => (Bool.false_ne_true q).elim⟩
    · rw [if_neg (by rw [show (6 : Int32) = nI 6 from rfl, n_lt (by omega) (by omega)]; exact c4), if_neg (c := (cb pos = 40 ∨ cb pos = 33 ∨ cb pos = 45) ∧ o < 6) (fun q => c4 q.2)]
      exact ⟨S, rfl, h2, zfr_refl _ _, fun q => (Bool.false_ne_true q).elim⟩
  rw [if_neg (by rw [show (40 : Int32) = nI 40 from rfl, zlt_e hz (by omega) (by omega)]; exact c3)]
  by_cases c5 : cb pos = 33
  · rw [zlt_of hz (by omega) c5, show nI 33 = (33 : Int32) from rfl, if_pos rfl]
    by_cases c4 : o < 6
    · rw [if_pos (by rw [show (6 : Int32) = nI 6 from rfl, n_lt (by omega) (by omega)]; exact c4), if_pos (by decide), if_pos (c := (cb pos = 40 ∨ cb pos = 33 ∨ cb pos = 45) ∧ o < 6) ⟨Or.inr (Or.inl c5), c4⟩, if_neg c3]
      exact unary 33 (-33) c5 (by omega) (Or.inl rfl) rfl c4
    · rw [if_neg (by rw [show (6 : Int32) = nI 6 from rfl, n_lt (by omega) (by omega)]; exact c4), if_neg (c := (cb pos = 40 ∨ cb pos = 33 ∨ cb pos = 45) ∧ o < 6) (fun q => c4 q.2)]
      exact ⟨S, rfl, h2, zfr_refl _ _, fun q => (Bool.false_ne_true q).elim⟩
  rw [if_neg (by rw [show (33 : Int32) = nI 33 from rfl, zlt_e hz (by omega) (by omega)]; exact c5)]
  by_cases c6 : cb pos = 45
  · rw [zlt_of hz (by omega) c6, show nI 45 = (45 : Int32) from rfl, if_neg (by decide)]
    by_cases c4 : o < 6
    · rw [if_pos (by rw [show (6 : Int32) = nI 6 from rfl, n_lt (by omega) (by omega)]; exact c4), if_pos (by decide), if_pos (c := (cb pos = 40 ∨ cb pos = 33 ∨ cb pos = 45) ∧ o < 6) ⟨Or.inr (Or.inr c6), c4⟩, if_neg c3]
      exact unary 45 (-126) c6 (by omega) (Or.inr rfl) rfl c4
    · rw [if_neg (by rw [show (6 : Int32) = nI 6 from rfl, n_lt (by omega) (by omega)]; exact c4), if_neg (c := (cb pos = 40 ∨ cb pos = 33 ∨ cb pos = 45) ∧ o < 6) (fun q => c4 q.2)]
      exact ⟨S, rfl, h2, zfr_refl _ _, fun q => (Bool.false_ne_true q).elim⟩
  rw [if_pos (by rw [show (45 : Int32) = nI 45 from rfl, ne_eq, zlt_e hz (by omega) (by omega)]; exact c6), if_neg (by omega)]
  exact ⟨S, rfl, h2, zfr_refl _ _, fun q => (Bool.false_ne_true q).elim⟩
theorem s_parts (sc : zSc) {n : Nat} {cb : Nat → Nat} (hz : zcbG n cb) : ∀ f, zPP sc n cb f
  | 0 => ⟨fun o pos sz S h1 h2 => by omega, fun b o pos sz S h1 h2 h3 => by omega⟩
  | f + 1 => by
    have IH := s_parts sc hz f
    have A : ∀ (o pos sz : Nat) (S : zS), o ≤ 6 → (6 - o) * 6 + 1 ≤ f + 1 → zTS n cb pos sz S → zTP (zcI sc zm_X7_operand [.ref 3, .int (nI o)] S) S sz (pp cb (f + 1) 5 o pos) :=
      fun o pos sz S h1 h2 h3 => s_operand sc hz IH o pos sz S h1 (by omega) h3
    refine ⟨A, ?_⟩
    intro b o pos sz S hb ho hf hS
    show zTP (zO zgI sc (zg1, (zm_X7_part, zlv zm_X7_part [.ref 3, .int (nI b), .int (nI o)] S), 0, S, [some (.ref 3), some (.int (nI b)), some (.int (nI o)), none, none], [])) S sz _
    rw [lv_part S (by omega) (by omega), e_X7_part_0, show (4 : Int32) = nI 4 from rfl, ifc (n_le (a := b) (b := 4) (by omega) (by omega))]
    by_cases c : b ≤ 4
    · rw [if_pos c, n_s1, lv_part S (by omega) (by omega), if_pos (by omega)]
      obtain ⟨S1, a1, a2, a3, a4⟩ := IH.2 (b + 1) o pos sz S (by omega) ho (by omega) hS
      have fct := pp_fact hz.2.1 f (b + 1) o pos hS.2.2.2.1
      rw [a1, Option.bind_some]
      dsimp only
      rw [pp_b cb f o pos c]
      by_cases e : (pp cb f (b + 1) o pos).1 = true
      · obtain ⟨g1, g2⟩ := fct.2.2 e
        rw [if_pos (by rw [zb_n]; exact e), if_pos e]
        exact s_join sc hz c ho (fun pos sz S h => IH.2 (b + 1) o pos sz S (by omega) ho (by omega) h) S sz 122 _ _ _ S1 none (by have := hz.1; omega) a3 ⟨zTBq_cg hS.1 a3, a2, (a4 e).1, fct.1, by have := hS.2.2.2.2; omega⟩ (a4 e)
      · rw [if_neg (by rw [zb_n]; exact e), if_neg e]
        exact ⟨S1, rfl, a2, a3, fun q => (Bool.false_ne_true q).elim⟩
    · have : b = 5 := by omega
      subst this
      rw [if_neg c, lv_operand S (by omega), if_pos (by omega)]
      obtain ⟨S1, a1, a2, a3, a4⟩ := A o pos sz S ho (by omega) hS
      rw [a1, Option.bind_some]
      dsimp only
      rw [if_pos (zb_01.mpr trivial)]
      exact ⟨S1, rfl, a2, a3, a4⟩
