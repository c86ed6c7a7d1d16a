/-! ===== who, howBold, forWhom ===== -/
abbrev rgF (n : Nat) (P : Nat → Nat → Nat) (cs : List Int32) (gap w m : Nat) (e : Nat → Int64) (p u v : Nat) : Nat := fwV m e (fwM n (zQs P p u v) cs gap w) 31 0
theorem rgF_le {n : Nat} {P : Nat → Nat → Nat} {cs : List Int32} {gap w m : Nat} {e : Nat → Int64} {p u v : Nat} : rgF n P cs gap w m e p u v ≤ 31 := fwV_le _ _ _ 31 0
theorem z2_ne2 {b v : Nat} (hv : v < 2147483648) : (z2 b v ≠ -2) = (b ≠ 0) := by rw [ne_eq, z2_m2 hv]
/-- the first from v on -/
def fsV (G : Nat → Nat) : Nat → Nat → Nat
  | 0, _ => 0
  | k + 1, v => if G v = 0 then v + 1 else fsV G k (v + 1)
theorem m_who_go (sc : zSc) {n : Nat} {P : Nat → Nat → Nat} {cs : List Int32} {gap w d m : Nat} {e : Nat → Int64} (hr : zPR n P) (hw : w < 3) (hd : d < 6) : ∀ (k p : Nat) (S : zS) (o5 o6 : Option Value), p + k = n → zME n P cs gap none S → zRm d m e S →
    ∃ S', zO zgI sc (zg1, (zm_X11_who, 67), 37, S, [some (.ref 51), some (.int (nI d)), some (.int (nI w)), some (.int (nI (hmk (fun p => decide (rgF n P cs gap w m e p 3 0 = 0)) p))), some (.int (nI p)), o5, o6], []) = some (nI (hmk (fun p => decide (rgF n P cs gap w m e p 3 0 = 0)) n), S') ∧ zfr zkMq S S'
  | 0, p, S, o5, o6, hp, hM, hR => by
    have hn := hM.1.2.1
    have : p = n := by omega
    subst this
    refine ⟨S, ?_, zfr_refl _ _⟩
    rw [e_X11_who_37, hM.1.1, if_pos (by rw [n_le (by omega) (by omega)]; omega)]
  | k + 1, p, S, o5, o6, hp, hM, hR => by
    have hn := hM.1.2.1
    have e24 : (24 : Int32) + nI p = nI (24 + p) := zn_add 24 p
    have ob : ¬ (nI (24 + p) < 0 ∨ 66 ≤ (nI (24 + p)).toNatClampNeg) := (by first | (rw [n_ob (by omega)]; omega) | (rw [n_obb (by omega)]; omega))
    have hM1 : zME n (zQs P p 3 0) cs gap none (zw1 S 52 (24 + p) (nI 0)) := zME_s (w := 3) (Or.inl rfl) hM (show p < n by omega) (zfr_refl _ _)
    have hR1 : zRm d m e (zw1 S 52 (24 + p) (nI 0)) := ⟨hR.1, by rw [zw1_n _ _ (by omega)]; exact hR.2.1, hR.2.2⟩
    obtain ⟨S1, a1, a2, a3⟩ := m_firstFalse sc (zQs_PR hr p (Or.inl ⟨rfl, by omega⟩)) hw hd hM1 hR1
    have a1' : zcI sc zm_X11_firstFalse [.ref 51, .int (nI d), .int (nI w)] (zw1 S 52 (24 + p) (0 : Int32)) = _ := a1
    have f2 : zfr zkMq S (zw1 S1 52 (24 + p) (S.1 52 (24 + p))) := by
      have : zfr (zkIt (24 + p)) S (zw1 S1 52 (24 + p) (S.1 52 (24 + p))) := zkIt_w (zfr_tr (zkIt_w (zfr_refl _ _) _) (zfr_up _ _ a2 rfl)) _
      exact zfr_fix this (zw1_y _ _ _ _)
    have hM2 : zME n P cs gap none (zw1 S1 52 (24 + p) (S.1 52 (24 + p))) := by
      refine ⟨⟨(f2.1 51 6 rfl).trans hM.1.1, hn, fun q u hq hu => (f2.1 52 _ rfl).trans (hM.1.2.2 q u hq hu)⟩, (f2.1 52 64 rfl).trans hM.2.1, zTX_cg hM.2.2.1 (f2.1 51 11 rfl) (fun j => f2.1 58 j rfl), zTD_cg hM.2.2.2 (f2.1 51 18 rfl)⟩
    have hR2 : zRm d m e (zw1 S1 52 (24 + p) (S.1 52 (24 + p))) := ⟨hR.1, (f2.1 71 d rfl).trans hR.2.1, fun i hi => by rw [f2.2]; exact hR.2.2 i hi⟩
    have es : hmk (fun p => decide (rgF n P cs gap w m e p 3 0 = 0)) (p + 1) = if decide (rgF n P cs gap w m e p 3 0 = 0) = true then hmk (fun p => decide (rgF n P cs gap w m e p 3 0 = 0)) p ||| 2 ^ p else hmk (fun p => decide (rgF n P cs gap w m e p 3 0 = 0)) p := rfl
    have hle := rgF_le (n := n) (P := P) (cs := cs) (gap := gap) (w := w) (m := m) (e := e) (p := p) (u := 3) (v := 0)
    have z0 : nI (hmk (fun p => decide (rgF n P cs gap w m e p 3 0 = 0)) p) ||| (0 : Int32) = nI (hmk (fun p => decide (rgF n P cs gap w m e p 3 0 = 0)) p) := by rw [show (0 : Int32) = nI 0 from rfl, n_or, Nat.or_zero]
    rw [e_X11_who_37, hM.1.1, if_neg (by rw [n_le (by omega) (by omega)]; omega), e24, if_neg ob, if_neg ob, n_cl (by omega), a1', Option.bind_some]
    dsimp only
    have ob2 : ¬ (nI (24 + p) < 0 ∨ 66 ≤ 24 + p) := (by first | (rw [n_ob (by omega)]; omega) | (rw [n_obb (by omega)]; omega))
    rw [ifc (z2_ne2 (b := rgF n P cs gap w m e p 3 0) (v := rgF n P cs gap w m e p 3 0 - 1) (by omega)), if_neg ob2, if_neg ob2, n_s1, z0, n_sh (by omega), n_or]
    by_cases c : rgF n P cs gap w m e p 3 0 = 0
    · rw [if_pos (decide_eq_true c)] at es
      obtain ⟨S', g1, g2⟩ := m_who_go sc hr hw hd k (p + 1) _ (some (.int (nI (24 + p)))) (some (.int (S.1 52 (24 + p)))) (by omega) hM2 hR2
      rw [es] at g1
      rw [if_neg (fun q => q c)]
      exact ⟨S', g1, zfr_tr f2 g2⟩
    · rw [if_neg (by rw [decide_eq_true_iff]; exact c)] at es
      obtain ⟨S', g1, g2⟩ := m_who_go sc hr hw hd k (p + 1) _ (some (.int (nI (24 + p)))) (some (.int (S.1 52 (24 + p)))) (by omega) hM2 hR2
      rw [es] at g1
      rw [if_pos c]
      exact ⟨S', g1, zfr_tr f2 g2⟩
theorem m_howBold_go (sc : zSc) {n : Nat} {P : Nat → Nat → Nat} {cs : List Int32} {gap w d m p : Nat} {e : Nat → Int64} (hr : zPR n P) (hw : w < 3) (hd : d < 6) (hp : p < n) (x3 had : Int32) {S0 : zS} (hM : zME n P cs gap none S0) (hhad : S0.1 52 (24 + p) = had) (hR : zRm d m e S0) :
    ∀ (k v : Nat) (S : zS), v + k = 8 → zfr (zkIt (24 + p)) S0 S →
    ∃ S', zO zgI sc (zg1, (zm_X11_howBold, 67), 40, S, [some (.ref 51), some (.int (nI d)), some (.int (nI w)), some (.int x3), some (.int (nI (24 + p))), some (.int had), some (.int (-2 : Int32)), some (.int (nI v))], []) = some (z2 (fsV (rgF n P cs gap w m e p 3) k v) (fsV (rgF n P cs gap w m e p 3) k v - 1), S') ∧ zfr zkMq S0 S'
  | 0, v, S, hv, f => by
    have hn := hM.1.2.1
    refine ⟨zw1 S 52 (24 + p) had, ?_, zfr_fix (zkIt_w f had) (by rw [zw1_y, hhad])⟩
    rw [e_X11_howBold_40, if_pos (by rw [show (7 : Int32) = nI 7 from rfl, n_lt (by omega) (by omega)]; omega), if_neg (by first | (rw [n_ob (by omega)]; omega) | (rw [n_obb (by omega)]; omega)), n_cl (by omega)]
    rfl
  | k + 1, v, S, hv, f => by
    have hn := hM.1.2.1
    have ob : ¬ (nI (24 + p) < 0 ∨ 66 ≤ (nI (24 + p)).toNatClampNeg) := (by first | (rw [n_ob (by omega)]; omega) | (rw [n_obb (by omega)]; omega))
    have hM1 : zME n (zQs P p 3 v) cs gap none (zw1 S 52 (24 + p) (nI v)) := zME_s (w := 3) (Or.inl rfl) hM hp f
    have hR1 : zRm d m e (zw1 S 52 (24 + p) (nI v)) := ⟨hR.1, by rw [zw1_n _ _ (by omega)]; exact (f.1 71 d rfl).trans hR.2.1, fun i hi => by rw [zw1_l, f.2]; exact hR.2.2 i hi⟩
    obtain ⟨S1, a1, a2, a3⟩ := m_firstFalse sc (zQs_PR hr p (Or.inl ⟨rfl, by omega⟩)) hw hd hM1 hR1
    have f1 : zfr (zkIt (24 + p)) S0 S1 := zfr_tr (zkIt_w f (nI v)) (zfr_up _ _ a2 rfl)
    have hle := rgF_le (n := n) (P := P) (cs := cs) (gap := gap) (w := w) (m := m) (e := e) (p := p) (u := 3) (v := v)
    have es : fsV (rgF n P cs gap w m e p 3) (k + 1) v = if rgF n P cs gap w m e p 3 v = 0 then v + 1 else fsV (rgF n P cs gap w m e p 3) k (v + 1) := rfl
    rw [e_X11_howBold_40, if_neg (by rw [show (7 : Int32) = nI 7 from rfl, n_lt (by omega) (by omega)]; omega), if_neg (show ¬ ((0 : Int32) ≤ -2) by decide), if_neg ob, n_cl (by omega), a1, Option.bind_some]
    dsimp only
    rw [ifc (z2_ne2 (b := rgF n P cs gap w m e p 3 v) (v := rgF n P cs gap w m e p 3 v - 1) (by omega)), es, n_s1]
    by_cases c : rgF n P cs gap w m e p 3 v = 0
    · rw [if_neg (fun q => q c), if_pos c, show v + 1 - 1 = v by omega, show z2 (v + 1) v = nI v from if_neg (by omega), e_X11_howBold_40, if_neg ob, if_neg ob, n_cl (by omega)]
      refine ⟨zw1 S1 52 (24 + p) had, ?_, zfr_fix (zkIt_w f1 had) (by rw [zw1_y, hhad])⟩
      by_cases q : (7 : Int32) < nI (v + 1)
      · rw [if_pos q]
      · rw [if_neg q, if_pos (by rw [n_0le (by omega)]; trivial)]
    · rw [if_pos c, if_neg c]
      exact m_howBold_go sc hr hw hd hp x3 had hM hhad hR k (v + 1) S1 (by omega) f1
theorem m_forWhom_go (sc : zSc) {n : Nat} {P : Nat → Nat → Nat} {cs : List Int32} {gap w d m p : Nat} {e : Nat → Int64} (hr : zPR n P) (hw : w < 3) (hd : d < 6) (hp : p < n) (x3 x4 had : Int32) {S0 : zS} (hM : zME n P cs gap none S0) (hhad : S0.1 52 (32 + p) = had) (hR : zRm d m e S0) :
    ∀ (k v : Nat) (S : zS), v + k = 256 → zfr (zkIt (32 + p)) S0 S →
    ∃ S', zO zgI sc (zg1, (zm_X11_forWhom, 67), 67, S, [some (.ref 51), some (.int (nI d)), some (.int (nI w)), some (.int x3), some (.int x4), some (.int (nI (32 + p))), some (.int had), some (.int (nI (cnt (fun v => decide (rgF n P cs gap w m e p 4 v = 0)) v))), some (.int (z2 (cnt (fun v => decide (rgF n P cs gap w m e p 4 v = 0)) v) (fsF (fun v => decide (rgF n P cs gap w m e p 4 v = 0)) v))), some (.int (nI v))], []) = some (if x4 ≠ 0 then z2 (cnt (fun v => decide (rgF n P cs gap w m e p 4 v = 0)) 256) (fsF (fun v => decide (rgF n P cs gap w m e p 4 v = 0)) 256) else nI (cnt (fun v => decide (rgF n P cs gap w m e p 4 v = 0)) 256), S') ∧ zfr zkMq S0 S'
  | 0, v, S, hv, f => by
    have hn := hM.1.2.1
    have : v = 256 := by omega
    subst this
    refine ⟨zw1 S 52 (32 + p) had, ?_, zfr_fix (zkIt_w f had) (by rw [zw1_y, hhad])⟩
    rw [e_X11_forWhom_67, if_pos (by decide), if_neg (by first | (rw [n_ob (by omega)]; omega) | (rw [n_obb (by omega)]; omega)), n_cl (by omega), sif]
  | k + 1, v, S, hv, f => by
    have hn := hM.1.2.1
    have ob : ¬ (nI (32 + p) < 0 ∨ 66 ≤ (nI (32 + p)).toNatClampNeg) := (by first | (rw [n_ob (by omega)]; omega) | (rw [n_obb (by omega)]; omega))
    have hM1 : zME n (zQs P p 4 v) cs gap none (zw1 S 52 (32 + p) (nI v)) := zME_s (w := 4) (Or.inr rfl) hM hp f
    have hR1 : zRm d m e (zw1 S 52 (32 + p) (nI v)) := ⟨hR.1, by rw [zw1_n _ _ (by omega)]; exact (f.1 71 d rfl).trans hR.2.1, fun i hi => by rw [zw1_l, f.2]; exact hR.2.2 i hi⟩
    obtain ⟨S1, a1, a2, a3⟩ := m_firstFalse sc (zQs_PR hr p (Or.inr ⟨rfl, by omega⟩)) hw hd hM1 hR1
    have f1 : zfr (zkIt (32 + p)) S0 S1 := zfr_tr (zkIt_w f (nI v)) (zfr_up _ _ a2 rfl)
    have hle := rgF_le (n := n) (P := P) (cs := cs) (gap := gap) (w := w) (m := m) (e := e) (p := p) (u := 4) (v := v)
    have hcl := cnt_le (fun v => decide (rgF n P cs gap w m e p 4 v = 0)) v
    have ec : cnt (fun v => decide (rgF n P cs gap w m e p 4 v = 0)) (v + 1) = cnt (fun v => decide (rgF n P cs gap w m e p 4 v = 0)) v + (if decide (rgF n P cs gap w m e p 4 v = 0) = true then 1 else 0) := rfl
    have ef : fsF (fun v => decide (rgF n P cs gap w m e p 4 v = 0)) (v + 1) = if decide (rgF n P cs gap w m e p 4 v = 0) = true ∧ cnt (fun v => decide (rgF n P cs gap w m e p 4 v = 0)) v = 0 then v else fsF (fun v => decide (rgF n P cs gap w m e p 4 v = 0)) v := rfl
    have IH := m_forWhom_go sc hr hw hd hp x3 x4 had hM hhad hR k (v + 1) S1 (by omega) f1
    rw [e_X11_forWhom_67, if_neg (by rw [show (256 : Int32) = nI 256 from rfl, n_le (by omega) (by omega)]; omega), if_neg ob, n_cl (by omega), a1, Option.bind_some]
    dsimp only
    rw [ifc (z2_ne2 (b := rgF n P cs gap w m e p 4 v) (v := rgF n P cs gap w m e p 4 v - 1) (by omega)), n_s1, n_s1, ifc (n_ne0 (a := cnt (fun v => decide (rgF n P cs gap w m e p 4 v = 0)) v) (by omega))]
    by_cases c : rgF n P cs gap w m e p 4 v = 0
    · rw [if_pos (decide_eq_true c)] at ec
      rw [if_neg (fun q => q c)]
      have nz : ¬ (cnt (fun v => decide (rgF n P cs gap w m e p 4 v = 0)) v + 1 = 0) := by omega
      have zz : ∀ x, z2 (cnt (fun v => decide (rgF n P cs gap w m e p 4 v = 0)) v + 1) x = nI x := fun x => if_neg nz
      rw [ec, zz] at IH
      by_cases z : cnt (fun v => decide (rgF n P cs gap w m e p 4 v = 0)) v = 0
      · rw [if_pos ⟨decide_eq_true c, z⟩] at ef
        rw [ef] at IH
        rw [if_neg (fun q => q z)]
        exact IH
      · rw [if_neg (fun q => z q.2)] at ef
        rw [ef] at IH
        rw [if_pos z, show z2 (cnt (fun v => decide (rgF n P cs gap w m e p 4 v = 0)) v) (fsF (fun v => decide (rgF n P cs gap w m e p 4 v = 0)) v) = nI (fsF (fun v => decide (rgF n P cs gap w m e p 4 v = 0)) v) from if_neg z]
        exact IH
    · rw [if_neg (by rw [decide_eq_true_iff]; exact c)] at ec
      have ec' : cnt (fun v => decide (rgF n P cs gap w m e p 4 v = 0)) (v + 1) = cnt (fun v => decide (rgF n P cs gap w m e p 4 v = 0)) v := ec
      rw [if_neg (fun q => c (of_decide_eq_true q.1))] at ef
      rw [ec', ef] at IH
      rw [if_pos c]
      exact IH
theorem m_askedOf (sc : zSc) {n : Nat} {P : Nat → Nat → Nat} {S : zS} (h : zPM n P S) {d c : Nat} (hs : zcI sc zm_X11_shortsIs [.ref 51, .int (nI d)] S = some (if c = 0 then 1 else shR c, S)) (hc : c < 3) (a2 a3 : Int32) : zcI sc zm_X11_askedOf [.ref 51, .int (nI d), .int a2, .int a3] S = some (if rg a2 2 ∧ rgp a3 n then (if c = 0 then 1 else shR c) else -1, S) := by
  have sne : ¬ ((if c = 0 then 1 else shR c) = (-1 : Int32)) := by
    rcases (by omega : c = 0 ∨ c = 1 ∨ c = 2) with rfl | rfl | rfl <;> decide
  rw [c_X11_askedOf, hs, Option.bind_some]
  dsimp only
  rw [if_neg sne, m_isWay', Option.bind_some]
  dsimp only
  by_cases h2 : rg a2 2
  · rw [zb_t h2, if_neg (show ¬ ((1 : Int32) = 0) by decide), m_isOne sc h, Option.bind_some]
    dsimp only
    by_cases h3 : rgp a3 n
    · rw [zb_t h3, if_pos (show (1 : Int32) ≠ 0 by decide), hs, Option.bind_some, if_pos (c := rg a2 2 ∧ rgp a3 n) ⟨h2, h3⟩]
    · rw [zb_f h3, if_neg (fun q => q rfl), if_neg (c := rg a2 2 ∧ rgp a3 n) (fun q => h3 q.2)]
  · rw [zb_f h2, if_pos rfl, if_neg (c := rg a2 2 ∧ rgp a3 n) (fun q => h2 q.1)]
theorem c_who_0 (sc : zSc) {n : Nat} {P : Nat → Nat → Nat} {cs : List Int32} {gap ver w m : Nat} {e : Nat → Int64} : ∀ (k p : Nat) (S : zS) (o5 : Option Value), p + k = n → zRY n w P P cs gap ver S → zRc 39 40 m e S →
    ∃ S', zO zgI sc (zg1, (zm_X5_ifNotBold, 7), 5, S, [some (.ref 23), some (.ref 39), some (.int (nI n)), some (.int (nI (hmk (fun p => decide (rgF n P cs gap w m e p 3 0 = 0)) p))), some (.int (nI p)), o5], []) = some (nI (hmk (fun p => decide (rgF n P cs gap w m e p 3 0 = 0)) n), S') ∧ zCE n P cs gap ver S' ∧ zfr zkC S S'
  | 0, p, S, o5, hp, hC, hR => by
    have hn := hC.1.1.2.1
    have : p = n := by omega
    subst this
    refine ⟨S, ?_, hC.1, zfr_refl _ _⟩
    rw [e_X5_ifNotBold_39_5, if_pos (by rw [n_le (by omega) (by omega)]; omega)]
  | k + 1, p, S, o5, hp, hC, hR => by
    have hn := hC.1.1.2.1
    have hb := (hC.1.2.1 p (by omega)).2.2.2.2.1
    have ob : ¬ (nI p < 0 ∨ 8 ≤ (nI p).toNatClampNeg) := (by first | (rw [n_ob (by omega)]; omega) | (rw [n_obb (by omega)]; omega))
    have h1 := zRY_s3 (p := p) (v := 0) hC (by omega) (fun _ _ => rfl) (fun _ => rfl)
    have f1 : zfr zkC S (zw1 S 14 p (nI 0)) := zfr_w0 14 p _ rfl
    obtain ⟨S1, a1, a2, a3⟩ := c_firstWrong_39 sc (m := m) (e := e) (fun q => zQs_o P p 3 0 (by omega)) h1 ⟨hR.1, (f1.1 39 2 rfl).trans hR.2.1, hR.2.2⟩
    have a1' : zcI sc zm_X5_firstWrong [.ref 23, .ref 39] (zw1 S 14 p (0 : Int32)) = _ := a1
    have h14 : S.1 14 p = nI (P p 3) := (hC.2.2.2.2.2.2 p (by omega)).1
    have h2 : zRY n w P P cs gap ver (zw1 S1 14 p (nI (P p 3))) := by
      have := zRY_s3 (p := p) (v := P p 3) a2 hb (fun q k => zQs_o P p 3 0 (by omega)) (fun q => zQs_o P p 3 0 (by omega))
      rw [zQs_id] at this
      exact this
    have f2 : zfr zkC S (zw1 S1 14 p (nI (P p 3))) := zfr_w (zfr_tr f1 a3) 14 p _ rfl
    have hR2 : zRc 39 40 m e (zw1 S1 14 p (nI (P p 3))) := ⟨hR.1, (f2.1 39 2 rfl).trans hR.2.1, fun i hi => by rw [f2.2]; exact hR.2.2 i hi⟩
    have hle := rgF_le (n := n) (P := P) (cs := cs) (gap := gap) (w := w) (m := m) (e := e) (p := p) (u := 3) (v := 0)
    have es : hmk (fun p => decide (rgF n P cs gap w m e p 3 0 = 0)) (p + 1) = if decide (rgF n P cs gap w m e p 3 0 = 0) = true then hmk (fun p => decide (rgF n P cs gap w m e p 3 0 = 0)) p ||| 2 ^ p else hmk (fun p => decide (rgF n P cs gap w m e p 3 0 = 0)) p := rfl
    obtain ⟨S', g1, g2, g3⟩ := c_who_0 sc k (p + 1) _ (some (.int (nI (P p 3)))) (by omega) h2 hR2
    rw [e_X5_ifNotBold_39_5, if_neg (by rw [n_le (by omega) (by omega)]; omega), if_neg ob, if_neg ob, n_cl (by omega), a1', Option.bind_some]
    dsimp only
    have ob2 : ¬ (nI p < 0 ∨ 8 ≤ p) := (by first | (rw [n_ob (by omega)]; omega) | (rw [n_obb (by omega)]; omega))
    rw [ifc (z2_ne2 (b := rgF n P cs gap w m e p 3 0) (v := rgF n P cs gap w m e p 3 0 - 1) (by omega)), if_neg ob2, if_neg ob2, h14, n_s1, n_sh (by omega), n_or]
    by_cases c : rgF n P cs gap w m e p 3 0 = 0
    · rw [if_pos (decide_eq_true c)] at es
      rw [es] at g1
      rw [if_neg (fun q => q c)]
      exact ⟨S', g1, g2, zfr_tr f2 g3⟩
    · rw [if_neg (by rw [decide_eq_true_iff]; exact c)] at es
      rw [es] at g1
      rw [if_pos c]
      exact ⟨S', g1, g2, zfr_tr f2 g3⟩
theorem c_howBold_0 (sc : zSc) {n : Nat} {P : Nat → Nat → Nat} {cs : List Int32} {gap ver w m p : Nat} {e : Nat → Int64} (hp : p < n) : ∀ (k v : Nat) (S : zS) (Q : Nat → Nat → Nat), v + k = 8 → zRY n w P Q cs gap ver S → (∀ q, q ≠ p → Q q 3 = P q 3) → (∀ q, Q q 4 = P q 4) → zRc 39 40 m e S →
    ∃ S', zO zgI sc (zg1, (zm_X5_leastBold, 7), 2, S, [some (.ref 23), some (.ref 39), some (.int (nI p)), some (.int (nI v))], []) = some (z2 (fsV (rgF n P cs gap w m e p 3) k v) (fsV (rgF n P cs gap w m e p 3) k v - 1), S') ∧ zCE n P cs gap ver S' ∧ zfr zkC S S'
  | 0, v, S, Q, hv, hC, q3, q4, hR => by
    refine ⟨S, ?_, hC.1, zfr_refl _ _⟩
    rw [e_X5_leastBold_39_2, if_pos (by rw [show (7 : Int32) = nI 7 from rfl, n_lt (by omega) (by omega)]; omega)]
    rfl
  | k + 1, v, S, Q, hv, hC, q3, q4, hR => by
    have hn := hC.1.1.2.1
    have ob : ¬ (nI p < 0 ∨ 8 ≤ (nI p).toNatClampNeg) := (by first | (rw [n_ob (by omega)]; omega) | (rw [n_obb (by omega)]; omega))
    have h1 := zRY_s3 (p := p) (v := v) hC (by omega) q3 q4
    have f1 : zfr zkC S (zw1 S 14 p (nI v)) := zfr_w0 14 p _ rfl
    obtain ⟨S1, a1, a2, a3⟩ := c_firstWrong_39 sc (m := m) (e := e) (fun q => zQs_o P p 3 v (by omega)) h1 ⟨hR.1, (f1.1 39 2 rfl).trans hR.2.1, hR.2.2⟩
    have f2 : zfr zkC S S1 := zfr_tr f1 a3
    have hle := rgF_le (n := n) (P := P) (cs := cs) (gap := gap) (w := w) (m := m) (e := e) (p := p) (u := 3) (v := v)
    have es : fsV (rgF n P cs gap w m e p 3) (k + 1) v = if rgF n P cs gap w m e p 3 v = 0 then v + 1 else fsV (rgF n P cs gap w m e p 3) k (v + 1) := rfl
    rw [e_X5_leastBold_39_2, if_neg (by rw [show (7 : Int32) = nI 7 from rfl, n_lt (by omega) (by omega)]; omega), if_neg ob, n_cl (by omega), a1, Option.bind_some]
    dsimp only
    rw [ifc (z2_ne2 (b := rgF n P cs gap w m e p 3 v) (v := rgF n P cs gap w m e p 3 v - 1) (by omega)), es, n_s1]
    by_cases c : rgF n P cs gap w m e p 3 v = 0
    · rw [if_neg (fun q => q c), if_pos c, show v + 1 - 1 = v by omega, show z2 (v + 1) v = nI v from if_neg (by omega)]
      exact ⟨S1, rfl, a2.1, f2⟩
    · rw [if_pos c, if_neg c]
      obtain ⟨S', g1, g2, g3⟩ := c_howBold_0 sc hp k (v + 1) S1 _ (by omega) a2 (fun q k => zQs_o P p 3 v (by omega)) (fun q => zQs_o P p 3 v (by omega)) ⟨hR.1, (f2.1 39 2 rfl).trans hR.2.1, fun i hi => by rw [f2.2]; exact hR.2.2 i hi⟩
      exact ⟨S', g1, g2, zfr_tr f2 g3⟩
theorem c_forWhom_0 (sc : zSc) {n : Nat} {P : Nat → Nat → Nat} {cs : List Int32} {gap ver w m p : Nat} {e : Nat → Int64} (hp : p < n) (x3 : Int32) : ∀ (k v : Nat) (S : zS) (Q : Nat → Nat → Nat), v + k = 256 → zRY n w P Q cs gap ver S → (∀ q, q ≠ p → Q q 4 = P q 4) → (∀ q, Q q 3 = P q 3) → zRc 39 40 m e S →
    ∃ S', zO zgI sc (zg1, (zm_X5_setsOfFriends, 7), 10, S, [some (.ref 23), some (.ref 39), some (.int (nI p)), some (.int x3), some (.int (nI (cnt (fun v => decide (rgF n P cs gap w m e p 4 v = 0)) v))), some (.int (z2 (cnt (fun v => decide (rgF n P cs gap w m e p 4 v = 0)) v) (fsF (fun v => decide (rgF n P cs gap w m e p 4 v = 0)) v))), some (.int (nI v))], []) = some (if x3 ≠ 0 then z2 (cnt (fun v => decide (rgF n P cs gap w m e p 4 v = 0)) 256) (fsF (fun v => decide (rgF n P cs gap w m e p 4 v = 0)) 256) else nI (cnt (fun v => decide (rgF n P cs gap w m e p 4 v = 0)) 256), S') ∧ zCE n P cs gap ver S' ∧ zfr zkC S S'
  | 0, v, S, Q, hv, hC, q4, q3, hR => by
    have : v = 256 := by omega
    subst this
    refine ⟨S, ?_, hC.1, zfr_refl _ _⟩
    rw [e_X5_setsOfFriends_39_10, if_pos (by decide), sif]
  | k + 1, v, S, Q, hv, hC, q4, q3, hR => by
    have hn := hC.1.1.2.1
    have ob : ¬ (nI p < 0 ∨ 8 ≤ (nI p).toNatClampNeg) := (by first | (rw [n_ob (by omega)]; omega) | (rw [n_obb (by omega)]; omega))
    have h1 := zRY_s4 (p := p) (v := v) hC (by omega) q4 q3
    have f1 : zfr zkC S (zw1 S 15 p (nI v)) := zfr_w0 15 p _ rfl
    obtain ⟨S1, a1, a2, a3⟩ := c_firstWrong_39 sc (m := m) (e := e) (fun q => zQs_o P p 4 v (by omega)) h1 ⟨hR.1, (f1.1 39 2 rfl).trans hR.2.1, hR.2.2⟩
    have f2 : zfr zkC S S1 := zfr_tr f1 a3
    have hle := rgF_le (n := n) (P := P) (cs := cs) (gap := gap) (w := w) (m := m) (e := e) (p := p) (u := 4) (v := v)
    have hcl := cnt_le (fun v => decide (rgF n P cs gap w m e p 4 v = 0)) v
    have ec : cnt (fun v => decide (rgF n P cs gap w m e p 4 v = 0)) (v + 1) = cnt (fun v => decide (rgF n P cs gap w m e p 4 v = 0)) v + (if decide (rgF n P cs gap w m e p 4 v = 0) = true then 1 else 0) := rfl
    have ef : fsF (fun v => decide (rgF n P cs gap w m e p 4 v = 0)) (v + 1) = if decide (rgF n P cs gap w m e p 4 v = 0) = true ∧ cnt (fun v => decide (rgF n P cs gap w m e p 4 v = 0)) v = 0 then v else fsF (fun v => decide (rgF n P cs gap w m e p 4 v = 0)) v := rfl
    obtain ⟨S', g1, g2, g3⟩ := c_forWhom_0 sc hp x3 k (v + 1) S1 _ (by omega) a2 (fun q k => zQs_o P p 4 v (by omega)) (fun q => zQs_o P p 4 v (by omega)) ⟨hR.1, (f2.1 39 2 rfl).trans hR.2.1, fun i hi => by rw [f2.2]; exact hR.2.2 i hi⟩
    rw [e_X5_setsOfFriends_39_10, if_neg (by rw [show (255 : Int32) = nI 255 from rfl, n_lt (by omega) (by omega)]; omega), if_neg ob, n_cl (by omega), a1, Option.bind_some]
    dsimp only
    rw [ifc (z2_ne2 (b := rgF n P cs gap w m e p 4 v) (v := rgF n P cs gap w m e p 4 v - 1) (by omega)), n_s1, n_s1, ifc (n_ne0 (a := cnt (fun v => decide (rgF n P cs gap w m e p 4 v = 0)) v) (by omega))]
    by_cases c : rgF n P cs gap w m e p 4 v = 0
    · rw [if_pos (decide_eq_true c)] at ec
      rw [if_neg (fun q => q c)]
      have nz : ¬ (cnt (fun v => decide (rgF n P cs gap w m e p 4 v = 0)) v + 1 = 0) := by omega
      have zz : ∀ x, z2 (cnt (fun v => decide (rgF n P cs gap w m e p 4 v = 0)) v + 1) x = nI x := fun x => if_neg nz
      rw [ec, zz] at g1
      by_cases z : cnt (fun v => decide (rgF n P cs gap w m e p 4 v = 0)) v = 0
      · rw [if_pos ⟨decide_eq_true c, z⟩] at ef
        rw [ef] at g1
        rw [if_neg (fun q => q z)]
        exact ⟨S', g1, g2, zfr_tr f2 g3⟩
      · rw [if_neg (fun q => z q.2)] at ef
        rw [ef] at g1
        rw [if_pos z, show z2 (cnt (fun v => decide (rgF n P cs gap w m e p 4 v = 0)) v) (fsF (fun v => decide (rgF n P cs gap w m e p 4 v = 0)) v) = nI (fsF (fun v => decide (rgF n P cs gap w m e p 4 v = 0)) v) from if_neg z]
        exact ⟨S', g1, g2, zfr_tr f2 g3⟩
    · rw [if_neg (by rw [decide_eq_true_iff]; exact c)] at ec
      have ec' : cnt (fun v => decide (rgF n P cs gap w m e p 4 v = 0)) (v + 1) = cnt (fun v => decide (rgF n P cs gap w m e p 4 v = 0)) v := ec
      rw [if_neg (fun q => c (of_decide_eq_true q.1))] at ef
      rw [ec', ef] at g1
      rw [if_pos c]
      exact ⟨S', g1, g2, zfr_tr f2 g3⟩
theorem c_who_1 (sc : zSc) {n : Nat} {P : Nat → Nat → Nat} {cs : List Int32} {gap ver w m : Nat} {e : Nat → Int64} : ∀ (k p : Nat) (S : zS) (o5 : Option Value), p + k = n → zRY n w P P cs gap ver S → zRc 41 42 m e S →
    ∃ S', zO zgI sc (zg1, (zm_X5_ifNotBold, 7), 5, S, [some (.ref 23), some (.ref 41), some (.int (nI n)), some (.int (nI (hmk (fun p => decide (rgF n P cs gap w m e p 3 0 = 0)) p))), some (.int (nI p)), o5], []) = some (nI (hmk (fun p => decide (rgF n P cs gap w m e p 3 0 = 0)) n), S') ∧ zCE n P cs gap ver S' ∧ zfr zkC S S'
  | 0, p, S, o5, hp, hC, hR => by
    have hn := hC.1.1.2.1
    have : p = n := by omega
    subst this
    refine ⟨S, ?_, hC.1, zfr_refl _ _⟩
    rw [e_X5_ifNotBold_41_5, if_pos (by rw [n_le (by omega) (by omega)]; omega)]
  | k + 1, p, S, o5, hp, hC, hR => by
    have hn := hC.1.1.2.1
    have hb := (hC.1.2.1 p (by omega)).2.2.2.2.1
    have ob : ¬ (nI p < 0 ∨ 8 ≤ (nI p).toNatClampNeg) := (by first | (rw [n_ob (by omega)]; omega) | (rw [n_obb (by omega)]; omega))
    have h1 := zRY_s3 (p := p) (v := 0) hC (by omega) (fun _ _ => rfl) (fun _ => rfl)
    have f1 : zfr zkC S (zw1 S 14 p (nI 0)) := zfr_w0 14 p _ rfl
    obtain ⟨S1, a1, a2, a3⟩ := c_firstWrong_41 sc (m := m) (e := e) (fun q => zQs_o P p 3 0 (by omega)) h1 ⟨hR.1, (f1.1 41 2 rfl).trans hR.2.1, hR.2.2⟩
    have a1' : zcI sc zm_X5_firstWrong [.ref 23, .ref 41] (zw1 S 14 p (0 : Int32)) = _ := a1
    have h14 : S.1 14 p = nI (P p 3) := (hC.2.2.2.2.2.2 p (by omega)).1
    have h2 : zRY n w P P cs gap ver (zw1 S1 14 p (nI (P p 3))) := by
      have := zRY_s3 (p := p) (v := P p 3) a2 hb (fun q k => zQs_o P p 3 0 (by omega)) (fun q => zQs_o P p 3 0 (by omega))
      rw [zQs_id] at this
      exact this
    have f2 : zfr zkC S (zw1 S1 14 p (nI (P p 3))) := zfr_w (zfr_tr f1 a3) 14 p _ rfl
    have hR2 : zRc 41 42 m e (zw1 S1 14 p (nI (P p 3))) := ⟨hR.1, (f2.1 41 2 rfl).trans hR.2.1, fun i hi => by rw [f2.2]; exact hR.2.2 i hi⟩
    have hle := rgF_le (n := n) (P := P) (cs := cs) (gap := gap) (w := w) (m := m) (e := e) (p := p) (u := 3) (v := 0)
    have es : hmk (fun p => decide (rgF n P cs gap w m e p 3 0 = 0)) (p + 1) = if decide (rgF n P cs gap w m e p 3 0 = 0) = true then hmk (fun p => decide (rgF n P cs gap w m e p 3 0 = 0)) p ||| 2 ^ p else hmk (fun p => decide (rgF n P cs gap w m e p 3 0 = 0)) p := rfl
    obtain ⟨S', g1, g2, g3⟩ := c_who_1 sc k (p + 1) _ (some (.int (nI (P p 3)))) (by omega) h2 hR2
    rw [e_X5_ifNotBold_41_5, if_neg (by rw [n_le (by omega) (by omega)]; omega), if_neg ob, if_neg ob, n_cl (by omega), a1', Option.bind_some]
    dsimp only
    have ob2 : ¬ (nI p < 0 ∨ 8 ≤ p) := (by first | (rw [n_ob (by omega)]; omega) | (rw [n_obb (by omega)]; omega))
    rw [ifc (z2_ne2 (b := rgF n P cs gap w m e p 3 0) (v := rgF n P cs gap w m e p 3 0 - 1) (by omega)), if_neg ob2, if_neg ob2, h14, n_s1, n_sh (by omega), n_or]
    by_cases c : rgF n P cs gap w m e p 3 0 = 0
    · rw [if_pos (decide_eq_true c)] at es
      rw [es] at g1
      rw [if_neg (fun q => q c)]
      exact ⟨S', g1, g2, zfr_tr f2 g3⟩
    · rw [if_neg (by rw [decide_eq_true_iff]; exact c)] at es
      rw [es] at g1
      rw [if_pos c]
      exact ⟨S', g1, g2, zfr_tr f2 g3⟩
theorem c_howBold_1 (sc : zSc) {n : Nat} {P : Nat → Nat → Nat} {cs : List Int32} {gap ver w m p : Nat} {e : Nat → Int64} (hp : p < n) : ∀ (k v : Nat) (S : zS) (Q : Nat → Nat → Nat), v + k = 8 → zRY n w P Q cs gap ver S → (∀ q, q ≠ p → Q q 3 = P q 3) → (∀ q, Q q 4 = P q 4) → zRc 41 42 m e S →
    ∃ S', zO zgI sc (zg1, (zm_X5_leastBold, 7), 2, S, [some (.ref 23), some (.ref 41), some (.int (nI p)), some (.int (nI v))], []) = some (z2 (fsV (rgF n P cs gap w m e p 3) k v) (fsV (rgF n P cs gap w m e p 3) k v - 1), S') ∧ zCE n P cs gap ver S' ∧ zfr zkC S S'
  | 0, v, S, Q, hv, hC, q3, q4, hR => by
    refine ⟨S, ?_, hC.1, zfr_refl _ _⟩
    rw [e_X5_leastBold_41_2, if_pos (by rw [show (7 : Int32) = nI 7 from rfl, n_lt (by omega) (by omega)]; omega)]
    rfl
  | k + 1, v, S, Q, hv, hC, q3, q4, hR => by
    have hn := hC.1.1.2.1
    have ob : ¬ (nI p < 0 ∨ 8 ≤ (nI p).toNatClampNeg) := (by first | (rw [n_ob (by omega)]; omega) | (rw [n_obb (by omega)]; omega))
    have h1 := zRY_s3 (p := p) (v := v) hC (by omega) q3 q4
    have f1 : zfr zkC S (zw1 S 14 p (nI v)) := zfr_w0 14 p _ rfl
    obtain ⟨S1, a1, a2, a3⟩ := c_firstWrong_41 sc (m := m) (e := e) (fun q => zQs_o P p 3 v (by omega)) h1 ⟨hR.1, (f1.1 41 2 rfl).trans hR.2.1, hR.2.2⟩
    have f2 : zfr zkC S S1 := zfr_tr f1 a3
    have hle := rgF_le (n := n) (P := P) (cs := cs) (gap := gap) (w := w) (m := m) (e := e) (p := p) (u := 3) (v := v)
    have es : fsV (rgF n P cs gap w m e p 3) (k + 1) v = if rgF n P cs gap w m e p 3 v = 0 then v + 1 else fsV (rgF n P cs gap w m e p 3) k (v + 1) := rfl
    rw [e_X5_leastBold_41_2, if_neg (by rw [show (7 : Int32) = nI 7 from rfl, n_lt (by omega) (by omega)]; omega), if_neg ob, n_cl (by omega), a1, Option.bind_some]
    dsimp only
    rw [ifc (z2_ne2 (b := rgF n P cs gap w m e p 3 v) (v := rgF n P cs gap w m e p 3 v - 1) (by omega)), es, n_s1]
    by_cases c : rgF n P cs gap w m e p 3 v = 0
    · rw [if_neg (fun q => q c), if_pos c, show v + 1 - 1 = v by omega, show z2 (v + 1) v = nI v from if_neg (by omega)]
      exact ⟨S1, rfl, a2.1, f2⟩
    · rw [if_pos c, if_neg c]
      obtain ⟨S', g1, g2, g3⟩ := c_howBold_1 sc hp k (v + 1) S1 _ (by omega) a2 (fun q k => zQs_o P p 3 v (by omega)) (fun q => zQs_o P p 3 v (by omega)) ⟨hR.1, (f2.1 41 2 rfl).trans hR.2.1, fun i hi => by rw [f2.2]; exact hR.2.2 i hi⟩
      exact ⟨S', g1, g2, zfr_tr f2 g3⟩
theorem c_forWhom_1 (sc : zSc) {n : Nat} {P : Nat → Nat → Nat} {cs : List Int32} {gap ver w m p : Nat} {e : Nat → Int64} (hp : p < n) (x3 : Int32) : ∀ (k v : Nat) (S : zS) (Q : Nat → Nat → Nat), v + k = 256 → zRY n w P Q cs gap ver S → (∀ q, q ≠ p → Q q 4 = P q 4) → (∀ q, Q q 3 = P q 3) → zRc 41 42 m e S →
    ∃ S', zO zgI sc (zg1, (zm_X5_setsOfFriends, 7), 10, S, [some (.ref 23), some (.ref 41), some (.int (nI p)), some (.int x3), some (.int (nI (cnt (fun v => decide (rgF n P cs gap w m e p 4 v = 0)) v))), some (.int (z2 (cnt (fun v => decide (rgF n P cs gap w m e p 4 v = 0)) v) (fsF (fun v => decide (rgF n P cs gap w m e p 4 v = 0)) v))), some (.int (nI v))], []) = some (if x3 ≠ 0 then z2 (cnt (fun v => decide (rgF n P cs gap w m e p 4 v = 0)) 256) (fsF (fun v => decide (rgF n P cs gap w m e p 4 v = 0)) 256) else nI (cnt (fun v => decide (rgF n P cs gap w m e p 4 v = 0)) 256), S') ∧ zCE n P cs gap ver S' ∧ zfr zkC S S'
  | 0, v, S, Q, hv, hC, q4, q3, hR => by
    have : v = 256 := by omega
    subst this
    refine ⟨S, ?_, hC.1, zfr_refl _ _⟩
    rw [e_X5_setsOfFriends_41_10, if_pos (by decide), sif]
  | k + 1, v, S, Q, hv, hC, q4, q3, hR => by
    have hn := hC.1.1.2.1
    have ob : ¬ (nI p < 0 ∨ 8 ≤ (nI p).toNatClampNeg) := (by first | (rw [n_ob (by omega)]; omega) | (rw [n_obb (by omega)]; omega))
    have h1 := zRY_s4 (p := p) (v := v) hC (by omega) q4 q3
    have f1 : zfr zkC S (zw1 S 15 p (nI v)) := zfr_w0 15 p _ rfl
    obtain ⟨S1, a1, a2, a3⟩ := c_firstWrong_41 sc (m := m) (e := e) (fun q => zQs_o P p 4 v (by omega)) h1 ⟨hR.1, (f1.1 41 2 rfl).trans hR.2.1, hR.2.2⟩
    have f2 : zfr zkC S S1 := zfr_tr f1 a3
    have hle := rgF_le (n := n) (P := P) (cs := cs) (gap := gap) (w := w) (m := m) (e := e) (p := p) (u := 4) (v := v)
    have hcl := cnt_le (fun v => decide (rgF n P cs gap w m e p 4 v = 0)) v
    have ec : cnt (fun v => decide (rgF n P cs gap w m e p 4 v = 0)) (v + 1) = cnt (fun v => decide (rgF n P cs gap w m e p 4 v = 0)) v + (if decide (rgF n P cs gap w m e p 4 v = 0) = true then 1 else 0) := rfl
    have ef : fsF (fun v => decide (rgF n P cs gap w m e p 4 v = 0)) (v + 1) = if decide (rgF n P cs gap w m e p 4 v = 0) = true ∧ cnt (fun v => decide (rgF n P cs gap w m e p 4 v = 0)) v = 0 then v else fsF (fun v => decide (rgF n P cs gap w m e p 4 v = 0)) v := rfl
    obtain ⟨S', g1, g2, g3⟩ := c_forWhom_1 sc hp x3 k (v + 1) S1 _ (by omega) a2 (fun q k => zQs_o P p 4 v (by omega)) (fun q => zQs_o P p 4 v (by omega)) ⟨hR.1, (f2.1 41 2 rfl).trans hR.2.1, fun i hi => by rw [f2.2]; exact hR.2.2 i hi⟩
    rw [e_X5_setsOfFriends_41_10, if_neg (by rw [show (255 : Int32) = nI 255 from rfl, n_lt (by omega) (by omega)]; omega), if_neg ob, n_cl (by omega), a1, Option.bind_some]
    dsimp only
    rw [ifc (z2_ne2 (b := rgF n P cs gap w m e p 4 v) (v := rgF n P cs gap w m e p 4 v - 1) (by omega)), n_s1, n_s1, ifc (n_ne0 (a := cnt (fun v => decide (rgF n P cs gap w m e p 4 v = 0)) v) (by omega))]
    by_cases c : rgF n P cs gap w m e p 4 v = 0
    · rw [if_pos (decide_eq_true c)] at ec
      rw [if_neg (fun q => q c)]
      have nz : ¬ (cnt (fun v => decide (rgF n P cs gap w m e p 4 v = 0)) v + 1 = 0) := by omega
      have zz : ∀ x, z2 (cnt (fun v => decide (rgF n P cs gap w m e p 4 v = 0)) v + 1) x = nI x := fun x => if_neg nz
      rw [ec, zz] at g1
      by_cases z : cnt (fun v => decide (rgF n P cs gap w m e p 4 v = 0)) v = 0
      · rw [if_pos ⟨decide_eq_true c, z⟩] at ef
        rw [ef] at g1
        rw [if_neg (fun q => q z)]
        exact ⟨S', g1, g2, zfr_tr f2 g3⟩
      · rw [if_neg (fun q => z q.2)] at ef
        rw [ef] at g1
        rw [if_pos z, show z2 (cnt (fun v => decide (rgF n P cs gap w m e p 4 v = 0)) v) (fsF (fun v => decide (rgF n P cs gap w m e p 4 v = 0)) v) = nI (fsF (fun v => decide (rgF n P cs gap w m e p 4 v = 0)) v) from if_neg z]
        exact ⟨S', g1, g2, zfr_tr f2 g3⟩
    · rw [if_neg (by rw [decide_eq_true_iff]; exact c)] at ec
      have ec' : cnt (fun v => decide (rgF n P cs gap w m e p 4 v = 0)) (v + 1) = cnt (fun v => decide (rgF n P cs gap w m e p 4 v = 0)) v := ec
      rw [if_neg (fun q => c (of_decide_eq_true q.1))] at ef
      rw [ec', ef] at g1
      rw [if_pos c]
      exact ⟨S', g1, g2, zfr_tr f2 g3⟩
theorem c_who_2 (sc : zSc) {n : Nat} {P : Nat → Nat → Nat} {cs : List Int32} {gap ver w m : Nat} {e : Nat → Int64} : ∀ (k p : Nat) (S : zS) (o5 : Option Value), p + k = n → zRY n w P P cs gap ver S → zRc 43 44 m e S →
    ∃ S', zO zgI sc (zg1, (zm_X5_ifNotBold, 7), 5, S, [some (.ref 23), some (.ref 43), some (.int (nI n)), some (.int (nI (hmk (fun p => decide (rgF n P cs gap w m e p 3 0 = 0)) p))), some (.int (nI p)), o5], []) = some (nI (hmk (fun p => decide (rgF n P cs gap w m e p 3 0 = 0)) n), S') ∧ zCE n P cs gap ver S' ∧ zfr zkC S S'
  | 0, p, S, o5, hp, hC, hR => by
    have hn := hC.1.1.2.1
    have : p = n := by omega
    subst this
    refine ⟨S, ?_, hC.1, zfr_refl _ _⟩
    rw [e_X5_ifNotBold_43_5, if_pos (by rw [n_le (by omega) (by omega)]; omega)]
  | k + 1, p, S, o5, hp, hC, hR => by
    have hn := hC.1.1.2.1
    have hb := (hC.1.2.1 p (by omega)).2.2.2.2.1
    have ob : ¬ (nI p < 0 ∨ 8 ≤ (nI p).toNatClampNeg) := (by first | (rw [n_ob (by omega)]; omega) | (rw [n_obb (by omega)]; omega))
    have h1 := zRY_s3 (p := p) (v := 0) hC (by omega) (fun _ _ => rfl) (fun _ => rfl)
    have f1 : zfr zkC S (zw1 S 14 p (nI 0)) := zfr_w0 14 p _ rfl
    obtain ⟨S1, a1, a2, a3⟩ := c_firstWrong_43 sc (m := m) (e := e) (fun q => zQs_o P p 3 0 (by omega)) h1 ⟨hR.1, (f1.1 43 2 rfl).trans hR.2.1, hR.2.2⟩
    have a1' : zcI sc zm_X5_firstWrong [.ref 23, .ref 43] (zw1 S 14 p (0 : Int32)) = _ := a1
    have h14 : S.1 14 p = nI (P p 3) := (hC.2.2.2.2.2.2 p (by omega)).1
    have h2 : zRY n w P P cs gap ver (zw1 S1 14 p (nI (P p 3))) := by
      have := zRY_s3 (p := p) (v := P p 3) a2 hb (fun q k => zQs_o P p 3 0 (by omega)) (fun q => zQs_o P p 3 0 (by omega))
      rw [zQs_id] at this
      exact this
    have f2 : zfr zkC S (zw1 S1 14 p (nI (P p 3))) := zfr_w (zfr_tr f1 a3) 14 p _ rfl
    have hR2 : zRc 43 44 m e (zw1 S1 14 p (nI (P p 3))) := ⟨hR.1, (f2.1 43 2 rfl).trans hR.2.1, fun i hi => by rw [f2.2]; exact hR.2.2 i hi⟩
    have hle := rgF_le (n := n) (P := P) (cs := cs) (gap := gap) (w := w) (m := m) (e := e) (p := p) (u := 3) (v := 0)
    have es : hmk (fun p => decide (rgF n P cs gap w m e p 3 0 = 0)) (p + 1) = if decide (rgF n P cs gap w m e p 3 0 = 0) = true then hmk (fun p => decide (rgF n P cs gap w m e p 3 0 = 0)) p ||| 2 ^ p else hmk (fun p => decide (rgF n P cs gap w m e p 3 0 = 0)) p := rfl
    obtain ⟨S', g1, g2, g3⟩ := c_who_2 sc k (p + 1) _ (some (.int (nI (P p 3)))) (by omega) h2 hR2
    rw [e_X5_ifNotBold_43_5, if_neg (by rw [n_le (by omega) (by omega)]; omega), if_neg ob, if_neg ob, n_cl (by omega), a1', Option.bind_some]
    dsimp only
    have ob2 : ¬ (nI p < 0 ∨ 8 ≤ p) := (by first | (rw [n_ob (by omega)]; omega) | (rw [n_obb (by omega)]; omega))
    rw [ifc (z2_ne2 (b := rgF n P cs gap w m e p 3 0) (v := rgF n P cs gap w m e p 3 0 - 1) (by omega)), if_neg ob2, if_neg ob2, h14, n_s1, n_sh (by omega), n_or]
    by_cases c : rgF n P cs gap w m e p 3 0 = 0
    · rw [if_pos (decide_eq_true c)] at es
      rw [es] at g1
      rw [if_neg (fun q => q c)]
      exact ⟨S', g1, g2, zfr_tr f2 g3⟩
    · rw [if_neg (by rw [decide_eq_true_iff]; exact c)] at es
      rw [es] at g1
      rw [if_pos c]
      exact ⟨S', g1, g2, zfr_tr f2 g3⟩
theorem c_howBold_2 (sc : zSc) {n : Nat} {P : Nat → Nat → Nat} {cs : List Int32} {gap ver w m p : Nat} {e : Nat → Int64} (hp : p < n) : ∀ (k v : Nat) (S : zS) (Q : Nat → Nat → Nat), v + k = 8 → zRY n w P Q cs gap ver S → (∀ q, q ≠ p → Q q 3 = P q 3) → (∀ q, Q q 4 = P q 4) → zRc 43 44 m e S →
    ∃ S', zO zgI sc (zg1, (zm_X5_leastBold, 7), 2, S, [some (.ref 23), some (.ref 43), some (.int (nI p)), some (.int (nI v))], []) = some (z2 (fsV (rgF n P cs gap w m e p 3) k v) (fsV (rgF n P cs gap w m e p 3) k v - 1), S') ∧ zCE n P cs gap ver S' ∧ zfr zkC S S'
  | 0, v, S, Q, hv, hC, q3, q4, hR => by
    refine ⟨S, ?_, hC.1, zfr_refl _ _⟩
    rw [e_X5_leastBold_43_2, if_pos (by rw [show (7 : Int32) = nI 7 from rfl, n_lt (by omega) (by omega)]; omega)]
    rfl
  | k + 1, v, S, Q, hv, hC, q3, q4, hR => by
    have hn := hC.1.1.2.1
    have ob : ¬ (nI p < 0 ∨ 8 ≤ (nI p).toNatClampNeg) := (by first | (rw [n_ob (by omega)]; omega) | (rw [n_obb (by omega)]; omega))
    have h1 := zRY_s3 (p := p) (v := v) hC (by omega) q3 q4
    have f1 : zfr zkC S (zw1 S 14 p (nI v)) := zfr_w0 14 p _ rfl
    obtain ⟨S1, a1, a2, a3⟩ := c_firstWrong_43 sc (m := m) (e := e) (fun q => zQs_o P p 3 v (by omega)) h1 ⟨hR.1, (f1.1 43 2 rfl).trans hR.2.1, hR.2.2⟩
    have f2 : zfr zkC S S1 := zfr_tr f1 a3
    have hle := rgF_le (n := n) (P := P) (cs := cs) (gap := gap) (w := w) (m := m) (e := e) (p := p) (u := 3) (v := v)
    have es : fsV (rgF n P cs gap w m e p 3) (k + 1) v = if rgF n P cs gap w m e p 3 v = 0 then v + 1 else fsV (rgF n P cs gap w m e p 3) k (v + 1) := rfl
    rw [e_X5_leastBold_43_2, if_neg (by rw [show (7 : Int32) = nI 7 from rfl, n_lt (by omega) (by omega)]; omega), if_neg ob, n_cl (by omega), a1, Option.bind_some]
    dsimp only
    rw [ifc (z2_ne2 (b := rgF n P cs gap w m e p 3 v) (v := rgF n P cs gap w m e p 3 v - 1) (by omega)), es, n_s1]
    by_cases c : rgF n P cs gap w m e p 3 v = 0
    · rw [if_neg (fun q => q c), if_pos c, show v + 1 - 1 = v by omega, show z2 (v + 1) v = nI v from if_neg (by omega)]
      exact ⟨S1, rfl, a2.1, f2⟩
    · rw [if_pos c, if_neg c]
      obtain ⟨S', g1, g2, g3⟩ := c_howBold_2 sc hp k (v + 1) S1 _ (by omega) a2 (fun q k => zQs_o P p 3 v (by omega)) (fun q => zQs_o P p 3 v (by omega)) ⟨hR.1, (f2.1 43 2 rfl).trans hR.2.1, fun i hi => by rw [f2.2]; exact hR.2.2 i hi⟩
      exact ⟨S', g1, g2, zfr_tr f2 g3⟩
theorem c_forWhom_2 (sc : zSc) {n : Nat} {P : Nat → Nat → Nat} {cs : List Int32} {gap ver w m p : Nat} {e : Nat → Int64} (hp : p < n) (x3 : Int32) : ∀ (k v : Nat) (S : zS) (Q : Nat → Nat → Nat), v + k = 256 → zRY n w P Q cs gap ver S → (∀ q, q ≠ p → Q q 4 = P q 4) → (∀ q, Q q 3 = P q 3) → zRc 43 44 m e S →
    ∃ S', zO zgI sc (zg1, (zm_X5_setsOfFriends, 7), 10, S, [some (.ref 23), some (.ref 43), some (.int (nI p)), some (.int x3), some (.int (nI (cnt (fun v => decide (rgF n P cs gap w m e p 4 v = 0)) v))), some (.int (z2 (cnt (fun v => decide (rgF n P cs gap w m e p 4 v = 0)) v) (fsF (fun v => decide (rgF n P cs gap w m e p 4 v = 0)) v))), some (.int (nI v))], []) = some (if x3 ≠ 0 then z2 (cnt (fun v => decide (rgF n P cs gap w m e p 4 v = 0)) 256) (fsF (fun v => decide (rgF n P cs gap w m e p 4 v = 0)) 256) else nI (cnt (fun v => decide (rgF n P cs gap w m e p 4 v = 0)) 256), S') ∧ zCE n P cs gap ver S' ∧ zfr zkC S S'
  | 0, v, S, Q, hv, hC, q4, q3, hR => by
    have : v = 256 := by omega
    subst this
    refine ⟨S, ?_, hC.1, zfr_refl _ _⟩
    rw [e_X5_setsOfFriends_43_10, if_pos (by decide), sif]
  | k + 1, v, S, Q, hv, hC, q4, q3, hR => by
    have hn := hC.1.1.2.1
    have ob : ¬ (nI p < 0 ∨ 8 ≤ (nI p).toNatClampNeg) := (by first | (rw [n_ob (by omega)]; omega) | (rw [n_obb (by omega)]; omega))
    have h1 := zRY_s4 (p := p) (v := v) hC (by omega) q4 q3
    have f1 : zfr zkC S (zw1 S 15 p (nI v)) := zfr_w0 15 p _ rfl
    obtain ⟨S1, a1, a2, a3⟩ := c_firstWrong_43 sc (m := m) (e := e) (fun q => zQs_o P p 4 v (by omega)) h1 ⟨hR.1, (f1.1 43 2 rfl).trans hR.2.1, hR.2.2⟩
    have f2 : zfr zkC S S1 := zfr_tr f1 a3
    have hle := rgF_le (n := n) (P := P) (cs := cs) (gap := gap) (w := w) (m := m) (e := e) (p := p) (u := 4) (v := v)
    have hcl := cnt_le (fun v => decide (rgF n P cs gap w m e p 4 v = 0)) v
    have ec : cnt (fun v => decide (rgF n P cs gap w m e p 4 v = 0)) (v + 1) = cnt (fun v => decide (rgF n P cs gap w m e p 4 v = 0)) v + (if decide (rgF n P cs gap w m e p 4 v = 0) = true then 1 else 0) := rfl
    have ef : fsF (fun v => decide (rgF n P cs gap w m e p 4 v = 0)) (v + 1) = if decide (rgF n P cs gap w m e p 4 v = 0) = true ∧ cnt (fun v => decide (rgF n P cs gap w m e p 4 v = 0)) v = 0 then v else fsF (fun v => decide (rgF n P cs gap w m e p 4 v = 0)) v := rfl
    obtain ⟨S', g1, g2, g3⟩ := c_forWhom_2 sc hp x3 k (v + 1) S1 _ (by omega) a2 (fun q k => zQs_o P p 4 v (by omega)) (fun q => zQs_o P p 4 v (by omega)) ⟨hR.1, (f2.1 43 2 rfl).trans hR.2.1, fun i hi => by rw [f2.2]; exact hR.2.2 i hi⟩
    rw [e_X5_setsOfFriends_43_10, if_neg (by rw [show (255 : Int32) = nI 255 from rfl, n_lt (by omega) (by omega)]; omega), if_neg ob, n_cl (by omega), a1, Option.bind_some]
    dsimp only
    rw [ifc (z2_ne2 (b := rgF n P cs gap w m e p 4 v) (v := rgF n P cs gap w m e p 4 v - 1) (by omega)), n_s1, n_s1, ifc (n_ne0 (a := cnt (fun v => decide (rgF n P cs gap w m e p 4 v = 0)) v) (by omega))]
    by_cases c : rgF n P cs gap w m e p 4 v = 0
    · rw [if_pos (decide_eq_true c)] at ec
      rw [if_neg (fun q => q c)]
      have nz : ¬ (cnt (fun v => decide (rgF n P cs gap w m e p 4 v = 0)) v + 1 = 0) := by omega
      have zz : ∀ x, z2 (cnt (fun v => decide (rgF n P cs gap w m e p 4 v = 0)) v + 1) x = nI x := fun x => if_neg nz
      rw [ec, zz] at g1
      by_cases z : cnt (fun v => decide (rgF n P cs gap w m e p 4 v = 0)) v = 0
      · rw [if_pos ⟨decide_eq_true c, z⟩] at ef
        rw [ef] at g1
        rw [if_neg (fun q => q z)]
        exact ⟨S', g1, g2, zfr_tr f2 g3⟩
      · rw [if_neg (fun q => z q.2)] at ef
        rw [ef] at g1
        rw [if_pos z, show z2 (cnt (fun v => decide (rgF n P cs gap w m e p 4 v = 0)) v) (fsF (fun v => decide (rgF n P cs gap w m e p 4 v = 0)) v) = nI (fsF (fun v => decide (rgF n P cs gap w m e p 4 v = 0)) v) from if_neg z]
        exact ⟨S', g1, g2, zfr_tr f2 g3⟩
    · rw [if_neg (by rw [decide_eq_true_iff]; exact c)] at ec
      have ec' : cnt (fun v => decide (rgF n P cs gap w m e p 4 v = 0)) (v + 1) = cnt (fun v => decide (rgF n P cs gap w m e p 4 v = 0)) v := ec
      rw [if_neg (fun q => c (of_decide_eq_true q.1))] at ef
      rw [ec', ef] at g1
      rw [if_pos c]
      exact ⟨S', g1, g2, zfr_tr f2 g3⟩
theorem c_who_3 (sc : zSc) {n : Nat} {P : Nat → Nat → Nat} {cs : List Int32} {gap ver w m : Nat} {e : Nat → Int64} : ∀ (k p : Nat) (S : zS) (o5 : Option Value), p + k = n → zRY n w P P cs gap ver S → zRc 45 46 m e S →
    ∃ S', zO zgI sc (zg1, (zm_X5_ifNotBold, 7), 5, S, [some (.ref 23), some (.ref 45), some (.int (nI n)), some (.int (nI (hmk (fun p => decide (rgF n P cs gap w m e p 3 0 = 0)) p))), some (.int (nI p)), o5], []) = some (nI (hmk (fun p => decide (rgF n P cs gap w m e p 3 0 = 0)) n), S') ∧ zCE n P cs gap ver S' ∧ zfr zkC S S'
  | 0, p, S, o5, hp, hC, hR => by
    have hn := hC.1.1.2.1
    have : p = n := by omega
    subst this
    refine ⟨S, ?_, hC.1, zfr_refl _ _⟩
    rw [e_X5_ifNotBold_45_5, if_pos (by rw [n_le (by omega) (by omega)]; omega)]
  | k + 1, p, S, o5, hp, hC, hR => by
    have hn := hC.1.1.2.1
    have hb := (hC.1.2.1 p (by omega)).2.2.2.2.1
    have ob : ¬ (nI p < 0 ∨ 8 ≤ (nI p).toNatClampNeg) := (by first | (rw [n_ob (by omega)]; omega) | (rw [n_obb (by omega)]; omega))
    have h1 := zRY_s3 (p := p) (v := 0) hC (by omega) (fun _ _ => rfl) (fun _ => rfl)
    have f1 : zfr zkC S (zw1 S 14 p (nI 0)) := zfr_w0 14 p _ rfl
    obtain ⟨S1, a1, a2, a3⟩ := c_firstWrong_45 sc (m := m) (e := e) (fun q => zQs_o P p 3 0 (by omega)) h1 ⟨hR.1, (f1.1 45 2 rfl).trans hR.2.1, hR.2.2⟩
    have a1' : zcI sc zm_X5_firstWrong [.ref 23, .ref 45] (zw1 S 14 p (0 : Int32)) = _ := a1
    have h14 : S.1 14 p = nI (P p 3) := (hC.2.2.2.2.2.2 p (by omega)).1
    have h2 : zRY n w P P cs gap ver (zw1 S1 14 p (nI (P p 3))) := by
      have := zRY_s3 (p := p) (v := P p 3) a2 hb (fun q k => zQs_o P p 3 0 (by omega)) (fun q => zQs_o P p 3 0 (by omega))
      rw [zQs_id] at this
      exact this
    have f2 : zfr zkC S (zw1 S1 14 p (nI (P p 3))) := zfr_w (zfr_tr f1 a3) 14 p _ rfl
    have hR2 : zRc 45 46 m e (zw1 S1 14 p (nI (P p 3))) := ⟨hR.1, (f2.1 45 2 rfl).trans hR.2.1, fun i hi => by rw [f2.2]; exact hR.2.2 i hi⟩
    have hle := rgF_le (n := n) (P := P) (cs := cs) (gap := gap) (w := w) (m := m) (e := e) (p := p) (u := 3) (v := 0)
    have es : hmk (fun p => decide (rgF n P cs gap w m e p 3 0 = 0)) (p + 1) = if decide (rgF n P cs gap w m e p 3 0 = 0) = true then hmk (fun p => decide (rgF n P cs gap w m e p 3 0 = 0)) p ||| 2 ^ p else hmk (fun p => decide (rgF n P cs gap w m e p 3 0 = 0)) p := rfl
    obtain ⟨S', g1, g2, g3⟩ := c_who_3 sc k (p + 1) _ (some (.int (nI (P p 3)))) (by omega) h2 hR2
    rw [e_X5_ifNotBold_45_5, if_neg (by rw [n_le (by omega) (by omega)]; omega), if_neg ob, if_neg ob, n_cl (by omega), a1', Option.bind_some]
    dsimp only
    have ob2 : ¬ (nI p < 0 ∨ 8 ≤ p) := (by first | (rw [n_ob (by omega)]; omega) | (rw [n_obb (by omega)]; omega))
    rw [ifc (z2_ne2 (b := rgF n P cs gap w m e p 3 0) (v := rgF n P cs gap w m e p 3 0 - 1) (by omega)), if_neg ob2, if_neg ob2, h14, n_s1, n_sh (by omega), n_or]
    by_cases c : rgF n P cs gap w m e p 3 0 = 0
    · rw [if_pos (decide_eq_true c)] at es
      rw [es] at g1
      rw [if_neg (fun q => q c)]
      exact ⟨S', g1, g2, zfr_tr f2 g3⟩
    · rw [if_neg (by rw [decide_eq_true_iff]; exact c)] at es
      rw [es] at g1
      rw [if_pos c]
      exact ⟨S', g1, g2, zfr_tr f2 g3⟩
theorem c_howBold_3 (sc : zSc) {n : Nat} {P : Nat → Nat → Nat} {cs : List Int32} {gap ver w m p : Nat} {e : Nat → Int64} (hp : p < n) : ∀ (k v : Nat) (S : zS) (Q : Nat → Nat → Nat), v + k = 8 → zRY n w P Q cs gap ver S → (∀ q, q ≠ p → Q q 3 = P q 3) → (∀ q, Q q 4 = P q 4) → zRc 45 46 m e S →
    ∃ S', zO zgI sc (zg1, (zm_X5_leastBold, 7), 2, S, [some (.ref 23), some (.ref 45), some (.int (nI p)), some (.int (nI v))], []) = some (z2 (fsV (rgF n P cs gap w m e p 3) k v) (fsV (rgF n P cs gap w m e p 3) k v - 1), S') ∧ zCE n P cs gap ver S' ∧ zfr zkC S S'
  | 0, v, S, Q, hv, hC, q3, q4, hR => by
    refine ⟨S, ?_, hC.1, zfr_refl _ _⟩
    rw [e_X5_leastBold_45_2, if_pos (by rw [show (7 : Int32) = nI 7 from rfl, n_lt (by omega) (by omega)]; omega)]
    rfl
  | k + 1, v, S, Q, hv, hC, q3, q4, hR => by
    have hn := hC.1.1.2.1
    have ob : ¬ (nI p < 0 ∨ 8 ≤ (nI p).toNatClampNeg) := (by first | (rw [n_ob (by omega)]; omega) | (rw [n_obb (by omega)]; omega))
    have h1 := zRY_s3 (p := p) (v := v) hC (by omega) q3 q4
    have f1 : zfr zkC S (zw1 S 14 p (nI v)) := zfr_w0 14 p _ rfl
    obtain ⟨S1, a1, a2, a3⟩ := c_firstWrong_45 sc (m := m) (e := e) (fun q => zQs_o P p 3 v (by omega)) h1 ⟨hR.1, (f1.1 45 2 rfl).trans hR.2.1, hR.2.2⟩
    have f2 : zfr zkC S S1 := zfr_tr f1 a3
    have hle := rgF_le (n := n) (P := P) (cs := cs) (gap := gap) (w := w) (m := m) (e := e) (p := p) (u := 3) (v := v)
    have es : fsV (rgF n P cs gap w m e p 3) (k + 1) v = if rgF n P cs gap w m e p 3 v = 0 then v + 1 else fsV (rgF n P cs gap w m e p 3) k (v + 1) := rfl
    rw [e_X5_leastBold_45_2, if_neg (by rw [show (7 : Int32) = nI 7 from rfl, n_lt (by omega) (by omega)]; omega), if_neg ob, n_cl (by omega), a1, Option.bind_some]
    dsimp only
    rw [ifc (z2_ne2 (b := rgF n P cs gap w m e p 3 v) (v := rgF n P cs gap w m e p 3 v - 1) (by omega)), es, n_s1]
    by_cases c : rgF n P cs gap w m e p 3 v = 0
    · rw [if_neg (fun q => q c), if_pos c, show v + 1 - 1 = v by omega, show z2 (v + 1) v = nI v from if_neg (by omega)]
      exact ⟨S1, rfl, a2.1, f2⟩
    · rw [if_pos c, if_neg c]
      obtain ⟨S', g1, g2, g3⟩ := c_howBold_3 sc hp k (v + 1) S1 _ (by omega) a2 (fun q k => zQs_o P p 3 v (by omega)) (fun q => zQs_o P p 3 v (by omega)) ⟨hR.1, (f2.1 45 2 rfl).trans hR.2.1, fun i hi => by rw [f2.2]; exact hR.2.2 i hi⟩
      exact ⟨S', g1, g2, zfr_tr f2 g3⟩
theorem c_forWhom_3 (sc : zSc) {n : Nat} {P : Nat → Nat → Nat} {cs : List Int32} {gap ver w m p : Nat} {e : Nat → Int64} (hp : p < n) (x3 : Int32) : ∀ (k v : Nat) (S : zS) (Q : Nat → Nat → Nat), v + k = 256 → zRY n w P Q cs gap ver S → (∀ q, q ≠ p → Q q 4 = P q 4) → (∀ q, Q q 3 = P q 3) → zRc 45 46 m e S →
    ∃ S', zO zgI sc (zg1, (zm_X5_setsOfFriends, 7), 10, S, [some (.ref 23), some (.ref 45), some (.int (nI p)), some (.int x3), some (.int (nI (cnt (fun v => decide (rgF n P cs gap w m e p 4 v = 0)) v))), some (.int (z2 (cnt (fun v => decide (rgF n P cs gap w m e p 4 v = 0)) v) (fsF (fun v => decide (rgF n P cs gap w m e p 4 v = 0)) v))), some (.int (nI v))], []) = some (if x3 ≠ 0 then z2 (cnt (fun v => decide (rgF n P cs gap w m e p 4 v = 0)) 256) (fsF (fun v => decide (rgF n P cs gap w m e p 4 v = 0)) 256) else nI (cnt (fun v => decide (rgF n P cs gap w m e p 4 v = 0)) 256), S') ∧ zCE n P cs gap ver S' ∧ zfr zkC S S'
  | 0, v, S, Q, hv, hC, q4, q3, hR => by
    have : v = 256 := by omega
    subst this
    refine ⟨S, ?_, hC.1, zfr_refl _ _⟩
    rw [e_X5_setsOfFriends_45_10, if_pos (by decide), sif]
  | k + 1, v, S, Q, hv, hC, q4, q3, hR => by
    have hn := hC.1.1.2.1
    have ob : ¬ (nI p < 0 ∨ 8 ≤ (nI p).toNatClampNeg) := (by first | (rw [n_ob (by omega)]; omega) | (rw [n_obb (by omega)]; omega))
    have h1 := zRY_s4 (p := p) (v := v) hC (by omega) q4 q3
    have f1 : zfr zkC S (zw1 S 15 p (nI v)) := zfr_w0 15 p _ rfl
    obtain ⟨S1, a1, a2, a3⟩ := c_firstWrong_45 sc (m := m) (e := e) (fun q => zQs_o P p 4 v (by omega)) h1 ⟨hR.1, (f1.1 45 2 rfl).trans hR.2.1, hR.2.2⟩
    have f2 : zfr zkC S S1 := zfr_tr f1 a3
    have hle := rgF_le (n := n) (P := P) (cs := cs) (gap := gap) (w := w) (m := m) (e := e) (p := p) (u := 4) (v := v)
    have hcl := cnt_le (fun v => decide (rgF n P cs gap w m e p 4 v = 0)) v
    have ec : cnt (fun v => decide (rgF n P cs gap w m e p 4 v = 0)) (v + 1) = cnt (fun v => decide (rgF n P cs gap w m e p 4 v = 0)) v + (if decide (rgF n P cs gap w m e p 4 v = 0) = true then 1 else 0) := rfl
    have ef : fsF (fun v => decide (rgF n P cs gap w m e p 4 v = 0)) (v + 1) = if decide (rgF n P cs gap w m e p 4 v = 0) = true ∧ cnt (fun v => decide (rgF n P cs gap w m e p 4 v = 0)) v = 0 then v else fsF (fun v => decide (rgF n P cs gap w m e p 4 v = 0)) v := rfl
    obtain ⟨S', g1, g2, g3⟩ := c_forWhom_3 sc hp x3 k (v + 1) S1 _ (by omega) a2 (fun q k => zQs_o P p 4 v (by omega)) (fun q => zQs_o P p 4 v (by omega)) ⟨hR.1, (f2.1 45 2 rfl).trans hR.2.1, fun i hi => by rw [f2.2]; exact hR.2.2 i hi⟩
    rw [e_X5_setsOfFriends_45_10, if_neg (by rw [show (255 : Int32) = nI 255 from rfl, n_lt (by omega) (by omega)]; omega), if_neg ob, n_cl (by omega), a1, Option.bind_some]
    dsimp only
    rw [ifc (z2_ne2 (b := rgF n P cs gap w m e p 4 v) (v := rgF n P cs gap w m e p 4 v - 1) (by omega)), n_s1, n_s1, ifc (n_ne0 (a := cnt (fun v => decide (rgF n P cs gap w m e p 4 v = 0)) v) (by omega))]
    by_cases c : rgF n P cs gap w m e p 4 v = 0
    · rw [if_pos (decide_eq_true c)] at ec
      rw [if_neg (fun q => q c)]
      have nz : ¬ (cnt (fun v => decide (rgF n P cs gap w m e p 4 v = 0)) v + 1 = 0) := by omega
      have zz : ∀ x, z2 (cnt (fun v => decide (rgF n P cs gap w m e p 4 v = 0)) v + 1) x = nI x := fun x => if_neg nz
      rw [ec, zz] at g1
      by_cases z : cnt (fun v => decide (rgF n P cs gap w m e p 4 v = 0)) v = 0
      · rw [if_pos ⟨decide_eq_true c, z⟩] at ef
        rw [ef] at g1
        rw [if_neg (fun q => q z)]
        exact ⟨S', g1, g2, zfr_tr f2 g3⟩
      · rw [if_neg (fun q => z q.2)] at ef
        rw [ef] at g1
        rw [if_pos z, show z2 (cnt (fun v => decide (rgF n P cs gap w m e p 4 v = 0)) v) (fsF (fun v => decide (rgF n P cs gap w m e p 4 v = 0)) v) = nI (fsF (fun v => decide (rgF n P cs gap w m e p 4 v = 0)) v) from if_neg z]
        exact ⟨S', g1, g2, zfr_tr f2 g3⟩
    · rw [if_neg (by rw [decide_eq_true_iff]; exact c)] at ec
      have ec' : cnt (fun v => decide (rgF n P cs gap w m e p 4 v = 0)) (v + 1) = cnt (fun v => decide (rgF n P cs gap w m e p 4 v = 0)) v := ec
      rw [if_neg (fun q => c (of_decide_eq_true q.1))] at ef
      rw [ec', ef] at g1
      rw [if_pos c]
      exact ⟨S', g1, g2, zfr_tr f2 g3⟩
theorem c_who_4 (sc : zSc) {n : Nat} {P : Nat → Nat → Nat} {cs : List Int32} {gap ver w m : Nat} {e : Nat → Int64} : ∀ (k p : Nat) (S : zS) (o5 : Option Value), p + k = n → zRY n w P P cs gap ver S → zRc 47 48 m e S →
    ∃ S', zO zgI sc (zg1, (zm_X5_ifNotBold, 7), 5, S, [some (.ref 23), some (.ref 47), some (.int (nI n)), some (.int (nI (hmk (fun p => decide (rgF n P cs gap w m e p 3 0 = 0)) p))), some (.int (nI p)), o5], []) = some (nI (hmk (fun p => decide (rgF n P cs gap w m e p 3 0 = 0)) n), S') ∧ zCE n P cs gap ver S' ∧ zfr zkC S S'
  | 0, p, S, o5, hp, hC, hR => by
    have hn := hC.1.1.2.1
    have : p = n := by omega
    subst this
    refine ⟨S, ?_, hC.1, zfr_refl _ _⟩
    rw [e_X5_ifNotBold_47_5, if_pos (by rw [n_le (by omega) (by omega)]; omega)]
  | k + 1, p, S, o5, hp, hC, hR => by
    have hn := hC.1.1.2.1
    have hb := (hC.1.2.1 p (by omega)).2.2.2.2.1
    have ob : ¬ (nI p < 0 ∨ 8 ≤ (nI p).toNatClampNeg) := (by first | (rw [n_ob (by omega)]; omega) | (rw [n_obb (by omega)]; omega))
    have h1 := zRY_s3 (p := p) (v := 0) hC (by omega) (fun _ _ => rfl) (fun _ => rfl)
    have f1 : zfr zkC S (zw1 S 14 p (nI 0)) := zfr_w0 14 p _ rfl
    obtain ⟨S1, a1, a2, a3⟩ := c_firstWrong_47 sc (m := m) (e := e) (fun q => zQs_o P p 3 0 (by omega)) h1 ⟨hR.1, (f1.1 47 2 rfl).trans hR.2.1, hR.2.2⟩
    have a1' : zcI sc zm_X5_firstWrong [.ref 23, .ref 47] (zw1 S 14 p (0 : Int32)) = _ := a1
    have h14 : S.1 14 p = nI (P p 3) := (hC.2.2.2.2.2.2 p (by omega)).1
    have h2 : zRY n w P P cs gap ver (zw1 S1 14 p (nI (P p 3))) := by
      have := zRY_s3 (p := p) (v := P p 3) a2 hb (fun q k => zQs_o P p 3 0 (by omega)) (fun q => zQs_o P p 3 0 (by omega))
      rw [zQs_id] at this
      exact this
    have f2 : zfr zkC S (zw1 S1 14 p (nI (P p 3))) := zfr_w (zfr_tr f1 a3) 14 p _ rfl
    have hR2 : zRc 47 48 m e (zw1 S1 14 p (nI (P p 3))) := ⟨hR.1, (f2.1 47 2 rfl).trans hR.2.1, fun i hi => by rw [f2.2]; exact hR.2.2 i hi⟩
    have hle := rgF_le (n := n) (P := P) (cs := cs) (gap := gap) (w := w) (m := m) (e := e) (p := p) (u := 3) (v := 0)
    have es : hmk (fun p => decide (rgF n P cs gap w m e p 3 0 = 0)) (p + 1) = if decide (rgF n P cs gap w m e p 3 0 = 0) = true then hmk (fun p => decide (rgF n P cs gap w m e p 3 0 = 0)) p ||| 2 ^ p else hmk (fun p => decide (rgF n P cs gap w m e p 3 0 = 0)) p := rfl
    obtain ⟨S', g1, g2, g3⟩ := c_who_4 sc k (p + 1) _ (some (.int (nI (P p 3)))) (by omega) h2 hR2
    rw [e_X5_ifNotBold_47_5, if_neg (by rw [n_le (by omega) (by omega)]; omega), if_neg ob, if_neg ob, n_cl (by omega), a1', Option.bind_some]
    dsimp only
    have ob2 : ¬ (nI p < 0 ∨ 8 ≤ p) := (by first | (rw [n_ob (by omega)]; omega) | (rw [n_obb (by omega)]; omega))
    rw [ifc (z2_ne2 (b := rgF n P cs gap w m e p 3 0) (v := rgF n P cs gap w m e p 3 0 - 1) (by omega)), if_neg ob2, if_neg ob2, h14, n_s1, n_sh (by omega), n_or]
    by_cases c : rgF n P cs gap w m e p 3 0 = 0
    · rw [if_pos (decide_eq_true c)] at es
      rw [es] at g1
      rw [if_neg (fun q => q c)]
      exact ⟨S', g1, g2, zfr_tr f2 g3⟩
    · rw [if_neg (by rw [decide_eq_true_iff]; exact c)] at es
      rw [es] at g1
      rw [if_pos c]
      exact ⟨S', g1, g2, zfr_tr f2 g3⟩
theorem c_howBold_4 (sc : zSc) {n : Nat} {P : Nat → Nat → Nat} {cs : List Int32} {gap ver w m p : Nat} {e : Nat → Int64} (hp : p < n) : ∀ (k v : Nat) (S : zS) (Q : Nat → Nat → Nat), v + k = 8 → zRY n w P Q cs gap ver S → (∀ q, q ≠ p → Q q 3 = P q 3) → (∀ q, Q q 4 = P q 4) → zRc 47 48 m e S →
    ∃ S', zO zgI sc (zg1, (zm_X5_leastBold, 7), 2, S, [some (.ref 23), some (.ref 47), some (.int (nI p)), some (.int (nI v))], []) = some (z2 (fsV (rgF n P cs gap w m e p 3) k v) (fsV (rgF n P cs gap w m e p 3) k v - 1), S') ∧ zCE n P cs gap ver S' ∧ zfr zkC S S'
  | 0, v, S, Q, hv, hC, q3, q4, hR => by
    refine ⟨S, ?_, hC.1, zfr_refl _ _⟩
    rw [e_X5_leastBold_47_2, if_pos (by rw [show (7 : Int32) = nI 7 from rfl, n_lt (by omega) (by omega)]; omega)]
    rfl
  | k + 1, v, S, Q, hv, hC, q3, q4, hR => by
    have hn := hC.1.1.2.1
    have ob : ¬ (nI p < 0 ∨ 8 ≤ (nI p).toNatClampNeg) := (by first | (rw [n_ob (by omega)]; omega) | (rw [n_obb (by omega)]; omega))
    have h1 := zRY_s3 (p := p) (v := v) hC (by omega) q3 q4
    have f1 : zfr zkC S (zw1 S 14 p (nI v)) := zfr_w0 14 p _ rfl
    obtain ⟨S1, a1, a2, a3⟩ := c_firstWrong_47 sc (m := m) (e := e) (fun q => zQs_o P p 3 v (by omega)) h1 ⟨hR.1, (f1.1 47 2 rfl).trans hR.2.1, hR.2.2⟩
    have f2 : zfr zkC S S1 := zfr_tr f1 a3
    have hle := rgF_le (n := n) (P := P) (cs := cs) (gap := gap) (w := w) (m := m) (e := e) (p := p) (u := 3) (v := v)
    have es : fsV (rgF n P cs gap w m e p 3) (k + 1) v = if rgF n P cs gap w m e p 3 v = 0 then v + 1 else fsV (rgF n P cs gap w m e p 3) k (v + 1) := rfl
    rw [e_X5_leastBold_47_2, if_neg (by rw [show (7 : Int32) = nI 7 from rfl, n_lt (by omega) (by omega)]; omega), if_neg ob, n_cl (by omega), a1, Option.bind_some]
    dsimp only
    rw [ifc (z2_ne2 (b := rgF n P cs gap w m e p 3 v) (v := rgF n P cs gap w m e p 3 v - 1) (by omega)), es, n_s1]
    by_cases c : rgF n P cs gap w m e p 3 v = 0
    · rw [if_neg (fun q => q c), if_pos c, show v + 1 - 1 = v by omega, show z2 (v + 1) v = nI v from if_neg (by omega)]
      exact ⟨S1, rfl, a2.1, f2⟩
    · rw [if_pos c, if_neg c]
      obtain ⟨S', g1, g2, g3⟩ := c_howBold_4 sc hp k (v + 1) S1 _ (by omega) a2 (fun q k => zQs_o P p 3 v (by omega)) (fun q => zQs_o P p 3 v (by omega)) ⟨hR.1, (f2.1 47 2 rfl).trans hR.2.1, fun i hi => by rw [f2.2]; exact hR.2.2 i hi⟩
      exact ⟨S', g1, g2, zfr_tr f2 g3⟩
theorem c_forWhom_4 (sc : zSc) {n : Nat} {P : Nat → Nat → Nat} {cs : List Int32} {gap ver w m p : Nat} {e : Nat → Int64} (hp : p < n) (x3 : Int32) : ∀ (k v : Nat) (S : zS) (Q : Nat → Nat → Nat), v + k = 256 → zRY n w P Q cs gap ver S → (∀ q, q ≠ p → Q q 4 = P q 4) → (∀ q, Q q 3 = P q 3) → zRc 47 48 m e S →
    ∃ S', zO zgI sc (zg1, (zm_X5_setsOfFriends, 7), 10, S, [some (.ref 23), some (.ref 47), some (.int (nI p)), some (.int x3), some (.int (nI (cnt (fun v => decide (rgF n P cs gap w m e p 4 v = 0)) v))), some (.int (z2 (cnt (fun v => decide (rgF n P cs gap w m e p 4 v = 0)) v) (fsF (fun v => decide (rgF n P cs gap w m e p 4 v = 0)) v))), some (.int (nI v))], []) = some (if x3 ≠ 0 then z2 (cnt (fun v => decide (rgF n P cs gap w m e p 4 v = 0)) 256) (fsF (fun v => decide (rgF n P cs gap w m e p 4 v = 0)) 256) else nI (cnt (fun v => decide (rgF n P cs gap w m e p 4 v = 0)) 256), S') ∧ zCE n P cs gap ver S' ∧ zfr zkC S S'
  | 0, v, S, Q, hv, hC, q4, q3, hR => by
    have : v = 256 := by omega
    subst this
    refine ⟨S, ?_, hC.1, zfr_refl _ _⟩
    rw [e_X5_setsOfFriends_47_10, if_pos (by decide), sif]
  | k + 1, v, S, Q, hv, hC, q4, q3, hR => by
    have hn := hC.1.1.2.1
    have ob : ¬ (nI p < 0 ∨ 8 ≤ (nI p).toNatClampNeg) := (by first | (rw [n_ob (by omega)]; omega) | (rw [n_obb (by omega)]; omega))
    have h1 := zRY_s4 (p := p) (v := v) hC (by omega) q4 q3
    have f1 : zfr zkC S (zw1 S 15 p (nI v)) := zfr_w0 15 p _ rfl
    obtain ⟨S1, a1, a2, a3⟩ := c_firstWrong_47 sc (m := m) (e := e) (fun q => zQs_o P p 4 v (by omega)) h1 ⟨hR.1, (f1.1 47 2 rfl).trans hR.2.1, hR.2.2⟩
    have f2 : zfr zkC S S1 := zfr_tr f1 a3
    have hle := rgF_le (n := n) (P := P) (cs := cs) (gap := gap) (w := w) (m := m) (e := e) (p := p) (u := 4) (v := v)
    have hcl := cnt_le (fun v => decide (rgF n P cs gap w m e p 4 v = 0)) v
    have ec : cnt (fun v => decide (rgF n P cs gap w m e p 4 v = 0)) (v + 1) = cnt (fun v => decide (rgF n P cs gap w m e p 4 v = 0)) v + (if decide (rgF n P cs gap w m e p 4 v = 0) = true then 1 else 0) := rfl
    have ef : fsF (fun v => decide (rgF n P cs gap w m e p 4 v = 0)) (v + 1) = if decide (rgF n P cs gap w m e p 4 v = 0) = true ∧ cnt (fun v => decide (rgF n P cs gap w m e p 4 v = 0)) v = 0 then v else fsF (fun v => decide (rgF n P cs gap w m e p 4 v = 0)) v := rfl
    obtain ⟨S', g1, g2, g3⟩ := c_forWhom_4 sc hp x3 k (v + 1) S1 _ (by omega) a2 (fun q k => zQs_o P p 4 v (by omega)) (fun q => zQs_o P p 4 v (by omega)) ⟨hR.1, (f2.1 47 2 rfl).trans hR.2.1, fun i hi => by rw [f2.2]; exact hR.2.2 i hi⟩
    rw [e_X5_setsOfFriends_47_10, if_neg (by rw [show (255 : Int32) = nI 255 from rfl, n_lt (by omega) (by omega)]; omega), if_neg ob, n_cl (by omega), a1, Option.bind_some]
    dsimp only
    rw [ifc (z2_ne2 (b := rgF n P cs gap w m e p 4 v) (v := rgF n P cs gap w m e p 4 v - 1) (by omega)), n_s1, n_s1, ifc (n_ne0 (a := cnt (fun v => decide (rgF n P cs gap w m e p 4 v = 0)) v) (by omega))]
    by_cases c : rgF n P cs gap w m e p 4 v = 0
    · rw [if_pos (decide_eq_true c)] at ec
      rw [if_neg (fun q => q c)]
      have nz : ¬ (cnt (fun v => decide (rgF n P cs gap w m e p 4 v = 0)) v + 1 = 0) := by omega
      have zz : ∀ x, z2 (cnt (fun v => decide (rgF n P cs gap w m e p 4 v = 0)) v + 1) x = nI x := fun x => if_neg nz
      rw [ec, zz] at g1
      by_cases z : cnt (fun v => decide (rgF n P cs gap w m e p 4 v = 0)) v = 0
      · rw [if_pos ⟨decide_eq_true c, z⟩] at ef
        rw [ef] at g1
        rw [if_neg (fun q => q z)]
        exact ⟨S', g1, g2, zfr_tr f2 g3⟩
      · rw [if_neg (fun q => z q.2)] at ef
        rw [ef] at g1
        rw [if_pos z, show z2 (cnt (fun v => decide (rgF n P cs gap w m e p 4 v = 0)) v) (fsF (fun v => decide (rgF n P cs gap w m e p 4 v = 0)) v) = nI (fsF (fun v => decide (rgF n P cs gap w m e p 4 v = 0)) v) from if_neg z]
        exact ⟨S', g1, g2, zfr_tr f2 g3⟩
    · rw [if_neg (by rw [decide_eq_true_iff]; exact c)] at ec
      have ec' : cnt (fun v => decide (rgF n P cs gap w m e p 4 v = 0)) (v + 1) = cnt (fun v => decide (rgF n P cs gap w m e p 4 v = 0)) v := ec
      rw [if_neg (fun q => c (of_decide_eq_true q.1))] at ef
      rw [ec', ef] at g1
      rw [if_pos c]
      exact ⟨S', g1, g2, zfr_tr f2 g3⟩
theorem c_who_5 (sc : zSc) {n : Nat} {P : Nat → Nat → Nat} {cs : List Int32} {gap ver w m : Nat} {e : Nat → Int64} : ∀ (k p : Nat) (S : zS) (o5 : Option Value), p + k = n → zRY n w P P cs gap ver S → zRc 49 50 m e S →
    ∃ S', zO zgI sc (zg1, (zm_X5_ifNotBold, 7), 5, S, [some (.ref 23), some (.ref 49), some (.int (nI n)), some (.int (nI (hmk (fun p => decide (rgF n P cs gap w m e p 3 0 = 0)) p))), some (.int (nI p)), o5], []) = some (nI (hmk (fun p => decide (rgF n P cs gap w m e p 3 0 = 0)) n), S') ∧ zCE n P cs gap ver S' ∧ zfr zkC S S'
  | 0, p, S, o5, hp, hC, hR => by
    have hn := hC.1.1.2.1
    have : p = n := by omega
    subst this
    refine ⟨S, ?_, hC.1, zfr_refl _ _⟩
    rw [e_X5_ifNotBold_49_5, if_pos (by rw [n_le (by omega) (by omega)]; omega)]
  | k + 1, p, S, o5, hp, hC, hR => by
    have hn := hC.1.1.2.1
    have hb := (hC.1.2.1 p (by omega)).2.2.2.2.1
    have ob : ¬ (nI p < 0 ∨ 8 ≤ (nI p).toNatClampNeg) := (by first | (rw [n_ob (by omega)]; omega) | (rw [n_obb (by omega)]; omega))
    have h1 := zRY_s3 (p := p) (v := 0) hC (by omega) (fun _ _ => rfl) (fun _ => rfl)
    have f1 : zfr zkC S (zw1 S 14 p (nI 0)) := zfr_w0 14 p _ rfl
    obtain ⟨S1, a1, a2, a3⟩ := c_firstWrong_49 sc (m := m) (e := e) (fun q => zQs_o P p 3 0 (by omega)) h1 ⟨hR.1, (f1.1 49 2 rfl).trans hR.2.1, hR.2.2⟩
    have a1' : zcI sc zm_X5_firstWrong [.ref 23, .ref 49] (zw1 S 14 p (0 : Int32)) = _ := a1
    have h14 : S.1 14 p = nI (P p 3) := (hC.2.2.2.2.2.2 p (by omega)).1
    have h2 : zRY n w P P cs gap ver (zw1 S1 14 p (nI (P p 3))) := by
      have := zRY_s3 (p := p) (v := P p 3) a2 hb (fun q k => zQs_o P p 3 0 (by omega)) (fun q => zQs_o P p 3 0 (by omega))
      rw [zQs_id] at this
      exact this
    have f2 : zfr zkC S (zw1 S1 14 p (nI (P p 3))) := zfr_w (zfr_tr f1 a3) 14 p _ rfl
    have hR2 : zRc 49 50 m e (zw1 S1 14 p (nI (P p 3))) := ⟨hR.1, (f2.1 49 2 rfl).trans hR.2.1, fun i hi => by rw [f2.2]; exact hR.2.2 i hi⟩
    have hle := rgF_le (n := n) (P := P) (cs := cs) (gap := gap) (w := w) (m := m) (e := e) (p := p) (u := 3) (v := 0)
    have es : hmk (fun p => decide (rgF n P cs gap w m e p 3 0 = 0)) (p + 1) = if decide (rgF n P cs gap w m e p 3 0 = 0) = true then hmk (fun p => decide (rgF n P cs gap w m e p 3 0 = 0)) p ||| 2 ^ p else hmk (fun p => decide (rgF n P cs gap w m e p 3 0 = 0)) p := rfl
    obtain ⟨S', g1, g2, g3⟩ := c_who_5 sc k (p + 1) _ (some (.int (nI (P p 3)))) (by omega) h2 hR2
    rw [e_X5_ifNotBold_49_5, if_neg (by rw [n_le (by omega) (by omega)]; omega), if_neg ob, if_neg ob, n_cl (by omega), a1', Option.bind_some]
    dsimp only
    have ob2 : ¬ (nI p < 0 ∨ 8 ≤ p) := (by first | (rw [n_ob (by omega)]; omega) | (rw [n_obb (by omega)]; omega))
    rw [ifc (z2_ne2 (b := rgF n P cs gap w m e p 3 0) (v := rgF n P cs gap w m e p 3 0 - 1) (by omega)), if_neg ob2, if_neg ob2, h14, n_s1, n_sh (by omega), n_or]
    by_cases c : rgF n P cs gap w m e p 3 0 = 0
    · rw [if_pos (decide_eq_true c)] at es
      rw [es] at g1
      rw [if_neg (fun q => q c)]
      exact ⟨S', g1, g2, zfr_tr f2 g3⟩
    · rw [if_neg (by rw [decide_eq_true_iff]; exact c)] at es
      rw [es] at g1
      rw [if_pos c]
      exact ⟨S', g1, g2, zfr_tr f2 g3⟩
theorem c_howBold_5 (sc : zSc) {n : Nat} {P : Nat → Nat → Nat} {cs : List Int32} {gap ver w m p : Nat} {e : Nat → Int64} (hp : p < n) : ∀ (k v : Nat) (S : zS) (Q : Nat → Nat → Nat), v + k = 8 → zRY n w P Q cs gap ver S → (∀ q, q ≠ p → Q q 3 = P q 3) → (∀ q, Q q 4 = P q 4) → zRc 49 50 m e S →
    ∃ S', zO zgI sc (zg1, (zm_X5_leastBold, 7), 2, S, [some (.ref 23), some (.ref 49), some (.int (nI p)), some (.int (nI v))], []) = some (z2 (fsV (rgF n P cs gap w m e p 3) k v) (fsV (rgF n P cs gap w m e p 3) k v - 1), S') ∧ zCE n P cs gap ver S' ∧ zfr zkC S S'
  | 0, v, S, Q, hv, hC, q3, q4, hR => by
    refine ⟨S, ?_, hC.1, zfr_refl _ _⟩
    rw [e_X5_leastBold_49_2, if_pos (by rw [show (7 : Int32) = nI 7 from rfl, n_lt (by omega) (by omega)]; omega)]
    rfl
  | k + 1, v, S, Q, hv, hC, q3, q4, hR => by
    have hn := hC.1.1.2.1
    have ob : ¬ (nI p < 0 ∨ 8 ≤ (nI p).toNatClampNeg) := (by first | (rw [n_ob (by omega)]; omega) | (rw [n_obb (by omega)]; omega))
    have h1 := zRY_s3 (p := p) (v := v) hC (by omega) q3 q4
    have f1 : zfr zkC S (zw1 S 14 p (nI v)) := zfr_w0 14 p _ rfl
    obtain ⟨S1, a1, a2, a3⟩ := c_firstWrong_49 sc (m := m) (e := e) (fun q => zQs_o P p 3 v (by omega)) h1 ⟨hR.1, (f1.1 49 2 rfl).trans hR.2.1, hR.2.2⟩
    have f2 : zfr zkC S S1 := zfr_tr f1 a3
    have hle := rgF_le (n := n) (P := P) (cs := cs) (gap := gap) (w := w) (m := m) (e := e) (p := p) (u := 3) (v := v)
    have es : fsV (rgF n P cs gap w m e p 3) (k + 1) v = if rgF n P cs gap w m e p 3 v = 0 then v + 1 else fsV (rgF n P cs gap w m e p 3) k (v + 1) := rfl
    rw [e_X5_leastBold_49_2, if_neg (by rw [show (7 : Int32) = nI 7 from rfl, n_lt (by omega) (by omega)]; omega), if_neg ob, n_cl (by omega), a1, Option.bind_some]
    dsimp only
    rw [ifc (z2_ne2 (b := rgF n P cs gap w m e p 3 v) (v := rgF n P cs gap w m e p 3 v - 1) (by omega)), es, n_s1]
    by_cases c : rgF n P cs gap w m e p 3 v = 0
    · rw [if_neg (fun q => q c), if_pos c, show v + 1 - 1 = v by omega, show z2 (v + 1) v = nI v from if_neg (by omega)]
      exact ⟨S1, rfl, a2.1, f2⟩
    · rw [if_pos c, if_neg c]
      obtain ⟨S', g1, g2, g3⟩ := c_howBold_5 sc hp k (v + 1) S1 _ (by omega) a2 (fun q k => zQs_o P p 3 v (by omega)) (fun q => zQs_o P p 3 v (by omega)) ⟨hR.1, (f2.1 49 2 rfl).trans hR.2.1, fun i hi => by rw [f2.2]; exact hR.2.2 i hi⟩
      exact ⟨S', g1, g2, zfr_tr f2 g3⟩
theorem c_forWhom_5 (sc : zSc) {n : Nat} {P : Nat → Nat → Nat} {cs : List Int32} {gap ver w m p : Nat} {e : Nat → Int64} (hp : p < n) (x3 : Int32) : ∀ (k v : Nat) (S : zS) (Q : Nat → Nat → Nat), v + k = 256 → zRY n w P Q cs gap ver S → (∀ q, q ≠ p → Q q 4 = P q 4) → (∀ q, Q q 3 = P q 3) → zRc 49 50 m e S →
    ∃ S', zO zgI sc (zg1, (zm_X5_setsOfFriends, 7), 10, S, [some (.ref 23), some (.ref 49), some (.int (nI p)), some (.int x3), some (.int (nI (cnt (fun v => decide (rgF n P cs gap w m e p 4 v = 0)) v))), some (.int (z2 (cnt (fun v => decide (rgF n P cs gap w m e p 4 v = 0)) v) (fsF (fun v => decide (rgF n P cs gap w m e p 4 v = 0)) v))), some (.int (nI v))], []) = some (if x3 ≠ 0 then z2 (cnt (fun v => decide (rgF n P cs gap w m e p 4 v = 0)) 256) (fsF (fun v => decide (rgF n P cs gap w m e p 4 v = 0)) 256) else nI (cnt (fun v => decide (rgF n P cs gap w m e p 4 v = 0)) 256), S') ∧ zCE n P cs gap ver S' ∧ zfr zkC S S'
  | 0, v, S, Q, hv, hC, q4, q3, hR => by
    have : v = 256 := by omega
    subst this
    refine ⟨S, ?_, hC.1, zfr_refl _ _⟩
    rw [e_X5_setsOfFriends_49_10, if_pos (by decide), sif]
  | k + 1, v, S, Q, hv, hC, q4, q3, hR => by
    have hn := hC.1.1.2.1
    have ob : ¬ (nI p < 0 ∨ 8 ≤ (nI p).toNatClampNeg) := (by first | (rw [n_ob (by omega)]; omega) | (rw [n_obb (by omega)]; omega))
    have h1 := zRY_s4 (p := p) (v := v) hC (by omega) q4 q3
    have f1 : zfr zkC S (zw1 S 15 p (nI v)) := zfr_w0 15 p _ rfl
    obtain ⟨S1, a1, a2, a3⟩ := c_firstWrong_49 sc (m := m) (e := e) (fun q => zQs_o P p 4 v (by omega)) h1 ⟨hR.1, (f1.1 49 2 rfl).trans hR.2.1, hR.2.2⟩
    have f2 : zfr zkC S S1 := zfr_tr f1 a3
    have hle := rgF_le (n := n) (P := P) (cs := cs) (gap := gap) (w := w) (m := m) (e := e) (p := p) (u := 4) (v := v)
    have hcl := cnt_le (fun v => decide (rgF n P cs gap w m e p 4 v = 0)) v
    have ec : cnt (fun v => decide (rgF n P cs gap w m e p 4 v = 0)) (v + 1) = cnt (fun v => decide (rgF n P cs gap w m e p 4 v = 0)) v + (if decide (rgF n P cs gap w m e p 4 v = 0) = true then 1 else 0) := rfl
    have ef : fsF (fun v => decide (rgF n P cs gap w m e p 4 v = 0)) (v + 1) = if decide (rgF n P cs gap w m e p 4 v = 0) = true ∧ cnt (fun v => decide (rgF n P cs gap w m e p 4 v = 0)) v = 0 then v else fsF (fun v => decide (rgF n P cs gap w m e p 4 v = 0)) v := rfl
    obtain ⟨S', g1, g2, g3⟩ := c_forWhom_5 sc hp x3 k (v + 1) S1 _ (by omega) a2 (fun q k => zQs_o P p 4 v (by omega)) (fun q => zQs_o P p 4 v (by omega)) ⟨hR.1, (f2.1 49 2 rfl).trans hR.2.1, fun i hi => by rw [f2.2]; exact hR.2.2 i hi⟩
    rw [e_X5_setsOfFriends_49_10, if_neg (by rw [show (255 : Int32) = nI 255 from rfl, n_lt (by omega) (by omega)]; omega), if_neg ob, n_cl (by omega), a1, Option.bind_some]
    dsimp only
    rw [ifc (z2_ne2 (b := rgF n P cs gap w m e p 4 v) (v := rgF n P cs gap w m e p 4 v - 1) (by omega)), n_s1, n_s1, ifc (n_ne0 (a := cnt (fun v => decide (rgF n P cs gap w m e p 4 v = 0)) v) (by omega))]
    by_cases c : rgF n P cs gap w m e p 4 v = 0
    · rw [if_pos (decide_eq_true c)] at ec
      rw [if_neg (fun q => q c)]
      have nz : ¬ (cnt (fun v => decide (rgF n P cs gap w m e p 4 v = 0)) v + 1 = 0) := by omega
      have zz : ∀ x, z2 (cnt (fun v => decide (rgF n P cs gap w m e p 4 v = 0)) v + 1) x = nI x := fun x => if_neg nz
      rw [ec, zz] at g1
      by_cases z : cnt (fun v => decide (rgF n P cs gap w m e p 4 v = 0)) v = 0
      · rw [if_pos ⟨decide_eq_true c, z⟩] at ef
        rw [ef] at g1
        rw [if_neg (fun q => q z)]
        exact ⟨S', g1, g2, zfr_tr f2 g3⟩
      · rw [if_neg (fun q => z q.2)] at ef
        rw [ef] at g1
        rw [if_pos z, show z2 (cnt (fun v => decide (rgF n P cs gap w m e p 4 v = 0)) v) (fsF (fun v => decide (rgF n P cs gap w m e p 4 v = 0)) v) = nI (fsF (fun v => decide (rgF n P cs gap w m e p 4 v = 0)) v) from if_neg z]
        exact ⟨S', g1, g2, zfr_tr f2 g3⟩
    · rw [if_neg (by rw [decide_eq_true_iff]; exact c)] at ec
      have ec' : cnt (fun v => decide (rgF n P cs gap w m e p 4 v = 0)) (v + 1) = cnt (fun v => decide (rgF n P cs gap w m e p 4 v = 0)) v := ec
      rw [if_neg (fun q => c (of_decide_eq_true q.1))] at ef
      rw [ec', ef] at g1
      rw [if_pos c]
      exact ⟨S', g1, g2, zfr_tr f2 g3⟩
