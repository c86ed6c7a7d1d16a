/-! ===== how late one may be ===== -/
theorem khelp_cg2 {bo fr : Nat → Nat} {th th' : Nat → Nat → Bool} {K : zkS} {n p : Nat} (h : ∀ q, q < n → th q (K 3 4) = th' q (K 3 4)) : ∀ k q, q + k = n → khelp bo fr th K p k q = khelp bo fr th' K p k q
  | 0, q, _ => rfl
  | k + 1, q, e => by
    unfold khelp
    rw [h q (by omega), khelp_cg2 h k (q + 1) (by omega)]
theorem kcl_pre {n lk : Nat} {ord bo fr : Nat → Nat} {th th' : Nat → Nat → Bool} {T : Nat → Nat → Nat → Nat → Nat} {pl : Nat} (ho : ∀ i, i < n → ord i < n) (hpl : pl ≤ n) (h : ∀ m, m < pl → ∀ q, q < n → th q (kcl n ord bo fr th lk T m 3 4) = th' q (kcl n ord bo fr th lk T m 3 4)) : ∀ m, m ≤ pl → kcl n ord bo fr th lk T m = kcl n ord bo fr th' lk T m
  | 0, _ => rfl
  | m + 1, hm => by
    show kst n ord bo fr th lk T (kcl n ord bo fr th lk T m) m = kst n ord bo fr th' lk T (kcl n ord bo fr th' lk T m) m
    rw [← kcl_pre ho hpl h m (by omega)]
    unfold kst
    rw [khelp_cg2 (fun q k => h m (by omega) q k) n 0 (by omega), h m (by omega) (ord m) (ho m (by omega))]
theorem kst_t {n lk : Nat} {ord bo fr : Nat → Nat} {th : Nat → Nat → Bool} {T : Nat → Nat → Nat → Nat → Nat} (K : zkS) (pl : Nat) (hT : ∀ a b c d, 1 ≤ T a b c d) : K 3 4 < kst n ord bo fr th lk T K pl 3 4 := by
  unfold kst
  split
  · show K 3 4 < K 3 4 + T pl (ord pl) (ord pl + 1) (kbit lk (ord pl)); have := hT pl (ord pl) (ord pl + 1) (kbit lk (ord pl)); omega
  · split
    · show K 3 4 < K 3 4 + T pl (ord pl) 0 (kbit lk (ord pl)); have := hT pl (ord pl) 0 (kbit lk (ord pl)); omega
    · show K 3 4 < K 3 4 + T pl (ord pl) (khelp bo fr th K (ord pl) n 0) (kbit lk (ord pl)); have := hT pl (ord pl) (khelp bo fr th K (ord pl) n 0) (kbit lk (ord pl)); omega
theorem kcl_inc {n lk : Nat} {ord bo fr : Nat → Nat} {th : Nat → Nat → Bool} {T : Nat → Nat → Nat → Nat → Nat} (hT : ∀ a b c d, 1 ≤ T a b c d) (m : Nat) : ∀ k, kcl n ord bo fr th lk T m 3 4 < kcl n ord bo fr th lk T (m + k + 1) 3 4
  | 0 => kst_t _ m hT
  | k + 1 => Nat.lt_trans (kcl_inc hT m k) (kst_t _ (m + k + 1) hT)
theorem kst_o {n lk : Nat} {ord bo fr : Nat → Nat} {th : Nat → Nat → Bool} {T : Nat → Nat → Nat → Nat → Nat} (K : zkS) (pl p : Nat) (h : p ≠ ord pl) : kst n ord bo fr th lk T K pl 0 p = K 0 p ∧ kst n ord bo fr th lk T K pl 2 p = K 2 p := by
  unfold kst
  split
  · exact ⟨if_neg h, if_neg h⟩
  · split
    · exact ⟨if_neg h, if_neg h⟩
    · exact ⟨if_neg h, if_neg h⟩
theorem khelp_ne {bo fr : Nat → Nat} {th : Nat → Nat → Bool} {K : zkS} {p : Nat} (h : th p (K 3 4) = false) : ∀ k q, khelp bo fr th K p k q ≠ p + 1
  | 0, q => fun e => by have : (0 : Nat) = p + 1 := e; omega
  | k + 1, q => by
    unfold khelp
    split
    · rename_i hc
      intro e
      have : q = p := by omega
      rw [this, h, Bool.and_false] at hc
      exact Bool.false_ne_true hc
    · exact khelp_ne h k (q + 1)
theorem kst_p {n lk : Nat} {ord bo fr : Nat → Nat} {th : Nat → Nat → Bool} {T : Nat → Nat → Nat → Nat → Nat} (K : zkS) (pl : Nat) : (kst n ord bo fr th lk T K pl 0 (ord pl) = ord pl + 1 ↔ th (ord pl) (K 3 4) = true) ∧ kst n ord bo fr th lk T K pl 2 (ord pl) = K 3 4 := by
  unfold kst
  by_cases c : th (ord pl) (K 3 4) = true
  · rw [if_pos c]
    refine ⟨⟨fun _ => c, fun _ => ?_⟩, if_pos rfl⟩
    show (if ord pl = ord pl then ord pl + 1 else K 0 (ord pl)) = ord pl + 1
    rw [if_pos rfl]
  · have c' : th (ord pl) (K 3 4) = false := by simpa using c
    have hne := khelp_ne (bo := bo) (fr := fr) c' n 0
    rw [if_neg c]
    by_cases d : khelp bo fr th K (ord pl) n 0 ≠ 0 ∧ lk.testBit (ord pl) = true
    · rw [if_pos d]
      refine ⟨⟨fun e => ?_, fun e => absurd e c⟩, if_pos rfl⟩
      have e' : (if ord pl = ord pl then 0 else kca K 0 (ord pl)) = ord pl + 1 := e
      rw [if_pos rfl] at e'
      omega
    · rw [if_neg d]
      refine ⟨⟨fun e => ?_, fun e => absurd e c⟩, if_pos rfl⟩
      have e' : (if ord pl = ord pl then khelp bo fr th K (ord pl) n 0 else K 0 (ord pl)) = ord pl + 1 := e
      rw [if_pos rfl] at e'
      exact absurd e' hne
theorem kcl_keep {n lk : Nat} {ord bo fr : Nat → Nat} {th : Nat → Nat → Bool} {T : Nat → Nat → Nat → Nat → Nat} {pl p : Nat} (h : ∀ m, pl < m → m < n → p ≠ ord m) : ∀ k, pl + 1 + k ≤ n → kcl n ord bo fr th lk T (pl + 1 + k) 0 p = kcl n ord bo fr th lk T (pl + 1) 0 p ∧ kcl n ord bo fr th lk T (pl + 1 + k) 2 p = kcl n ord bo fr th lk T (pl + 1) 2 p
  | 0, _ => ⟨rfl, rfl⟩
  | k + 1, hk => by
    have ih := kcl_keep (bo := bo) (fr := fr) (th := th) (T := T) (lk := lk) h k (by omega)
    have := kst_o (lk := lk) (n := n) (ord := ord) (bo := bo) (fr := fr) (th := th) (T := T) (kcl n ord bo fr th lk T (pl + 1 + k)) (pl + 1 + k) p (h _ (by omega) (by omega))
    exact ⟨this.1.trans ih.1, this.2.trans ih.2⟩
/-- with another lateness -/
def zQv (P : Nat → Nat → Nat) (p v : Nat) : Nat → Nat → Nat := fun q w => if q = p ∧ w = 7 then v else P q w
theorem zQv_QP (P : Nat → Nat → Nat) (p v : Nat) : zQP (zQv P p v) P := fun q w _ _ h => if_neg (fun k => h k.2)
theorem zQv_PR {n : Nat} {P : Nat → Nat → Nat} (h : zPR n P) (p : Nat) {v : Nat} (hv : v ≤ 999) : zPR n (zQv P p v) := by
  intro q hq
  have := h q hq
  have e : ∀ w, w ≠ 7 → zQv P p v q w = P q w := fun w k => if_neg (fun j => k j.2)
  rw [e 0 (by omega), e 1 (by omega), e 2 (by omega), e 3 (by omega), e 4 (by omega), e 5 (by omega), e 6 (by omega)]
  refine ⟨this.1, this.2.1, this.2.2.1, this.2.2.2.1, this.2.2.2.2.1, this.2.2.2.2.2.1, this.2.2.2.2.2.2.1, this.2.2.2.2.2.2.2.1, ?_⟩
  unfold zQv
  split
  · exact hv
  · exact this.2.2.2.2.2.2.2.2
abbrev kv (n : Nat) (P : Nat → Nat → Nat) (cs : List Int32) (gap l w p v : Nat) : Nat → zkS :=
  kcl n (zowy P n w) (fun q => P q 3) (fun q => P q 4) (fun q t => yhf P l q && decide (zQv P p v q 7 ≤ t)) 0 (ttv cs (zslw P) gap w)
theorem kv_e {n : Nat} {P : Nat → Nat → Nat} {cs : List Int32} {gap l w p v : Nat} : kcm n (zQv P p v) cs gap none l w 0 n = kv n P cs gap l w p v n := by
  show kcl n (zowy (zQv P p v) n w) (fun q => zQv P p v q 3) (fun q => zQv P p v q 4) (thM none (zQv P p v) l) 0 (ttv cs (zslw (zQv P p v)) gap w) n = _
  rw [zQP_ow (zQv_QP P p v), zQP_sl (zQv_QP P p v)]
  refine kcl_cg (fun i k => ⟨od_lt (ykey P w) k, rfl⟩) (fun q k => ⟨if_neg (fun j => by omega), if_neg (fun j => by omega), fun t => ?_⟩) n (Nat.le_refl _)
  show (yhf (zQv P p v) l q && decide (zQv P p v q 7 ≤ t)) = _
  rw [zQP_hf (zQv_QP P p v)]
/-- when the name comes, and whether itself answers -/
theorem kv_main {n : Nat} (hn : n ≤ 8) {P : Nat → Nat → Nat} {cs : List Int32} {gap l w p : Nat} (hp : p < n) :
    ∃ c, kv n P cs gap l w p 999 n 2 p = c ∧ (∀ v, c ≤ v → v ≤ 999 → (kv n P cs gap l w p v n 0 p = p + 1 ↔ (yhf P l p = true ∧ v ≤ c))) ∧ (999 ≤ c → (kv n P cs gap l w p 999 n 0 p = p + 1 ↔ yhf P l p = true)) ∧ (yhf P l p = false → ∀ v, kv n P cs gap l w p v n 0 p ≠ p + 1) := by
  obtain ⟨q1, q2⟩ := (od_ok (ykey P w) n).1 p hp
  have hord : ∀ i, i < n → zowy P n w i < n := fun i k => od_lt (ykey P w) k
  have hT : ∀ a b c d, 1 ≤ ttv cs (zslw P) gap w a b c d := fun _ _ _ _ => (tcl_b _).1
  have hop : zowy P n w (ocn (ykey P w) n p) = p := q2
  have hinj : ∀ m, m < n → p = zowy P n w m → m = ocn (ykey P w) n p := by
    intro m hm e
    have := ((od_ok (ykey P w) n).2 m hm).2
    rw [show od (ykey P w) n m = p from e.symm] at this
    exact this.symm
  have hkeep : ∀ v, kv n P cs gap l w p v n 0 p = kv n P cs gap l w p v (ocn (ykey P w) n p + 1) 0 p ∧ kv n P cs gap l w p v n 2 p = kv n P cs gap l w p v (ocn (ykey P w) n p + 1) 2 p := by
    intro v
    have := kcl_keep (n := n) (lk := 0) (ord := zowy P n w) (bo := fun q => P q 3) (fr := fun q => P q 4) (th := fun q t => yhf P l q && decide (zQv P p v q 7 ≤ t)) (T := ttv cs (zslw P) gap w) (pl := ocn (ykey P w) n p) (p := p) (fun m k1 k2 e => by have := hinj m k2 e; omega) (n - (ocn (ykey P w) n p + 1)) (by omega)
    rw [show ocn (ykey P w) n p + 1 + (n - (ocn (ykey P w) n p + 1)) = n by omega] at this
    exact this
  have hat : ∀ v, (kv n P cs gap l w p v (ocn (ykey P w) n p + 1) 0 p = p + 1 ↔ (yhf P l p && decide (v ≤ kv n P cs gap l w p v (ocn (ykey P w) n p) 3 4)) = true) ∧ kv n P cs gap l w p v (ocn (ykey P w) n p + 1) 2 p = kv n P cs gap l w p v (ocn (ykey P w) n p) 3 4 := by
    intro v
    have := kst_p (n := n) (lk := 0) (ord := zowy P n w) (bo := fun q => P q 3) (fr := fun q => P q 4) (th := fun q t => yhf P l q && decide (zQv P p v q 7 ≤ t)) (T := ttv cs (zslw P) gap w) (kv n P cs gap l w p v (ocn (ykey P w) n p)) (ocn (ykey P w) n p)
    rw [hop] at this
    have e7 : zQv P p v p 7 = v := if_pos ⟨rfl, rfl⟩
    (try dsimp only at this)
    rw [e7] at this
    exact this
  have hpre : ∀ v, kv n P cs gap l w p 999 (ocn (ykey P w) n p) 3 4 ≤ v → v ≤ 999 → kv n P cs gap l w p v (ocn (ykey P w) n p) = kv n P cs gap l w p 999 (ocn (ykey P w) n p) := by
    intro v k1 k2
    refine (kcl_pre hord (show ocn (ykey P w) n p ≤ n by omega) (fun m hm q hq => ?_) _ (Nat.le_refl _)).symm
    show (yhf P l q && decide (zQv P p 999 q 7 ≤ kv n P cs gap l w p 999 m 3 4)) = (yhf P l q && decide (zQv P p v q 7 ≤ kv n P cs gap l w p 999 m 3 4))
    by_cases e : q = p
    · have := kcl_inc (n := n) (lk := 0) (ord := zowy P n w) (bo := fun q => P q 3) (fr := fun q => P q 4) (th := fun q t => yhf P l q && decide (zQv P p 999 q 7 ≤ t)) (T := ttv cs (zslw P) gap w) hT m (ocn (ykey P w) n p - m - 1)
      rw [show m + (ocn (ykey P w) n p - m - 1) + 1 = ocn (ykey P w) n p by omega] at this
      have t1 : kv n P cs gap l w p 999 m 3 4 < kv n P cs gap l w p 999 (ocn (ykey P w) n p) 3 4 := this
      rw [show zQv P p 999 q 7 = 999 from if_pos ⟨e, rfl⟩, show zQv P p v q 7 = v from if_pos ⟨e, rfl⟩, decide_eq_false (by omega), decide_eq_false (by omega)]
    · rw [show zQv P p 999 q 7 = P q 7 from if_neg (fun k => e k.1), show zQv P p v q 7 = P q 7 from if_neg (fun k => e k.1)]
  refine ⟨kv n P cs gap l w p 999 (ocn (ykey P w) n p) 3 4, (hkeep 999).2.trans (hat 999).2, fun v k1 k2 => ?_, fun k => ?_, fun k v => ?_⟩
  · rw [(hkeep v).1, (hat v).1, hpre v k1 k2, Bool.and_eq_true, decide_eq_true_iff]
  · rw [(hkeep 999).1, (hat 999).1, Bool.and_eq_true, decide_eq_true_iff]
    exact ⟨fun q => q.1, fun q => ⟨q, k⟩⟩
  · rw [(hkeep v).1]
    intro e
    have := (hat v).1.mp e
    rw [k, Bool.false_and] at this
    exact Bool.false_ne_true this
theorem zfr_fix {l : List Nat} {o : List (Nat × Nat)} {c i : Nat} {S S' : zS} (h : zfr (zk l (o ++ [(c, i)])) S S') (e : S'.1 c i = S.1 c i) : zfr (zk l o) S S' := by
  refine ⟨fun d j k => ?_, h.2⟩
  by_cases q : d = c ∧ j = i
  · rw [q.1, q.2]; exact e
  · refine h.1 d j ?_
    unfold zk at k ⊢
    rw [List.any_append, Bool.not_or, ← Bool.and_assoc, k, Bool.true_and]
    simp
    by_cases a : c = d
    · exact Or.inr (fun b => q ⟨a.symm, b.symm⟩)
    · exact Or.inl a
abbrev zkIt (p : Nat) : Nat → Nat → Bool := zk [59, 60, 61, 62, 63] ([(51, 12), (51, 13), (51, 14), (51, 15), (51, 16), (51, 21), (51, 22), (51, 23), (51, 24), (51, 25)] ++ [(52, p)])
theorem zkIt_w {p : Nat} {S S' : zS} (h : zfr (zkIt p) S S') (x : Int32) : zfr (zkIt p) S (zw1 S' 52 p x) := zfr_w h 52 p x (by simp [zk])
theorem zPM_v {n : Nat} {P : Nat → Nat → Nat} {p v w : Nat} {S0 S : zS} (h : zPM n P S0) (hp : p < n) (f : zfr (zkIt (56 + p)) S0 S) : zPM n (zQv P p v) (zw1 S 52 (56 + p) (nI v)) := by
  have hn := h.2.1
  refine ⟨by rw [zw1_n _ _ (by omega)]; exact (f.1 51 6 rfl).trans h.1, hn, fun q w hq hw => ?_⟩
  unfold zQv
  by_cases e : q = p ∧ w = 7
  · rw [if_pos e, e.1, e.2, show 8 * 7 + p = 56 + p by omega, zw1_y]; rfl
  · have hne : 8 * w + q ≠ 56 + p := by omega
    rw [if_neg e, zw1_n _ _ (by omega), f.1 52 (8 * w + q) (by simp [zk]; omega)]
    exact h.2.2 q w hq hw
theorem zME_v {n : Nat} {P : Nat → Nat → Nat} {cs : List Int32} {gap p v : Nat} {S0 S : zS} (h : zME n P cs gap none S0) (hp : p < n) (f : zfr (zkIt (56 + p)) S0 S) : zME n (zQv P p v) cs gap none (zw1 S 52 (56 + p) (nI v)) := by
  have hn := h.1.2.1
  refine ⟨zPM_v (w := 0) h.1 hp f, ?_, zTX_cg h.2.2.1 (by rw [zw1_n _ _ (by omega)]; exact f.1 51 11 rfl) (fun j => by rw [zw1_n _ _ (by omega)]; exact f.1 58 j rfl), zTD_cg h.2.2.2 (by rw [zw1_n _ _ (by omega)]; exact f.1 51 18 rfl)⟩
  rw [zw1_n _ _ (by omega), f.1 52 64 (by simp [zk]; omega)]
  exact h.2.1
theorem m_inTime_go (sc : zSc) {n : Nat} {P : Nat → Nat → Nat} {cs : List Int32} {gap l w p : Nat} (hr : zPR n P) (hl : l < 10) (hw : w < 3) (hp : p < n) (x1 had : Int32) (e1 : x1 / 10 = nI l) (e2 : x1 - x1 / 10 * 10 = nI w) {S0 : zS} (hM : zME n P cs gap none S0) (hhad : S0.1 52 (56 + p) = had) :
    ∀ (i : Nat) (S : zS) (R : Int32), i ≤ 1000 → zfr (zkIt (56 + p)) S0 S →
    ((R = -2 ∧ ∀ v, v < i → kv n P cs gap l w p v n 0 p ≠ p + 1) ∨ (∃ v, R = nI v ∧ v < i ∧ kv n P cs gap l w p v n 0 p = p + 1 ∧ ∀ u, v < u → u < i → kv n P cs gap l w p u n 0 p ≠ p + 1)) →
    ∃ S', zO zgI sc (zg1, (zm_X11_inTime, 66), 40, S, [some (.ref 51), some (.int x1), some (.int (nI p)), some (.int (nI (56 + p))), some (.int had), some (.int (-2 : Int32)), some (.int (zwho i))], []) = some (R, S') ∧ zfr zkMq S0 S'
  | 0, S, R, hi, f, hx => by
    have hn := hM.1.2.1
    have hR : R = -2 := by
      rcases hx with ⟨a, _⟩ | ⟨v, _, a, _⟩
      · exact a
      · omega
    refine ⟨zw1 S 52 (56 + p) had, ?_, zfr_fix (zkIt_w f had) (by rw [zw1_y, hhad])⟩
    rw [e_X11_inTime_40, zwho0, if_pos (by decide), if_neg (by first | (rw [n_ob (by omega)]; omega) | (rw [n_obb (by omega)]; omega)), n_cl (by omega), hR]
  | i + 1, S, R, hi, f, hx => by
    have hn := hM.1.2.1
    have h1 := zME_v (v := i) hM hp f
    obtain ⟨S1, a1, a2, a3, a4⟩ := m_run sc h1 (zQv_PR hr p (show i ≤ 999 by omega)) hl hw (lk := 0) (by omega)
    have a1' : zcV sc zm_X11_calls [.ref 51, .int (nI l), .int (nI w), .int (0 : Int32)] (zw1 S 52 (56 + p) (nI i)) = some S1 := a1
    have hg := ((kcm_good (P := zQv P p i) (cs := cs) (gap := gap) (o := none) (l := l) (way := w) (lk := 0) hn).2.2.2.2.2 p).1
    have f1 : zfr (zkIt (56 + p)) S0 S1 := zfr_tr (zkIt_w f (nI i)) (zfr_up _ _ a3 rfl)
    have zm : nI i + (-1 : Int32) = zwho i := by unfold zwho; rw [Int32.sub_eq_add_neg]
    rw [e_X11_inTime_40, zwhoS, if_neg (by rw [n_lt0 (by omega)]; exact id), if_neg (by decide), if_neg (by first | (rw [n_ob (by omega)]; omega) | (rw [n_obb (by omega)]; omega)), n_cl (by omega), e2, e1, a1', Option.bind_some, if_neg (by first | (rw [n_ob (by omega)]; omega) | (rw [n_obb (by omega)]; omega)), n_cl (by omega), (a2.1 p (by omega)).1, ifc (zwho_nn (w := kcm n (zQv P p i) cs gap none l w 0 n 0 p) (p := p) (by omega) (by omega)), zm]
    have ek : kcm n (zQv P p i) cs gap none l w 0 n 0 p = kv n P cs gap l w p i n 0 p := by rw [kv_e]
    by_cases c : kcm n (zQv P p i) cs gap none l w 0 n 0 p = p + 1
    · have hR : R = nI i := by
        rcases hx with ⟨_, a⟩ | ⟨v, a, b, d, e⟩
        · exact absurd (ek ▸ c) (a i (by omega))
        · by_cases q : v = i
          · rw [a, q]
          · exact absurd (ek ▸ c) (e i (by omega) (by omega))
      rw [if_neg (fun q => q c)]
      refine ⟨zw1 S1 52 (56 + p) had, ?_, zfr_fix (zkIt_w f1 had) (by rw [zw1_y, hhad])⟩
      rw [e_X11_inTime_40]
      have ob : ¬ (nI (56 + p) < 0 ∨ 66 ≤ (nI (56 + p)).toNatClampNeg) := (by first | (rw [n_ob (by omega)]; omega) | (rw [n_obb (by omega)]; omega))
      rw [if_neg ob, n_cl (by omega), hR]
      by_cases z : zwho i < 0
      · rw [if_pos z]
      · rw [if_neg z, if_pos (by rw [n_0le (by omega)]; trivial)]
    · rw [if_pos c]
      refine m_inTime_go sc hr hl hw hp x1 had e1 e2 hM hhad i S1 R (by omega) f1 ?_
      rcases hx with ⟨a, b⟩ | ⟨v, a, b, d, e⟩
      · exact Or.inl ⟨a, fun v k => b v (by omega)⟩
      · refine Or.inr ⟨v, a, ?_, d, fun u k1 k2 => e u k1 (by omega)⟩
        by_cases q : v = i
        · rw [q] at d; exact absurd (ek.trans d) c
        · omega
theorem q_inTime (sc : zSc) {n : Nat} {P : Nat → Nat → Nat} {cs : List Int32} {gap ver : Nat} {S : zS} (hC : zCE n P cs gap ver S) (hM : zME n P cs gap none S) (a1 a2 : Int32) :
    zQ n P cs gap ver (zcI sc zm_X10_inTime [.ref 0, .int a1, .int a2] S) (fun S => zcI sc zm_X11_inTime [.ref 51, .int a1, .int a2] S) S := by
  have hn := hC.1.2.1
  have hr := hC.2.1
  by_cases h1 : tok a1
  case neg =>
    refine ⟨-1, S, S, ?_, ?_, hC, zfr_refl _ _, zfr_refl _ _⟩
    · rw [c_X10_inTime]; rw [s_isLW, Option.bind_some]; (try dsimp only); rw [zb_f h1]; exact if_pos rfl
    · show zcI sc zm_X11_inTime [.ref 51, .int a1, .int a2] S = _
      rw [c_X11_inTime]; rw [m_isTw, Option.bind_some]; (try dsimp only); rw [zb_f h1]; exact if_pos rfl
  by_cases h2 : rgp a2 n
  case neg =>
    refine ⟨-1, S, S, ?_, ?_, hC, zfr_refl _ _, zfr_refl _ _⟩
    · rw [c_X10_inTime]; rw [s_isLW, Option.bind_some]; (try dsimp only); rw [zb_t h1]; rw [if_neg (show ¬ ((1 : Int32) = 0) by decide)]; rw [c_isOne sc hC.1, Option.bind_some]; (try dsimp only); rw [zb_f h2]; exact if_neg (fun q => q rfl)
    · show zcI sc zm_X11_inTime [.ref 51, .int a1, .int a2] S = _
      rw [c_X11_inTime]; rw [m_isTw, Option.bind_some]; (try dsimp only); rw [zb_t h1]; rw [if_neg (show ¬ ((1 : Int32) = 0) by decide)]; rw [m_isOne sc hM.1, Option.bind_some]; (try dsimp only); rw [zb_f h2]; exact if_neg (fun q => q rfl)
  obtain ⟨t, rfl, ht1, ht2, e1, e2⟩ := tok_n h1
  obtain ⟨p, rfl, hp⟩ := rgp_n h2
  obtain ⟨S1, b1, b2, b3⟩ := c_load sc hC ht2
  obtain ⟨S2, d1, d2, d3, d4, d5⟩ := c_inLesson sc b2 ht1
  obtain ⟨c, c1, c2, c3, c4⟩ := kv_main hn (P := P) (cs := cs) (gap := gap) (l := t / 10) (w := t % 10) hp
  have hbt : (hmk (yhf P (t / 10)) n).testBit p = yhf P (t / 10) p := by rw [hmk_bt, decide_eq_true hp, Bool.true_and]
  -- the model, from where the class has come to
  have mod : ∀ (S3 : zS) (R : Int32), zfr zkC S S3 → ((R = -2 ∧ ∀ v, v < 1000 → kv n P cs gap (t / 10) (t % 10) p v n 0 p ≠ p + 1) ∨ (∃ v, R = nI v ∧ v < 1000 ∧ kv n P cs gap (t / 10) (t % 10) p v n 0 p = p + 1 ∧ ∀ u, v < u → u < 1000 → kv n P cs gap (t / 10) (t % 10) p u n 0 p ≠ p + 1)) →
      ∃ S', zcI sc zm_X11_inTime [.ref 51, .int (nI t), .int (nI p)] S3 = some (R, S') ∧ zfr zkMq S3 S' := by
    intro S3 R f hR
    have hM3 := zME_C hM f
    obtain ⟨S', g1, g2⟩ := m_inTime_go sc hr ht1 ht2 hp (nI t) (S3.1 52 (56 + p)) e1 e2 hM3 rfl 1000 S3 R (Nat.le_refl _) (zfr_refl _ _) hR
    refine ⟨S', ?_, g2⟩
    rw [c_X11_inTime]; rw [m_isTw, Option.bind_some]; (try dsimp only); rw [zb_t h1]; rw [if_neg (show ¬ ((1 : Int32) = 0) by decide)]; rw [m_isOne sc hM3.1, Option.bind_some]; (try dsimp only); rw [zb_t h2]; rw [if_pos (show (1 : Int32) ≠ 0 by decide)]
    have e56 : (56 : Int32) + nI p = nI (56 + p) := zn_add 56 p
    rw [e56, if_neg (by first | (rw [n_ob (by omega)]; omega) | (rw [n_obb (by omega)]; omega)), n_cl (by omega)]
    exact g1
  by_cases hy : yhf P (t / 10) p = true
  case neg =>
    have hy' : yhf P (t / 10) p = false := by simpa using hy
    obtain ⟨S4, k1, k2⟩ := mod S2 (-2) (zfr_tr b3 d5) (Or.inl ⟨rfl, fun v _ => c4 hy' v⟩)
    refine ⟨-2, S2, S4, ?_, k1, d2.1, zfr_tr b3 d5, k2⟩
    rw [c_X10_inTime]; rw [s_isLW, Option.bind_some]; (try dsimp only); rw [zb_t h1]; rw [if_neg (show ¬ ((1 : Int32) = 0) by decide)]; rw [c_isOne sc hC.1, Option.bind_some]; (try dsimp only); rw [zb_t h2]; rw [if_pos (show (1 : Int32) ≠ 0 by decide)]
    rw [e2, e1, c_X8_greatestLate, b1, Option.bind_some, d1, Option.bind_some, d3, s_holds sc S2 (hmk_lt _ n hn) (by omega), Option.bind_some]
    dsimp only
    rw [zb_f (by rw [hbt]; exact hy), if_neg (fun q => q rfl), Option.bind_some]
  case pos =>
    have f2 : zfr zkC S2 (zw1 S2 16 p 999) := zfr_w0 16 p _ rfl
    have d2' := zRY_up d2 (S' := zw1 S2 16 p 999) (zfr_w0 16 p _ rfl)
    have hQ : zRY n (t % 10) P (zQv P p 999) cs gap ver (zw1 S2 16 p 999) := ⟨d2'.1, d2'.2.1, d2'.2.2.1, d2'.2.2.2.1, zQv_QP P p 999, zQv_PR hr p (Nat.le_refl _), fun q k => by
      have := d2'.2.2.2.2.2.2 q k
      rw [show zQv P p 999 q 3 = P q 3 from if_neg (fun j => by omega), show zQv P p 999 q 4 = P q 4 from if_neg (fun j => by omega)]
      exact this⟩
    obtain ⟨S3, g1, g2, g3, g4, g5, g6, _⟩ := c_makeL sc hQ (l := t / 10) (by rw [zw1_n _ _ (by omega)]; exact d3) (fun q k => by
      unfold zQv
      by_cases e : q = p
      · rw [if_pos ⟨e, rfl⟩, e, zw1_y]; rfl
      · rw [if_neg (fun j => e j.1), zw1_n _ _ (by omega)]; exact d4 q k) (lk := 0) (by omega)
    have g1' : zcV sc zm_X0_make [.ref 12, .int (0 : Int32)] (zw1 S2 16 p 999) = some S3 := g1
    have f3 : zfr zkC S S3 := zfr_tr b3 (zfr_tr d5 (zfr_tr f2 g6))
    have hcam : S3.1 19 p = nI c := by rw [(g2.2.2.2.2.2 p hp).2, kv_e, c1]
    have hcb : c ≤ 8000 := by
      have := ((kcm_good (P := zQv P p 999) (cs := cs) (gap := gap) (o := none) (l := t / 10) (way := t % 10) (lk := 0) hn).2.2.2.2.2 p).2.2
      rw [kv_e, c1] at this
      exact Nat.le_trans this (by omega)
    obtain ⟨S4, k1, k2⟩ := mod S3 (nI (if c < 999 then c else 999)) f3 (by
      refine Or.inr ⟨if c < 999 then c else 999, rfl, ?_, ?_, ?_⟩
      · split <;> omega
      · by_cases q : c < 999
        · rw [if_pos q]; exact (c2 c (Nat.le_refl _) (by omega)).mpr ⟨hy, Nat.le_refl _⟩
        · rw [if_neg q]; exact (c3 (by omega)).mpr hy
      · intro u q1 q2 e
        by_cases q : c < 999
        · rw [if_pos q] at q1
          have := ((c2 u (by omega) (by omega)).mp e).2
          omega
        · rw [if_neg q] at q1
          omega)
    refine ⟨nI (if c < 999 then c else 999), S3, S4, ?_, k1, ?_, f3, k2⟩
    · rw [c_X10_inTime]; rw [s_isLW, Option.bind_some]; (try dsimp only); rw [zb_t h1]; rw [if_neg (show ¬ ((1 : Int32) = 0) by decide)]; rw [c_isOne sc hC.1, Option.bind_some]; (try dsimp only); rw [zb_t h2]; rw [if_pos (show (1 : Int32) ≠ 0 by decide)]
      rw [e2, e1, c_X8_greatestLate, b1, Option.bind_some, d1, Option.bind_some, d3, s_holds sc S2 (hmk_lt _ n hn) (by omega), Option.bind_some]
      dsimp only
      rw [zb_t (by rw [hbt]; exact hy), if_pos (by decide), if_neg (by first | (rw [n_ob (by omega)]; omega) | (rw [n_obb (by omega)]; omega)), n_cl (by omega), g1', Option.bind_some, if_neg (by first | (rw [n_ob (by omega)]; omega) | (rw [n_obb (by omega)]; omega)), hcam, Option.bind_some]
      dsimp only
      rw [show (999 : Int32) = nI 999 from rfl, ifc (n_lt (a := c) (b := 999) (by omega) (by omega))]
      by_cases q : c < 999
      · rw [if_pos q, if_pos q]
      · rw [if_neg q, if_neg q]
    · exact g3.1
