theorem m_mayCome3 (sc : zSc) (S : zS) {x0 x1 x2 : Int64} (h0 : -32768 ≤ x0.toInt ∧ x0.toInt ≤ 32767) (h1 : -32768 ≤ x1.toInt ∧ x1.toInt ≤ 32767) (h2 : -32768 ≤ x2.toInt ∧ x2.toInt ≤ 32767) : zcI sc zm_X11_mayCome [.long x0, .long x1, .long x2] S = some (zb (fitI 0 x0.toInt32 ∧ fitI 1 x1.toInt32 ∧ fitI 2 x2.toInt32), S) := by
  have w0 : zcI sc zm_X11_within [.long x0, .long (Int64.ofNat 0), .long (99 : Int64)] S = some (zb (fitI 0 x0.toInt32), S) := by
    rw [m_within]; refine zb_sm ?_; unfold fitI; rw [sh_i32 h0]; exact Iff.rfl
  have w1 : zcI sc zm_X11_within [.long x1, .long (Int64.ofNat 1), .long (99 : Int64)] S = some (zb (fitI 1 x1.toInt32), S) := by
    rw [m_within]; refine zb_sm ?_; unfold fitI; rw [sh_i32 h1]; exact Iff.rfl
  have w2 : zcI sc zm_X11_within [.long x2, .long (-1 : Int64), .long (15 : Int64)] S = some (zb (fitI 2 x2.toInt32), S) := by
    rw [m_within]; refine zb_sm ?_; unfold fitI; rw [sh_i32 h2]; exact Iff.rfl
  rw [c_X11_mayCome, w0, Option.bind_some]
  dsimp only
  by_cases c0 : fitI 0 x0.toInt32
  · rw [zb_t c0, if_neg (by decide), w1, Option.bind_some]
    dsimp only
    by_cases c1 : fitI 1 x1.toInt32
    · rw [zb_t c1, if_neg (by decide), w2, Option.bind_some]
      dsimp only
      by_cases c2 : fitI 2 x2.toInt32
      · rw [zb_t c2, if_neg (by decide), zb_t ⟨c0, c1, c2⟩]
      · rw [zb_f c2, if_pos rfl, zb_f (fun q => c2 q.2.2)]
    · rw [zb_f c1, if_pos rfl, zb_f (fun q => c1 q.2.1)]
  · rw [zb_f c0, if_pos rfl, zb_f (fun q => c0 q.1)]
theorem m_pup_end (sc : zSc) (S : zS) (x1 x2 x3 x4 : Int32) (o : Option Value) : zO zgI sc (zg1, (zm_X11_pupils, 3), 69, S, [some (.ref 51), some (.int x1), some (.int x2), some (.int x3), some (.int x4), some (.int (0 : Int32)), o], []) = some (x4, S) := by
  rw [e_X11_pupils_69, if_pos rfl]
theorem m_pup_110 (sc : zSc) (S : zS) (x1 x2 x3 x4 x5 : Int32) (o : Option Value) : zO zgI sc (zg1, (zm_X11_pupils, 3), 110, S, [some (.ref 51), some (.int x1), some (.int x2), some (.int x3), some (.int x4), some (.int x5), o], []) = some (x4, S) := by
  rw [e_X11_pupils_110, e_X11_pupils_111, if_pos rfl, if_pos rfl, m_pup_end]
theorem m_pupils_go (sc : zSc) {d i m nn n gap cn : Nat} {e : Nat → Int64} {P : Nat → Nat → Nat} {cs : List Int32} (hd : d < 6) (hm : m ≤ 60) (hnn : nn ≤ 8) (hn : n ≤ 8) (hi : i ≤ 100) (hrg : ∀ p, p < 60 → -32768 ≤ (e p).toInt ∧ (e p).toInt ≤ 32767) : ∀ (f c : Nat) (S : zS) (o : Option Value), f + c = nn → n + c ≤ 8 → zV1M (n + c) (pQ e i n P c) cs gap cn S → S.1 71 d = nI m → (∀ p, p < 60 → S.2 72 (60 * d + p) = e p) →
    ∃ S', zO zgI sc (zg1, (zm_X11_pupils, 3), 69, S, [some (.ref 51), some (.int (nI d)), some (.int (nI i)), some (.int (nI nn)), some (.int (nI c)), some (.int (1 : Int32)), o], []) = some (nI (pCnt e i m n f c), S') ∧ zV1M (n + pCnt e i m n f c) (pQ e i n P (pCnt e i m n f c)) cs gap cn S' ∧ zfr (zk [52, 56] [(51, 6)]) S S' ∧ ∀ j, S'.1 56 j = if n + c ≤ j ∧ j < n + pCnt e i m n f c then 0 else S.1 56 j
  | 0, c, S, o, hf, hnc, hV, h2, he => by
    have ek : pCnt e i m n 0 c = c := rfl
    rw [ek]
    refine ⟨S, ?_, hV, zfr_refl _ _, fun j => by rw [if_neg (by omega)]⟩
    rw [e_X11_pupils_69, if_neg (by decide), if_pos (by rw [n_le (by omega) (by omega)]; omega)]
  | f + 1, c, S, o, hf, hnc, hV, h2, he => by
    have e1 : pCnt e i m n (f + 1) c = if pOk e i m n c then pCnt e i m n f (c + 1) else c := rfl
    have k01 : ¬ ((1 : Int32) = 0) := by decide
    have e3 : (3 : Int32) * nI c = nI (3 * c) := zn_mul 3 c
    have hl : (nI m - (3 : Int32) - nI (3 * c)).toInt = (m : Int) - 3 - (3 * c : Nat) := by
      have h3 : (3 : Int32).toInt = 3 := rfl
      have q1 : (nI m - (3 : Int32)).toInt = (m : Int) - 3 := by rw [zi_sub (by rw [zi_nI (by omega), h3]; omega) (by rw [zi_nI (by omega), h3]; omega), zi_nI (by omega), h3]
      rw [zi_sub (by rw [q1, zi_nI (by omega)]; omega) (by rw [q1, zi_nI (by omega)]; omega), q1, zi_nI (by omega)]
    have hh : zO zgI sc (zg1, (zm_X11_pupils, 3), 69, S, [some (.ref 51), some (.int (nI d)), some (.int (nI i)), some (.int (nI nn)), some (.int (nI c)), some (.int (1 : Int32)), o], []) = (if nI m - (3 : Int32) - nI (3 * c) < nI i then some (nI c, S) else (if (8 : Int32) ≤ nI (n + c) then some (nI c, S) else zO zgI sc (zg1, (zm_X11_pupils, 3), 111, S, [some (.ref 51), some (.int (nI d)), some (.int (nI i)), some (.int (nI nn)), some (.int (nI c)), some (.int (1 : Int32)), o], [.int (1 : Int32)])) ) := by
      rw [e_X11_pupils_69, if_neg k01, if_neg (by rw [n_le (by omega) (by omega)]; omega), if_neg (by first | (rw [n_ob (by omega)]; omega) | (rw [n_obb (by omega)]; omega)), n_cl (by omega), h2, e3, m_pup_110, hV.1.1.1]
    rw [hh]
    by_cases c1 : i + 3 * c + 3 ≤ m
    case neg =>
      have ek : pCnt e i m n (f + 1) c = c := by rw [e1, if_neg (fun q => c1 q.1)]
      rw [ek]
      refine ⟨S, ?_, hV, zfr_refl _ _, fun j => by rw [if_neg (by omega)]⟩
      rw [if_pos (by rw [zi_lt, hl, zi_nI (by omega)]; omega)]
    rw [if_neg (by rw [zi_lt, hl, zi_nI (by omega)]; omega)]
    by_cases c8 : n + c < 8
    case neg =>
      have ek : pCnt e i m n (f + 1) c = c := by rw [e1, if_neg (fun q => c8 q.2.1)]
      rw [ek]
      refine ⟨S, ?_, hV, zfr_refl _ _, fun j => by rw [if_neg (by omega)]⟩
      rw [if_pos (by rw [show (8 : Int32) = nI 8 from rfl, n_le (by omega) (by omega)]; omega)]
    rw [if_neg (by rw [show (8 : Int32) = nI 8 from rfl, n_le (by omega) (by omega)]; omega)]
    have e60 : ((60 : Int32) * nI d) + nI i + nI (3 * c) = nI (60 * d + (i + 3 * c)) := by rw [show (60 : Int32) * nI d = nI (60 * d) from zn_mul 60 d, zn_add, zn_add, Nat.add_assoc]
    have k1 : nI (60 * d + (i + 3 * c)) + (1 : Int32) = nI (60 * d + (i + 3 * c + 1)) := zn_add _ 1
    have k2 : nI (60 * d + (i + 3 * c)) + (2 : Int32) = nI (60 * d + (i + 3 * c + 2)) := zn_add _ 2
    have ob0 : ¬ (nI (60 * d + (i + 3 * c)) < 0 ∨ 360 ≤ 60 * d + (i + 3 * c)) := (by first | (rw [n_ob (by omega)]; omega) | (rw [n_obb (by omega)]; omega))
    have ob1 : ¬ (nI (60 * d + (i + 3 * c + 1)) < 0 ∨ 360 ≤ 60 * d + (i + 3 * c + 1)) := (by first | (rw [n_ob (by omega)]; omega) | (rw [n_obb (by omega)]; omega))
    have ob2 : ¬ (nI (60 * d + (i + 3 * c + 2)) < 0 ∨ 360 ≤ 60 * d + (i + 3 * c + 2)) := (by first | (rw [n_ob (by omega)]; omega) | (rw [n_obb (by omega)]; omega))
    have he0 := he (i + 3 * c) (by omega)
    have he1 := he (i + 3 * c + 1) (by omega)
    have he2 := he (i + 3 * c + 2) (by omega)
    have mc := m_mayCome3 sc S (hrg (i + 3 * c) (by omega)) (hrg (i + 3 * c + 1) (by omega)) (hrg (i + 3 * c + 2) (by omega))
    rw [e_X11_pupils_111, if_neg k01, e3, e60, k1, k2, n_cl (a := 60 * d + (i + 3 * c)) (by omega), n_cl (a := 60 * d + (i + 3 * c + 1)) (by omega), n_cl (a := 60 * d + (i + 3 * c + 2)) (by omega), if_neg ob0, if_neg ob1, if_neg ob2, he0, he1, he2, mc, Option.bind_some]
    dsimp only
    by_cases c2 : pF e i c
    case neg =>
      have ek : pCnt e i m n (f + 1) c = c := by rw [e1, if_neg (fun q => c2 q.2.2)]
      rw [ek]
      refine ⟨S, ?_, hV, zfr_refl _ _, fun j => by rw [if_neg (by omega)]⟩
      have c2' : ¬ (fitI 0 (e (i + 3 * c)).toInt32 ∧ fitI 1 (e (i + 3 * c + 1)).toInt32 ∧ fitI 2 (e (i + 3 * c + 2)).toInt32) := c2
      rw [zb_f c2', if_pos rfl, if_pos rfl, m_pup_end]
    have f0 := fit0 c2.1
    have f1 := fit1 c2.2.1
    have f2 := fit2 c2.2.2
    have ma : zcV sc zm_X11_adds [.ref 51, .int (pe e i c 0), .int (pe e i c 1), .int (pe e i c 2)] S = some (padM S (n + c) (pe e i c 0) (pe e i c 1) (pe e i c 2)) := m_adds sc c8 hV.1.1.1 _ _ _
    have ma' : zcV sc zm_X11_adds [.ref 51, .int (e (i + 3 * c)).toInt32, .int (e (i + 3 * c + 1)).toInt32, .int (e (i + 3 * c + 2)).toInt32] S = some (padM S (n + c) (pe e i c 0) (pe e i c 1) (pe e i c 2)) := ma
    have fr := padM_f S (n + c) (pe e i c 0) (pe e i c 1) (pe e i c 2)
    have hV' : zV1M (n + (c + 1)) (pQ e i n P (c + 1)) cs gap cn (padM S (n + c) (pe e i c 0) (pe e i c 1) (pe e i c 2)) :=
      zV1M_add hV (a := (pe e i c 0).toInt.toNat) (b := (pe e i c 1).toInt.toNat) (wh := ((pe e i c 2).toInt + 1).toNat) c8 (fun j => by rw [padM_52, ← f0.1, ← f1.1, ← f2.1]) (padM_6 _ _ _ _ _) (fr.1 51 11 rfl) (fun j => fr.1 58 j rfl) (fr.1 51 18 rfl)
    obtain ⟨S', q1, q2, q3, q4⟩ := m_pupils_go sc hd hm hnn hn hi hrg f (c + 1) (padM S (n + c) (pe e i c 0) (pe e i c 1) (pe e i c 2)) (some (.int (nI (60 * d + (i + 3 * c))))) (by omega) (by omega) hV' (by rw [fr.1 71 d rfl]; exact h2) (fun p hp => by rw [fr.2]; exact he p hp)
    have ek : pCnt e i m n (f + 1) c = pCnt e i m n f (c + 1) := by rw [e1, if_pos ⟨c1, c8, c2⟩]
    have le := pCnt_le e i m n f (c + 1) (by omega)
    rw [ek]
    refine ⟨S', ?_, q2, zfr_tr fr q3, fun j => ?_⟩
    · have c2' : fitI 0 (e (i + 3 * c)).toInt32 ∧ fitI 1 (e (i + 3 * c + 1)).toInt32 ∧ fitI 2 (e (i + 3 * c + 2)).toInt32 := c2
      rw [zb_t c2', if_neg k01, if_neg k01, if_neg ob0, if_neg ob1, if_neg ob2, he0, he1, he2, ma', Option.bind_some, n_s1, q1]
    · rw [q4, padM_56]
      by_cases w : n + c ≤ j ∧ j < n + pCnt e i m n f (c + 1)
      · rw [if_pos w]
        by_cases w2 : j = n + c
        · rw [if_neg (by omega), if_pos w2]
        · rw [if_pos (by omega)]
      · rw [if_neg w, if_neg (by omega), if_neg (by omega)]
