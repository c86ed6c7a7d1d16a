theorem m_mayCome (sc : zSc) (S : zS) (a1 a2 : Int32) : zcI sc zm_X11_mayCome [.long a1.toInt64, .long a2.toInt64, .long (-1 : Int64)] S = some (zb (fitI 0 a1 ∧ fitI 1 a2), S) := by
  have w0 : zcI sc zm_X11_within [.long a1.toInt64, .long (Int64.ofNat 0), .long (99 : Int64)] S = some (zb (fitI 0 a1), S) := by
    rw [m_within, l32]; exact zb_sm Iff.rfl
  have w1 : zcI sc zm_X11_within [.long a2.toInt64, .long (Int64.ofNat 1), .long (99 : Int64)] S = some (zb (fitI 1 a2), S) := by
    rw [m_within, l32]; exact zb_sm Iff.rfl
  have w2 : zcI sc zm_X11_within [.long (-1 : Int64), .long (-1 : Int64), .long (15 : Int64)] S = some (1, S) := by
    rw [m_within, zb_t (by decide)]
  rw [c_X11_mayCome, w0, Option.bind_some]
  dsimp only
  by_cases c0 : fitI 0 a1
  · rw [zb_t c0, if_neg (by decide), w1, Option.bind_some]
    dsimp only
    by_cases c1 : fitI 1 a2
    · rw [zb_t c1, if_neg (by decide), w2, Option.bind_some]
      dsimp only
      rw [if_neg (by decide), zb_t ⟨c0, c1⟩]
    · rw [zb_f c1, if_pos rfl, zb_f (fun q => c1 q.2)]
  · rw [zb_f c0, if_pos rfl, zb_f (fun q => c0 q.1)]
theorem zV3_add {n : Nat} {S S' : zS} (h : zV3 n S) (f1 : S'.1 24 7 = S.1 24 7) (f2 : S'.1 51 29 = S.1 51 29) (f3 : S'.1 24 6 = S.1 24 6) (f4 : S'.1 51 30 = S.1 51 30) (f : ∀ c i, (c = 27 ∨ c = 28 ∨ c = 29 ∨ c = 65 ∨ c = 66 ∨ c = 67) → S'.1 c i = S.1 c i) (g : ∀ c i, (c = 25 ∨ c = 26 ∨ c = 64) → S'.1 c i = S.1 c i) (g56 : ∀ i, S'.1 56 i = if i = n then 0 else S.1 56 i) : zV3 (n + 1) S' := by
  refine ⟨fun p k => ?_, fun p k => ?_, fun p k1 k2 => ?_, zIm_n (zIm_cg h.2.2.2 f1 f2 f3 f4 f) (by omega)⟩
  · rw [g 25 p (by omega), g56]
    by_cases c : p = n
    · rw [if_pos c]; exact h.2.2.1 p (by omega) k
    · rw [if_neg c]; exact h.1 p k
  · rw [g 26 p (by omega), g 64 p (by omega)]; exact h.2.1 p k
  · rw [g 25 p (by omega)]; exact h.2.2.1 p (by omega) k2
theorem zV4_add {n : Nat} {S S' : zS} (h : zV4 n S) (f1 : S'.1 30 5 = S.1 30 5) (f2 : S'.1 51 5 = S.1 51 5) (f3 : S'.1 30 6 = S.1 30 6) (f4 : S'.1 51 4 = S.1 51 4) (f : ∀ c i, (c = 31 ∨ c = 32 ∨ c = 33 ∨ c = 34 ∨ c = 53 ∨ c = 54 ∨ c = 55) → S'.1 c i = S.1 c i) : zV4 (n + 1) S' := by
  obtain ⟨dn, sz, d1, d2, d3, d4, d5, d6, d7⟩ := zV4_cg h f1 f2 f3 f4 f
  exact ⟨dn, sz, d1, d2, d3, d4, d5, d6, fun i hi => zEn_n (d7 i hi) (by omega)⟩
theorem o_pupil (sc : zSc) {t : Nat} (hT : t < 1000000) {S : zS} (h : zInv t S) (a1 a2 : Int32) : zOp t (zcI sc zm_X10_pupil [.ref 0, .int a1, .int a2] S) (fun S => zcI sc zm_X11_pupil [.ref 51, .int a1, .int a2] S) := by
  have h0 := h
  obtain ⟨n, P, cs, gap, cn, ver, vs, ht, h1, h2, h3, h4, h5, h6⟩ := h
  have hn := h1.1.1.2.1
  have m1 : ¬ ((0 : Int32) ≠ 0) := fun q => q rfl
  have s0 : zcI sc zm_X4_fits [.int (0 : Int32), .int a1] S = some (zb (fitI 0 a1), S) := s_fitsN (w := 0) sc S (by omega) a1
  have s1 : zcI sc zm_X4_fits [.int (1 : Int32), .int a2] S = some (zb (fitI 1 a2), S) := s_fitsN (w := 1) sc S (by omega) a2
  by_cases c : fitI 0 a1 ∧ fitI 1 a2
  case neg =>
    refine zInv_self h0 (v := -1) ?_ ?_
    · rw [c_X10_pupil, s0, Option.bind_some]
      dsimp only
      by_cases c0 : fitI 0 a1
      · rw [zb_t c0, if_neg (by decide), s1, Option.bind_some]
        dsimp only
        rw [zb_f (fun q => c ⟨c0, q⟩), if_neg m1]
      · rw [zb_f c0, if_pos rfl]
    · show zcI sc zm_X11_pupil [.ref 51, .int a1, .int a2] S = _
      rw [c_X11_pupil, m_mayCome, Option.bind_some]
      dsimp only
      rw [zb_f c, if_neg m1]
  have hC : zcI sc zm_X10_pupil [.ref 0, .int a1, .int a2] S = (zcI sc zm_X4_add [.ref 1, .int a1, .int a2, .int (-1 : Int32)] S).bind (fun q3 => some (q3.1, q3.2)) := by
    rw [c_X10_pupil, s0, Option.bind_some]
    dsimp only
    rw [zb_t c.1, if_neg (by decide), s1, Option.bind_some]
    dsimp only
    rw [zb_t c.2, if_pos (by decide)]
  have hM : ∀ T : zS, zcI sc zm_X11_pupil [.ref 51, .int a1, .int a2] T = (if T.1 51 6 ≠ (8 : Int32) then ((zcV sc zm_X11_adds [.ref 51, .int a1, .int a2, .int (-1 : Int32)] T).bind (fun q2 => some ((q2.1 51 6) - (1 : Int32), q2))) else some (-3, T)) := fun T => by
    rw [c_X11_pupil, m_mayCome, Option.bind_some]
    dsimp only
    rw [zb_t c, if_pos (by decide)]
  by_cases e : n = 8
  · refine zInv_self h0 (v := -3) ?_ ?_
    · rw [hC, c_X4_add, h1.1.1.1, e, if_neg (by decide), Option.bind_some]
    · show zcI sc zm_X11_pupil [.ref 51, .int a1, .int a2] S = _
      rw [hM, h1.2.1.1.1, e, if_neg (by decide)]
  obtain ⟨a, ea, ha⟩ := fit_n (by omega) c.1
  obtain ⟨b, eb, hb⟩ := fit_n (by omega) c.2
  have ea' : a1 = nI a := ea
  have eb' : a2 = nI b := eb
  subst ea' eb'
  have r := c_padd sc (S := S) (n := n) (ver := ver) (by omega) h1.1.1.1 h1.1.2.2.2.2.2.1 (nI a) (nI b) (-1)
  generalize hT1 : (zw1 (zw1 (zw1 (zw1 (zw1 (zw1 (zw1 (zw1 (zw1 S 1 1 (nI (n + 1))) 2 (8 * n) (nI a)) 1 2 (nI (ver + 1))) 2 (8 * n + 1) (nI b)) 1 2 (nI (ver + 2))) 2 (8 * n + 2) (-1)) 1 2 (nI (ver + 3))) 2 (8 * n + 6) 9) 1 2 (nI (ver + 4))) = T1 at r
  have fT : zfr (zk [2] [(1, 1), (1, 2)]) S T1 := by
    rw [← hT1]
    exact zfr_w (zfr_w (zfr_w (zfr_w (zfr_w (zfr_w (zfr_w (zfr_w (zfr_w0 1 1 _ rfl) 2 _ _ rfl) 1 2 _ rfl) 2 _ _ rfl) 1 2 _ rfl) 2 _ _ rfl) 1 2 _ rfl) 2 _ _ rfl) 1 2 _ rfl
  have t11 : T1.1 1 1 = nI (n + 1) := by rw [← hT1]; simp only [zw1_r]; simp
  have t12 : T1.1 1 2 = nI (ver + 4) := by rw [← hT1, zw1_y]
  have t2 : ∀ j, T1.1 2 j = if j = 8 * n + 6 then 9 else if j = 8 * n + 2 then -1 else if j = 8 * n + 1 then nI b else if j = 8 * n then nI a else S.1 2 j := fun j => by rw [← hT1]; simp only [zw1_r]; simp
  have r2 := m_adds sc (S := T1) (n := n) (by omega) ((fT.1 51 6 rfl).trans h1.2.1.1.1) (nI a) (nI b) (-1)
  generalize hT2 : (zw1 (zw1 (zw1 (zw1 (zw1 (zw1 (zw1 (zw1 (zw1 (zw1 T1 52 n (nI a)) 52 (8 + n) (nI b)) 52 (16 + n) (-1)) 52 (24 + n) 0) 52 (32 + n) 0) 52 (40 + n) 0) 52 (48 + n) 9) 52 (56 + n) 0) 56 n 0) 51 6 (nI (n + 1))) = T2 at r2
  have fT2 : zfr (zk [52, 56] [(51, 6)]) T1 T2 := by
    rw [← hT2]
    exact zfr_w (zfr_w (zfr_w (zfr_w (zfr_w (zfr_w (zfr_w (zfr_w (zfr_w (zfr_w0 52 _ _ rfl) 52 _ _ rfl) 52 _ _ rfl) 52 _ _ rfl) 52 _ _ rfl) 52 _ _ rfl) 52 _ _ rfl) 52 _ _ rfl) 56 _ _ rfl) 51 6 _ rfl
  have u6 : T2.1 51 6 = nI (n + 1) := by rw [← hT2, zw1_y]
  have u52 : ∀ j, T2.1 52 j = if j = 56 + n then 0 else if j = 48 + n then 9 else if j = 40 + n then 0 else if j = 32 + n then 0 else if j = 24 + n then 0 else if j = 16 + n then -1 else if j = 8 + n then nI b else if j = n then nI a else T1.1 52 j := fun j => by rw [← hT2]; simp only [zw1_r]; simp
  have u56 : ∀ j, T2.1 56 j = if j = n then 0 else T1.1 56 j := fun j => by rw [← hT2]; simp only [zw1_r]; simp
  have f : zfr (zk [2, 52, 56] [(1, 1), (1, 2), (51, 6)]) S T2 := zfr_tr (zfr_up _ _ fT rfl) (zfr_up _ _ fT2 rfl)
  have z0 : zwho 0 = (-1 : Int32) := zwho0
  have h1' := zV1_add h1 (S' := T2) (a := a) (b := b) (wh := 0) (by omega) (by omega) (by omega) (by omega) (by omega) (by omega) ((fT2.1 1 1 rfl).trans t11) ((fT2.1 1 2 rfl).trans t12) (fun j => by rw [fT2.1 2 j rfl, t2, z0]) (fun j => by rw [u52, fT.1 52 j rfl, z0]) (f.1 6 7 rfl) (f.1 6 2 rfl) (fun j => f.1 7 j rfl) u6 (f.1 51 11 rfl) (fun j => f.1 58 j rfl) (f.1 51 18 rfl)
  refine ⟨nI n, T1, T2, ?_, ?_, n + 1, _, cs, gap, cn, ver + 4, vs, by omega, h1', zV2_cg h2 (f.1 3 2 rfl) (f.1 51 9 rfl) (fun i => f.1 4 i rfl) (fun i => f.1 57 i rfl), zV3_add h3 (f.1 24 7 rfl) (f.1 51 29 rfl) (f.1 24 6 rfl) (f.1 51 30 rfl) (fun c i h => by rcases h with rfl | rfl | rfl | rfl | rfl | rfl <;> exact f.1 _ i rfl) (fun c i h => by rcases h with rfl | rfl | rfl <;> exact f.1 _ i rfl) (fun i => by rw [u56, fT.1 56 i rfl]), zV4_add h4 (f.1 30 5 rfl) (f.1 51 5 rfl) (f.1 30 6 rfl) (f.1 51 4 rfl) (fun c i h => by rcases h with rfl | rfl | rfl | rfl | rfl | rfl | rfl <;> exact f.1 _ i rfl), zV5_cg h5 (f.1 35 2 rfl) (f.1 51 34 rfl) (f.1 35 3 rfl) (f.1 51 37 rfl) (fun c i h => by rcases h with rfl | rfl | rfl | rfl <;> exact f.1 _ i rfl), zSHs_cg h6 (fun c i h => by rcases h with rfl | rfl | rfl | rfl | rfl | rfl | rfl | rfl <;> exact f.1 _ i rfl) f.2⟩
  · rw [hC, r, Option.bind_some]
  · show zcI sc zm_X11_pupil [.ref 51, .int (nI a), .int (nI b)] T1 = _
    rw [hM, fT.1 51 6 rfl, h1.2.1.1.1, if_pos (by rw [show (8 : Int32) = nI 8 from rfl, n_ne (by omega) (by omega)]; exact e), r2, Option.bind_some, u6, n_p1 (by omega), Nat.add_sub_cancel]
