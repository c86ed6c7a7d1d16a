theorem zSh_up {C E d vs : Nat} {S : zS} (h : zSh C E d vs S) : zSh C E d (vs + 1) S := by
  obtain ⟨a, b, h⟩ := h
  refine ⟨a, b, ?_⟩
  rcases h with h | ⟨v, hv, h⟩ | h
  · exact Or.inl h
  · exact Or.inr (Or.inl ⟨v, by omega, h⟩)
  · exact Or.inr (Or.inr h)
theorem zSHs_up {vs : Nat} {S : zS} (h : zSHs vs S) : zSHs (vs + 1) S := ⟨zSh_up h.1, zSh_up h.2.1, zSh_up h.2.2.1, zSh_up h.2.2.2.1, zSh_up h.2.2.2.2.1, zSh_up h.2.2.2.2.2⟩
theorem o_body (sc : zSc) {t : Nat} {S : zS} (h : zInv t S) (a1 : Int32) : zOp t (zcI sc zm_X10_body [.ref 0, .int a1] S) (fun S => zcI sc zm_X11_body [.ref 51, .int a1] S) := by
  have h0 := h
  obtain ⟨n, P, cs, gap, cn, ver, vs, ht, h1, h2, h3, h4, ⟨d1, d2, d3, d4, r, d5, d6, d7, d8⟩, h6⟩ := h
  have m1 : ¬ ((0 : Int32) ≠ 0) := fun q => q rfl
  by_cases c : rg a1 7
  case neg =>
    refine zInv_self h0 (v := -1) ?_ ?_
    · rw [c_X10_body, s_w7, Option.bind_some]
      dsimp only
      rw [zb_f c, if_pos rfl]
    · show zcI sc zm_X11_body [.ref 51, .int a1] S = _
      rw [c_X11_body, m_w7, Option.bind_some]
      dsimp only
      rw [zb_f c, if_neg m1]
  obtain ⟨k, rfl, hk⟩ := rg_n c
  have hC : zcI sc zm_X10_body [.ref 0, .int (nI k)] S = (zcI sc zm_X9_add [.ref 35, .int (nI k)] S).bind (fun q2 => some (q2.1, q2.2)) := by
    rw [c_X10_body, s_w7, Option.bind_some]
    dsimp only
    rw [zb_t c, if_neg (by decide)]
  by_cases e : vs = 50
  · refine zInv_self h0 (v := -3) ?_ ?_
    · rw [hC, c_X9_add, d2, e, if_neg (by decide), Option.bind_some]
    · show zcI sc zm_X11_body [.ref 51, .int (nI k)] S = _
      rw [c_X11_body, m_w7, Option.bind_some]
      dsimp only
      rw [zb_t c, if_pos (by decide), d3, e, if_neg (by decide)]
  have ob : ¬ (nI vs < 0 ∨ 50 ≤ (nI vs).toNatClampNeg) := (by first | (rw [n_ob (by omega)]; omega) | (rw [n_obb (by omega)]; omega))
  have f : zfr (zk [36, 68] [(35, 2), (51, 34)]) S (zw1 (zw1 (zw1 (zw1 S 36 vs (nI k)) 35 2 (nI (vs + 1))) 68 vs (nI k)) 51 34 (nI (vs + 1))) := zfr_w (zfr_w (zfr_w (zfr_w0 36 _ _ rfl) 35 2 _ rfl) 68 _ _ rfl) 51 34 _ rfl
  have h6' : zSHs (vs + 1) S := zSHs_up h6
  refine ⟨nI (vs + 1) - 1, zw1 (zw1 S 36 vs (nI k)) 35 2 (nI (vs + 1)), zw1 (zw1 (zw1 (zw1 S 36 vs (nI k)) 35 2 (nI (vs + 1))) 68 vs (nI k)) 51 34 (nI (vs + 1)), ?_, ?_, n, P, cs, gap, cn, ver, vs + 1, by omega, zV1_cg h1 (fun c i h => by rcases h with rfl | rfl | rfl | rfl | rfl | rfl | rfl | rfl | rfl <;> exact f.1 _ i rfl) (f.1 51 6 rfl) (f.1 51 11 rfl) (f.1 51 18 rfl), zV2_cg h2 (f.1 3 2 rfl) (f.1 51 9 rfl) (fun i => f.1 4 i rfl) (fun i => f.1 57 i rfl), zV3_cg h3 (f.1 24 7 rfl) (f.1 51 29 rfl) (f.1 24 6 rfl) (f.1 51 30 rfl) (fun c i h => by rcases h with rfl | rfl | rfl | rfl | rfl | rfl <;> exact f.1 _ i rfl) (fun c i h => by rcases h with rfl | rfl | rfl | rfl <;> exact f.1 _ i rfl), zV4_cg h4 (f.1 30 5 rfl) (f.1 51 5 rfl) (f.1 30 6 rfl) (f.1 51 4 rfl) (fun c i h => by rcases h with rfl | rfl | rfl | rfl | rfl | rfl | rfl <;> exact f.1 _ i rfl), ⟨by omega, ?_, ?_, fun i hi => ?_, r, d5, (f.1 35 3 rfl).trans d6, (f.1 51 37 rfl).trans d7, fun i k1 k2 => ?_⟩, zSHs_cg h6' (fun c i h => by rcases h with rfl | rfl | rfl | rfl | rfl | rfl | rfl | rfl <;> exact f.1 _ i rfl) f.2⟩
  · rw [hC, c_X9_add, d2, if_pos (by rw [show (50 : Int32) = nI 50 from rfl, n_lt (by omega) (by omega)]; omega), if_neg ob, n_cl (by omega), n_s1, Option.bind_some]
  · show zcI sc zm_X11_body [.ref 51, .int (nI k)] (zw1 (zw1 S 36 vs (nI k)) 35 2 (nI (vs + 1))) = _
    have e34 : (zw1 (zw1 S 36 vs (nI k)) 35 2 (nI (vs + 1))).1 51 34 = nI vs := by rw [zw1_n _ _ (by omega), zw1_n _ _ (by omega), d3]
    rw [c_X11_body, m_w7, Option.bind_some]
    dsimp only
    rw [zb_t c, if_pos (by decide), e34, if_pos (by rw [show (50 : Int32) = nI 50 from rfl, n_ne (by omega) (by omega)]; exact e), if_neg ob, n_cl (by omega), n_s1]
  · rw [zw1_n _ _ (by omega), zw1_n _ _ (by omega), zw1_y]
  · rw [zw1_y]
  · by_cases q : i = vs
    · subst q
      refine ⟨k, by omega, ?_, ?_⟩
      · rw [zw1_n _ _ (by omega), zw1_n _ _ (by omega), zw1_n _ _ (by omega), zw1_y]
      · rw [zw1_n _ _ (by omega), zw1_y]
    · obtain ⟨k', g1, g2, g3⟩ := d4 i (by omega)
      refine ⟨k', g1, ?_, ?_⟩
      · rw [zw1_n _ _ (by omega), zw1_n _ _ (by omega), zw1_n _ _ (by omega), zw1_n _ _ (fun k => q k.2), g2]
      · rw [zw1_n _ _ (by omega), zw1_n _ _ (fun k => q k.2), zw1_n _ _ (by omega), zw1_n _ _ (by omega), g3]
  · rw [f.1 37 i rfl, f.1 69 i rfl]; exact d8 i k1 k2
theorem o_trace (sc : zSc) {t : Nat} {S : zS} (h : zInv t S) (a1 : Int32) : zOp t (zcI sc zm_X10_trace [.ref 0, .int a1] S) (fun S => zcI sc zm_X11_trace [.ref 51, .int a1] S) := by
  have h0 := h
  obtain ⟨n, P, cs, gap, cn, ver, vs, ht, h1, h2, h3, h4, ⟨d1, d2, d3, d4, r, d5, d6, d7, d8⟩, h6⟩ := h
  obtain ⟨m, hm, hr⟩ : ∃ m : Nat, ((if 24 < nI r then 24 else nI r) - 1 : Int32).toInt = (m : Int) - 1 ∧ ((m = 24 ∧ 24 < r) ∨ (m = r ∧ r ≤ 24)) := by
    by_cases q : 24 < r
    · refine ⟨24, ?_, Or.inl ⟨rfl, q⟩⟩
      rw [if_pos (by rw [show (24 : Int32) = nI 24 from rfl, n_lt (by omega) (by omega)]; exact q)]; rfl
    · refine ⟨r, ?_, Or.inr ⟨rfl, by omega⟩⟩
      rw [if_neg (by rw [show (24 : Int32) = nI 24 from rfl, n_lt (by omega) (by omega)]; exact q)]
      by_cases z : r = 0
      · rw [z]; rfl
      · obtain ⟨j, rfl⟩ : ∃ j, r = j + 1 := ⟨r - 1, by omega⟩
        rw [n_p1 (by omega), zi_nI (by omega)]; omega
  have hC : zcI sc zm_X10_trace [.ref 0, .int a1] S = (if 0 ≤ a1.toInt ∧ a1.toInt ≤ (m : Int) - 1 then (if a1 < 0 ∨ 24 ≤ a1.toNatClampNeg then none else some (S.1 37 a1.toNatClampNeg, S)) else some (-1, S)) := by
    rw [c_X10_trace, c_X9_ranAt, d6, s_within, Option.bind_some]
    dsimp only
    rw [hm, show (0 : Int32).toInt = 0 from rfl]
    by_cases q : 0 ≤ a1.toInt ∧ a1.toInt ≤ (m : Int) - 1
    · rw [zb_t q, if_neg (by decide), if_pos q]
      split <;> rfl
    · rw [zb_f q, if_pos rfl, if_neg q]; rfl
  by_cases c : 0 ≤ a1.toInt ∧ a1.toInt ≤ (m : Int) - 1
  · obtain ⟨j, hj, rfl⟩ := zi_of (x := a1) c.1
    rw [zi_nI hj] at c
    refine zInv_self h0 (v := S.1 37 j) ?_ ?_
    · rw [hC, zi_nI hj, if_pos c, if_neg (by first | (rw [n_ob (by omega)]; omega) | (rw [n_obb (by omega)]; omega)), n_cl (by omega)]
    · show zcI sc zm_X11_trace [.ref 51, .int (nI j)] S = _
      rw [c_X11_trace, d7, if_neg (by rw [n_lt0 (by omega)]; exact fun q => q), if_neg (by rw [n_le (by omega) (by omega)]; omega), if_neg (by rw [show (24 : Int32) = nI 24 from rfl, n_le (by omega) (by omega)]; omega), if_neg (by first | (rw [n_ob (by omega)]; omega) | (rw [n_obb (by omega)]; omega)), n_cl (by omega), d8 j (by omega) (by omega)]
  · refine zInv_self h0 (v := -1) ?_ ?_
    · rw [hC, if_neg c]
    · show zcI sc zm_X11_trace [.ref 51, .int a1] S = _
      rw [c_X11_trace, d7]
      by_cases g : a1 < 0
      · rw [if_pos g]
      · rw [if_neg g]
        have g0 : 0 ≤ a1.toInt := by
          have := mt Int32.lt_iff_toInt_lt.mpr g
          rw [show (0 : Int32).toInt = 0 from rfl] at this
          omega
        obtain ⟨j, hj, rfl⟩ := zi_of (x := a1) g0
        rw [zi_nI hj] at c
        by_cases g2 : r ≤ j
        · rw [if_pos (by rw [n_le (by omega) (by omega)]; exact g2)]
        · rw [if_neg (by rw [n_le (by omega) (by omega)]; exact g2), if_pos (by rw [show (24 : Int32) = nI 24 from rfl, n_le (by omega) (by omega)]; omega)]
