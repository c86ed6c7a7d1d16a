theorem q_called (sc : zSc) {n : Nat} {P : Nat → Nat → Nat} {cs : List Int32} {gap ver : Nat} {S : zS} (hC : zCE n P cs gap ver S) (hM : zME n P cs gap none S) (a1 a2 a3 : Int32) :
    zQ n P cs gap ver (zcI sc zm_X10_called [.ref 0, .int a1, .int a2, .int a3] S) (fun S => zcI sc zm_X11_called [.ref 51, .int a1, .int a2, .int a3] S) S := by
  have hn := hC.1.2.1
  have hr := hC.2.1
  by_cases h1 : tok a1
  case neg =>
    refine ⟨-1, S, S, ?_, ?_, hC, zfr_refl _ _, zfr_refl _ _⟩
    · rw [c_X10_called]; rw [s_isLW, Option.bind_some]; (try dsimp only); rw [zb_f h1]; exact if_pos rfl
    · show zcI sc zm_X11_called [.ref 51, .int a1, .int a2, .int a3] S = _
      rw [c_X11_called]; rw [m_isTw, Option.bind_some]; (try dsimp only); rw [zb_f h1]; exact if_pos rfl
  by_cases h2 : rg a2 255
  case neg =>
    refine ⟨-1, S, S, ?_, ?_, hC, zfr_refl _ _, zfr_refl _ _⟩
    · rw [c_X10_called]; rw [s_isLW, Option.bind_some]; (try dsimp only); rw [zb_t h1]; rw [if_neg (show ¬ ((1 : Int32) = 0) by decide)]; rw [s_isBits, Option.bind_some]; (try dsimp only); rw [zb_f h2]; exact if_pos rfl
    · show zcI sc zm_X11_called [.ref 51, .int a1, .int a2, .int a3] S = _
      rw [c_X11_called]; rw [m_isTw, Option.bind_some]; (try dsimp only); rw [zb_t h1]; rw [if_neg (show ¬ ((1 : Int32) = 0) by decide)]; rw [m_isSet', Option.bind_some]; (try dsimp only); rw [zb_f h2]; exact if_pos rfl
  by_cases h3 : rg a3 4
  case neg =>
    refine ⟨-1, S, S, ?_, ?_, hC, zfr_refl _ _, zfr_refl _ _⟩
    · rw [c_X10_called]; rw [s_isLW, Option.bind_some]; (try dsimp only); rw [zb_t h1]; rw [if_neg (show ¬ ((1 : Int32) = 0) by decide)]; rw [s_isBits, Option.bind_some]; (try dsimp only); rw [zb_t h2]; rw [if_neg (show ¬ ((1 : Int32) = 0) by decide)]; rw [s_w4, Option.bind_some]; (try dsimp only); rw [zb_f h3]; exact if_neg (fun q => q rfl)
    · show zcI sc zm_X11_called [.ref 51, .int a1, .int a2, .int a3] S = _
      rw [c_X11_called]; rw [m_isTw, Option.bind_some]; (try dsimp only); rw [zb_t h1]; rw [if_neg (show ¬ ((1 : Int32) = 0) by decide)]; rw [m_isSet', Option.bind_some]; (try dsimp only); rw [zb_t h2]; rw [if_neg (show ¬ ((1 : Int32) = 0) by decide)]; rw [m_w4, Option.bind_some]; (try dsimp only); rw [zb_f h3]; exact if_neg (fun q => q rfl)
  obtain ⟨t, rfl, ht1, ht2, e1, e2⟩ := tok_n h1
  obtain ⟨lk, rfl, hlk⟩ := rg_n h2
  have hg := kcm_good (P := P) (cs := cs) (gap := gap) (o := none) (l := t / 10) (way := t % 10) (lk := lk) hn
  obtain ⟨S1, b1, b2, b3, b4, b5⟩ := c_byWay sc hC ht1 ht2 (lk := lk) (by omega)
  obtain ⟨S2, d1, d2, d3, d4⟩ := m_run sc (zME_C hM b5) hr ht1 ht2 (lk := lk) (by omega)
  sorry
