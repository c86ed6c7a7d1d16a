theorem o_called (sc : zSc) {t : Nat} {S : zS} (h : zInv t S) (a1 a2 a3 : Int32) : zOp t (zcI sc zm_X10_called [.ref 0, .int a1, .int a2, .int a3] S) (fun S => zcI sc zm_X11_called [.ref 51, .int a1, .int a2, .int a3] S) := by
  obtain ⟨n, P, cs, gap, cn, ver, vs, ht, h1, h2, h3, h4, h5, h6⟩ := h
  exact zOp_q ht h1 h2 h3 h4 h5 h6 (q_called sc h1.1 h1.2.1 a1 a2 a3)
theorem o_answers (sc : zSc) {t : Nat} {S : zS} (h : zInv t S) (a1 a2 a3 : Int32) : zOp t (zcI sc zm_X10_answers [.ref 0, .int a1, .int a2, .int a3] S) (fun S => zcI sc zm_X11_answers [.ref 51, .int a1, .int a2, .int a3] S) := by
  obtain ⟨n, P, cs, gap, cn, ver, vs, ht, h1, h2, h3, h4, h5, h6⟩ := h
  exact zOp_q ht h1 h2 h3 h4 h5 h6 (q_answers sc h1.1 h1.2.1 a1 a2 a3)
theorem o_bestWay (sc : zSc) {t : Nat} {S : zS} (h : zInv t S) (a1 a2 : Int32) : zOp t (zcI sc zm_X10_bestWay [.ref 0, .int a1, .int a2] S) (fun S => zcI sc zm_X11_bestWay [.ref 51, .int a1, .int a2] S) := by
  obtain ⟨n, P, cs, gap, cn, ver, vs, ht, h1, h2, h3, h4, h5, h6⟩ := h
  exact zOp_q ht h1 h2 h3 h4 h5 h6 (q_bestWay sc h1.1 h1.2.1 a1 a2)
theorem o_heads (sc : zSc) {t : Nat} {S : zS} (h : zInv t S) (a1 a2 : Int32) : zOp t (zcI sc zm_X10_heads [.ref 0, .int a1, .int a2] S) (fun S => zcI sc zm_X11_heads [.ref 51, .int a1, .int a2] S) := by
  obtain ⟨n, P, cs, gap, cn, ver, vs, ht, h1, h2, h3, h4, h5, h6⟩ := h
  exact zOp_q ht h1 h2 h3 h4 h5 h6 (q_heads sc h1.1 h1.2.1 a1 a2)
theorem o_order (sc : zSc) {t : Nat} {S : zS} (h : zInv t S) (a1 a2 : Int32) : zOp t (zcI sc zm_X10_order [.ref 0, .int a1, .int a2] S) (fun S => zcI sc zm_X11_order [.ref 51, .int a1, .int a2] S) := by
  obtain ⟨n, P, cs, gap, cn, ver, vs, ht, h1, h2, h3, h4, h5, h6⟩ := h
  exact zOp_q ht h1 h2 h3 h4 h5 h6 (q_order sc h1.1 h1.2.1 a1 a2)
theorem o_fire (sc : zSc) {t : Nat} {S : zS} (h : zInv t S) (a1 a2 : Int32) : zOp t (zcI sc zm_X10_fire [.ref 0, .int a1, .int a2] S) (fun S => zcI sc zm_X11_fire [.ref 51, .int a1, .int a2] S) := by
  obtain ⟨n, P, cs, gap, cn, ver, vs, ht, h1, h2, h3, h4, h5, h6⟩ := h
  exact zOp_q ht h1 h2 h3 h4 h5 h6 (q_fire sc h1.1 h1.2.1 a1 a2)
theorem o_day (sc : zSc) {t : Nat} {S : zS} (h : zInv t S) (a1 a2 a3 : Int32) : zOp t (zcI sc zm_X10_day [.ref 0, .int a1, .int a2, .int a3] S) (fun S => zcI sc zm_X11_day [.ref 51, .int a1, .int a2, .int a3] S) := by
  obtain ⟨n, P, cs, gap, cn, ver, vs, ht, h1, h2, h3, h4, h5, h6⟩ := h
  exact zOp_q ht h1 h2 h3 h4 h5 h6 (q_day sc h1.1 h1.2.1 (h1.2.2.1.trans h1.2.2.2.1.symm) a1 a2 a3)
theorem o_next (sc : zSc) {t : Nat} {S : zS} (h : zInv t S) (a1 a2 a3 : Int32) : zOp t (zcI sc zm_X10_next [.ref 0, .int a1, .int a2, .int a3] S) (fun S => zcI sc zm_X11_next [.ref 51, .int a1, .int a2, .int a3] S) := by
  obtain ⟨n, P, cs, gap, cn, ver, vs, ht, h1, h2, h3, h4, h5, h6⟩ := h
  exact zOp_q ht h1 h2 h3 h4 h5 h6 (q_next sc h1.1 h1.2.1 a1 a2 a3)
theorem o_enough (sc : zSc) {t : Nat} {S : zS} (h : zInv t S) (a1 a2 : Int32) : zOp t (zcI sc zm_X10_enough [.ref 0, .int a1, .int a2] S) (fun S => zcI sc zm_X11_enough [.ref 51, .int a1, .int a2] S) := by
  obtain ⟨n, P, cs, gap, cn, ver, vs, ht, h1, h2, h3, h4, h5, h6⟩ := h
  exact zOp_q ht h1 h2 h3 h4 h5 h6 (q_enough sc h1.1 h1.2.1 a1 a2)
theorem o_inTime (sc : zSc) {t : Nat} {S : zS} (h : zInv t S) (a1 a2 : Int32) : zOp t (zcI sc zm_X10_inTime [.ref 0, .int a1, .int a2] S) (fun S => zcI sc zm_X11_inTime [.ref 51, .int a1, .int a2] S) := by
  obtain ⟨n, P, cs, gap, cn, ver, vs, ht, h1, h2, h3, h4, h5, h6⟩ := h
  exact zOp_q ht h1 h2 h3 h4 h5 h6 (q_inTime sc h1.1 h1.2.1 a1 a2)
theorem o_absent (sc : zSc) {t : Nat} {S : zS} (h : zInv t S) (a1 a2 a3 : Int32) : zOp t (zcI sc zm_X10_absent [.ref 0, .int a1, .int a2, .int a3] S) (fun S => zcI sc zm_X11_absent [.ref 51, .int a1, .int a2, .int a3] S) := by
  obtain ⟨n, P, cs, gap, cn, ver, vs, ht, h1, h2, h3, h4, h5, h6⟩ := h
  exact zOp_q ht h1 h2 h3 h4 h5 h6 (q_absent sc h1.1 h1.2.1 a1 a2 a3)
theorem o_drawn (sc : zSc) {t : Nat} {S : zS} (h : zInv t S) (a1 a2 a3 a4 : Int32) : zOp t (zcI sc zm_X10_drawn [.ref 0, .int a1, .int a2, .int a3, .int a4] S) (fun S => zcI sc zm_X11_drawn [.ref 51, .int a1, .int a2, .int a3, .int a4] S) := by
  obtain ⟨n, P, cs, gap, cn, ver, vs, ht, h1, h2, h3, h4, h5, h6⟩ := h
  exact zOp_q ht h1 h2 h3 h4 h5 h6 (q_drawn sc h1.1 h1.2.1 a1 a2 a3 a4)
theorem o_ask (sc : zSc) {t : Nat} {S : zS} (h : zInv t S) (a1 a2 : Int32) : zOp t (zcI sc zm_X10_ask [.ref 0, .int a1, .int a2] S) (fun S => zcI sc zm_X11_ask [.ref 51, .int a1, .int a2] S) := by
  obtain ⟨n, P, cs, gap, cn, ver, vs, ht, h1, h2, h3, h4, h5, h6⟩ := h
  exact zOp_q ht h1 h2 h3 h4 h5 h6 (q_ask sc h1.1 h1.2.1 a1 a2)
theorem o_partners (sc : zSc) {t : Nat} {S : zS} (h : zInv t S) (a1 a2 : Int32) : zOp t (zcI sc zm_X10_partners [.ref 0, .int a1, .int a2] S) (fun S => zcI sc zm_X11_partners [.ref 51, .int a1, .int a2] S) := by
  obtain ⟨n, P, cs, gap, cn, ver, vs, ht, h1, h2, h3, h4, h5, h6⟩ := h
  exact zOp_q ht h1 h2 h3 h4 h5 h6 (q_partners sc h1.1 h1.2.1 a1 a2)
theorem o_judge (sc : zSc) {t : Nat} {S : zS} (h : zInv t S) (a1 a2 : Int32) : zOp t (zcI sc zm_X10_judge [.ref 0, .int a1, .int a2] S) (fun S => zcI sc zm_X11_judge [.ref 51, .int a1, .int a2] S) := by
  obtain ⟨n, P, cs, gap, cn, ver, vs, ht, h1, h2, h3, h4, h5, h6⟩ := h
  exact zOp_q ht h1 h2 h3 h4 h5 h6 (q_judge sc h1.1 h1.2.1 h6 h5.1 a1 a2)
theorem o_who (sc : zSc) {t : Nat} {S : zS} (h : zInv t S) (a1 a2 : Int32) : zOp t (zcI sc zm_X10_who [.ref 0, .int a1, .int a2] S) (fun S => zcI sc zm_X11_who [.ref 51, .int a1, .int a2] S) := by
  obtain ⟨n, P, cs, gap, cn, ver, vs, ht, h1, h2, h3, h4, h5, h6⟩ := h
  exact zOp_q ht h1 h2 h3 h4 h5 h6 (q_who sc h1.1 h1.2.1 h6 h5.1 a1 a2)
theorem o_howBold (sc : zSc) {t : Nat} {S : zS} (h : zInv t S) (a1 a2 a3 : Int32) : zOp t (zcI sc zm_X10_howBold [.ref 0, .int a1, .int a2, .int a3] S) (fun S => zcI sc zm_X11_howBold [.ref 51, .int a1, .int a2, .int a3] S) := by
  obtain ⟨n, P, cs, gap, cn, ver, vs, ht, h1, h2, h3, h4, h5, h6⟩ := h
  exact zOp_q ht h1 h2 h3 h4 h5 h6 (q_howBold sc h1.1 h1.2.1 h6 h5.1 a1 a2 a3)
theorem o_forWhom (sc : zSc) {t : Nat} {S : zS} (h : zInv t S) (a1 a2 a3 a4 : Int32) : zOp t (zcI sc zm_X10_forWhom [.ref 0, .int a1, .int a2, .int a3, .int a4] S) (fun S => zcI sc zm_X11_forWhom [.ref 51, .int a1, .int a2, .int a3, .int a4] S) := by
  obtain ⟨n, P, cs, gap, cn, ver, vs, ht, h1, h2, h3, h4, h5, h6⟩ := h
  exact zOp_q ht h1 h2 h3 h4 h5 h6 (q_forWhom sc h1.1 h1.2.1 h6 h5.1 a1 a2 a3 a4)
