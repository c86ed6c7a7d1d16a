theorem zlaw_ok (sc : zSc) (h : sc.2 ≤ 3072) : ∃ r : zR, zOut sc (((0, fun _ _ => false), (zm_L_law, 200), 0, (fun _ _ => 0, fun _ _ => 0), [some (.ref 1010), none, none, none], [])) = some r ∧ r.1 = some (.int 1) := by
  sorry
