/-! ===== the start, and the law's end ===== -/
theorem zInv0 {S : zS} {f : Nat → Nat → Bool} (h : zchk S f = true) : zInv 0 S := by
  have g : ∀ c i v, (c, i, v) ∈ zini → S.1 c i = v := fun c i v m => zchk_int h m
  have g2 : ∀ d c i v, d < 6 → (c, i, v) ∈ zini2 d → S.1 c i = v := fun d c i v hd m => zchk_int2 h hd m
  have e67 : S.1 6 7 = -1 := g 6 7 (-1) (by decide)
  have e12 : S.1 1 2 = 0 := g 1 2 0 (by decide)
  have z25 : ∀ p, p < 8 → S.1 25 p = 0 := fun p hp => zchk_zero h (c := 25) (n := 8) (by decide) hp
  have z56 : ∀ p, p < 8 → S.1 56 p = 0 := fun p hp => zchk_zero h (c := 56) (n := 8) (by decide) hp
  have z26 : ∀ p, p < 5 → S.1 26 p = 0 := fun p hp => zchk_zero h (c := 26) (n := 5) (by decide) hp
  have z64 : ∀ p, p < 5 → S.1 64 p = 0 := fun p hp => zchk_zero h (c := 64) (n := 5) (by decide) hp
  have z2 : ∀ p, p < 64 → S.1 2 p = 0 := fun p hp => zchk_zero h (c := 2) (n := 64) (by decide) hp
  refine ⟨0, fun _ _ => 0, [], 30, 4, 0, 0, Nat.le_refl _, ⟨⟨⟨g 1 1 0 (by decide), by omega, fun p w hp _ => absurd hp (by omega)⟩, fun p hp => absurd hp (by omega), g 2 64 30 (by decide), ⟨g 6 2 0 (by decide), by show 0 ≤ 121; omega, trivial, trivial⟩, fun e => ?_, e12, by omega, Or.inl e67⟩, ⟨⟨g 51 6 0 (by decide), by omega, fun p w hp _ => absurd hp (by omega)⟩, g 52 64 30 (by decide), Or.inl ⟨g 51 11 (-1) (by decide), rfl⟩, Or.inl ⟨rfl, g 51 18 (-1) (by decide)⟩⟩, g 2 65 4 (by decide), g 52 65 4 (by decide), by omega, by omega, fun p w _ hp hw => z2 _ (by omega)⟩,
    ⟨0, fun _ => 0, by omega, g 3 2 0 (by decide), g 51 9 0 (by decide), fun i hi => absurd hi (by omega)⟩,
    ⟨fun p hp => (z25 p hp).trans (z56 p hp).symm, fun k hk => (z26 k hk).trans (z64 k hk).symm, fun p _ hp => z25 p hp, Or.inl ⟨g 24 7 0 (by decide), g 51 29 0 (by decide)⟩⟩,
    ⟨0, 0, by omega, by omega, g 30 5 0 (by decide), g 51 5 0 (by decide), g 30 6 0 (by decide), g 51 4 0 (by decide), fun i hi => absurd hi (by omega)⟩,
    ⟨by omega, g 35 2 0 (by decide), g 51 34 0 (by decide), fun i hi => absurd hi (by omega), 0, by omega, g 35 3 0 (by decide), g 51 37 0 (by decide), fun i _ hi => absurd hi (by omega)⟩, zSHs_of (fun d hd => ?_)⟩
  · rw [e67, e12] at e
    exact absurd e (by decide)
  · have m1 : (39 + 2 * d, 1, (-1 : Int32)) ∈ zini2 d := by simp [zini2]
    have m2 : (39 + 2 * d, 2, (0 : Int32)) ∈ zini2 d := by simp [zini2]
    have m3 : (39 + 2 * d, 3, (-1 : Int32)) ∈ zini2 d := by simp [zini2]
    have m4 : (70, d, (-1 : Int32)) ∈ zini2 d := by simp [zini2]
    have m5 : (71, d, (0 : Int32)) ∈ zini2 d := by simp [zini2]
    exact ⟨(g2 d _ _ _ hd m5).trans (g2 d _ _ _ hd m2).symm, fun i hi => (zchk_long h hd hi).1.trans (zchk_long h hd hi).2.symm, Or.inl ⟨g2 d _ _ _ hd m1, g2 d _ _ _ hd m2, g2 d _ _ _ hd m3, g2 d _ _ _ hd m4⟩⟩
theorem zlaw_run (sc : zSc) (hL : sc.2 ≤ 3072) {T : zS} {f : Nat → Nat → Bool} (hc : zchk T f = true) : ∃ (n : Nat) (r : zR), zrun sc n (zg1, (zm_L_law, 200), 18, T, [some (.ref 1010), some (.ref 0), some (.ref 51), some (.int (0 : Int32))], []) = some r ∧ r.1 = some (.int 1) ∧ r.2.1.1 = 74 := by
  obtain ⟨S', h⟩ := law_go sc hL 513 0 T rfl (zInv0 hc)
  unfold zO at h
  obtain ⟨r, hr, hg⟩ := Option.bind_eq_some_iff.mp h
  obtain ⟨n, hn⟩ := zOut_iff.mp hr
  have hm := zrun_mono n hn (Nat.le_refl _)
  have hz : r.2.1 = zg1 := hm.2.2 rfl
  refine ⟨n, r, hn, ?_, by rw [hz]⟩
  unfold zgI at hg
  split at hg
  · rename_i v hv
    rw [hv]
    injection hg with hg
    injection hg with h1 h2
    rw [h1]
  · cases hg
theorem zlaw_go {l : Launch} {D : va_G} {ty : Nat → ClassId} (sc : zSc) (hL : sc.2 ≤ 3072) : ∃ r : zR, r.1 = some (.int 1) ∧ r.2.1.1 = 74 ∧ zGo l D ty sc ((0, fun _ _ => false), (zm_L_law, 200), 0, (fun _ _ => 0, fun _ _ => 0), [some (.ref 1010), none, none, none], []) r := by
  obtain ⟨n, r, hn, h1, h2⟩ := zlaw_run sc hL zB_eq.2
  exact ⟨r, h1, h2, zlaw_back sc h2 (zsound zF_all n hn (Nat.le_refl _))⟩
