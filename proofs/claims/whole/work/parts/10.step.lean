/-! ===== one step ===== -/
theorem zagr.refl (n : Nat) (ad : Nat → Nat) : zagr n ad ad := ⟨fun _ _ => rfl, fun _ => rfl⟩
theorem zput_int {g : zG} {ML : Nat × Nat} {pc : Nat} {S : zS} {lv : List (Option Value)} {a b : Nat} {x : Int32} {c : Nat} {r : List Value} {y : zX} (h : zput g ML pc S lv a b (.int x :: .ref c :: r) = some (.inl y)) :
    c < g.1 ∧ zK c = 0 ∧ zC c = b ∧ a < zNf b ∧ zF c a = none ∧ (zB b a = true → x = 0 ∨ x = 1) ∧ y = (g, ML, pc, zw1 S c a x, lv, r) := by
  unfold zput at h
  dsimp only at h
  obtain ⟨h1, h2⟩ := zcond h
  simp only [Bool.and_eq_true, Nat.blt_eq, Nat.beq_eq, Option.isNone_iff_eq_none, Bool.or_eq_true, Bool.not_eq_true', decide_eq_true_eq] at h1
  obtain ⟨⟨⟨⟨⟨h3, h4⟩, h5⟩, h6⟩, h7⟩, h8⟩ := h1
  cases h2
  refine ⟨h3, h4, h5, h6, h7, fun hB => ?_, rfl⟩
  rcases h8 with h8 | h8
  · rw [hB] at h8; cases h8
  · exact h8
theorem zput_ref {g : zG} {ML : Nat × Nat} {pc : Nat} {S : zS} {lv : List (Option Value)} {a b : Nat} {t : Nat} {c : Nat} {r : List Value} {y : zX} (h : zput g ML pc S lv a b (.ref t :: .ref c :: r) = some (.inl y)) :
    c < g.1 ∧ zK c = 0 ∧ zC c = b ∧ a < zNf b ∧ zF c a = some t ∧ t < g.1 ∧ zsd g = false ∧ y = ((g.1, zwf g.2 c a), ML, pc, S, lv, r) := by
  unfold zput at h
  dsimp only at h
  obtain ⟨h1, h2⟩ := zcond h
  simp only [Bool.and_eq_true, Nat.blt_eq, Nat.beq_eq, Bool.not_eq_true'] at h1
  obtain ⟨⟨⟨⟨⟨⟨h3, h4⟩, h5⟩, h6⟩, h7⟩, h8⟩, h9⟩ := h1
  cases h2
  refine ⟨h3, h4, h5, h6, ?_, h8, h9, rfl⟩
  cases hF : zF c a with
  | none => rw [hF] at h7; cases h7
  | some u => rw [hF] at h7; dsimp only at h7; rw [Nat.beq_eq] at h7; rw [h7]
theorem zput_shape {g : zG} {ML : Nat × Nat} {pc : Nat} {S : zS} {lv : List (Option Value)} {a b : Nat} {st : List Value} {y : zX} (h : zput g ML pc S lv a b st = some (.inl y)) :
    (∃ x c r, st = .int x :: .ref c :: r) ∨ (∃ t c r, st = .ref t :: .ref c :: r) := by
  unfold zput at h
  split at h
  · exact Or.inl ⟨_, _, _, rfl⟩
  · exact Or.inr ⟨_, _, _, rfl⟩
  · cases h
theorem zsum_cat (ad : Nat → Nat) (st : List Value) : ((st.map (zc ad)).map fun v => v.category).sum = zsum st := by
  induction st with
  | nil => rfl
  | cons v r ih =>
    rw [List.map_cons, List.map_cons, List.sum_cons, ih, zsum, zc_cat]
    congr 1
theorem zk1000 (c : Nat) (h1 : 999 < c) (h2 : c < 1004) : ∃ t, t < 4 ∧ c = 1000 + t := ⟨c - 1000, by omega, by omega⟩
theorem zcall_inl {g : zG} {ML : Nat × Nat} {pc : Nat} {S : zS} {lv : List (Option Value)} {a : Nat} {as rs : List Value} {y : zX} (h : zcall g ML pc S lv a as rs = some (.inl y)) : False := by
  unfold zcall at h
  obtain ⟨-, h⟩ := zcond h
  cases h
/-- behind a cell that is made -/
theorem zafter {l : Launch} {D : va_G} {ty : Nat → ClassId} {sc : zSc} {g : zG} {M L pc : Nat} {S : zS} {lv : List (Option Value)} {st : List Value} {r : zR} {p : Program} {e : Env} {R : Room} {s : State} {m : MethodId} {args : Array Value} {below : List Frame} {meth : Method} {c : Code} {Q : State → Prop} {A : Nat → Prop} {ad : Nat → Nat} {H1 : Heap} {locs : List Loc} {ls : Array Slot} {cells slots q : Nat}
    (hy : zGo l D ty sc ((g.1 + 1, zfn g), (M, L), pc, zw0 S g.1, lv, .ref g.1 :: st) r) (hm : g.1 + 1 ≤ r.2.1.1) (hr : r.2.1.1 ≤ 74) (g1 : g.1 < zNC) (g4 : lv.all (zrefoko g.1) = true) (g5 : st.all (zrefok g.1) = true)
    (C : zfix p s m args meth c A M D ty ad sc) (hl : zlh ad (zml M) lv ls) (hone : zone (zpn M) lv) (hR1 : L ≤ R.frames) (hR2 : L * 60 ≤ R.locals) (hc : cells + (r.2.1.1 - g.1) ≤ R.cells) (hs : slots + (zSl r.2.1.1 - zSl g.1) ≤ R.slots)
    (hend : ∀ (ad' : Nat → Nat) (H' : Heap) (locs' : List Loc) (ls' : Array Slot) (pc' : Nat), zagr g.1 ad ad' → zpic D ty ad' A r.2.1 r.2.2 H' → va_S A s.heap H' locs' → zend M pc' r.1 → W p l e R s m args below meth c H' locs' (cells + (r.2.1.1 - g.1)) (slots + (zSl r.2.1.1 - zSl g.1)) Q (F0 m pc' ls' r.1.toList))
    (q1 : zpic D ty (zad ad g.1 q) A (g.1 + 1, zfn g) (zw0 S g.1) H1) (q2 : va_S A s.heap H1 locs) : W p l e R s m args below meth c H1 locs (cells + 1) (slots + zN g.1) Q (F0 m pc ls (.ref q :: st.map (zc ad))) := by
  have hz1 := zSl_mono (c := r.2.1.1) (d := g.1 + 1) hm hr
  have hz2 := zt_sl g.1 g1
  have hag : ∀ k : Nat, k < g.1 ∨ 999 < k → zad ad g.1 q k = ad k := fun k hk => zad_ne (by have : g.1 < 74 := g1; omega)
  have hst : st.map (zc (zad ad g.1 q)) = st.map (zc ad) := zc_oks g5 hag
  have hlv := zlh_ad hl (zc_oko g4 hag)
  have hgo := hy p e R s m args below meth c Q A (zad ad g.1 q) H1 locs ls (cells + 1) (slots + zN g.1) (C.ad' (fun k hk => hag k (Or.inr hk))) q1 q2 hlv hone hR1 hR2 (by dsimp only; omega) (by dsimp only; omega) (fun ad' H' locs' ls' pc' a1 a2 a3 a4 => by
    have hk := hend ad' H' locs' ls' pc' ⟨fun k hk => by rw [a1.1 k (by rcases hk with hk | hk; exact Or.inl (Nat.lt_succ_of_lt hk); exact Or.inr hk)]; exact hag k hk, fun hn => absurd hn (Nat.ne_of_lt g1)⟩ a2 a3 a4
    dsimp only
    rw [show cells + 1 + (r.2.1.1 - (g.1 + 1)) = cells + (r.2.1.1 - g.1) by omega, show slots + zN g.1 + (zSl r.2.1.1 - zSl (g.1 + 1)) = slots + (zSl r.2.1.1 - zSl g.1) by omega]
    exact hk)
  dsimp only at hgo
  rw [List.map_cons, hst, show zc (zad ad g.1 q) (.ref g.1) = .ref q by simp [zc, zad_at]] at hgo
  exact hgo
/-- what a frame is given at its start stays, and what it is to come to -/
theorem zstep (F : zfacts) {l : Launch} {D : va_G} {ty : Nat → ClassId} {sc : zSc} {x y : zX} {r : zR} (h : zdec sc x = some (.inl y)) (hy : zGo l D ty sc y r) (hm : y.1.1 ≤ r.2.1.1) (hr : r.2.1.1 ≤ 74) : zGo l D ty sc x r := by
  obtain ⟨g, ⟨M, L⟩, pc, S, lv, st⟩ := x
  intro p e R s m args below meth c Q A ad H locs ls cells slots C P hS hl hone hR1 hR2 hc hs hend
  unfold zdec at h
  dsimp only at h C P hl hone hR1 hR2 hc hs hend ⊢
  split at h
  · cases h
  rename_i pc0 ins len a b v hf
  obtain ⟨hmem, hpc⟩ := zfetch_mem hf
  dsimp only at hpc
  subst hpc
  obtain ⟨hd, ho⟩ := F.1 M _ ins len a b v hmem
  rw [zexf_eq] at h
  unfold zexe at h
  split at h
  -- loads
  · split at h <;> cases h
    rename_i hz
    obtain ⟨w, hw, hk, rfl⟩ := zldk_ok hz
    obtain ⟨x, rfl⟩ := zis0 hk
    obtain rfl := ho
    exact lv_iload C.1 C.2.1 hd (hl.2.2.2 _ _ hw) (hy _ _ _ _ _ _ _ _ _ _ _ ad _ _ _ _ _ C P hS hl hone hR1 hR2 hc hs hend)
  · split at h <;> cases h
    rename_i hz
    obtain ⟨w, hw, hk, rfl⟩ := zldk_ok hz
    obtain ⟨x, rfl⟩ := zis0 hk
    obtain rfl := ho
    exact lv_iload_n C.1 C.2.1 hd rfl (hl.2.2.2 _ _ hw) (hy _ _ _ _ _ _ _ _ _ _ _ ad _ _ _ _ _ C P hS hl hone hR1 hR2 hc hs hend)
  · split at h <;> cases h
    rename_i hz
    obtain ⟨w, hw, hk, rfl⟩ := zldk_ok hz
    obtain ⟨x, rfl⟩ := zis1 hk
    obtain rfl := ho
    exact lv_lload C.1 C.2.1 hd (hl.2.2.2 _ _ hw) (hy _ _ _ _ _ _ _ _ _ _ _ ad _ _ _ _ _ C P hS hl hone hR1 hR2 hc hs hend)
  · split at h <;> cases h
    rename_i hz
    obtain ⟨w, hw, hk, rfl⟩ := zldk_ok hz
    obtain ⟨x, rfl⟩ := zis1 hk
    obtain rfl := ho
    exact lv_lload_n C.1 C.2.1 hd rfl (hl.2.2.2 _ _ hw) (hy _ _ _ _ _ _ _ _ _ _ _ ad _ _ _ _ _ C P hS hl hone hR1 hR2 hc hs hend)
  · split at h <;> cases h
    rename_i hz
    obtain ⟨w, hw, hk, rfl⟩ := zldk_ok hz
    obtain ⟨x, rfl⟩ := zis2 hk
    obtain rfl := ho
    exact lv_aload C.1 C.2.1 hd (hl.2.2.2 _ _ hw) (hy _ _ _ _ _ _ _ _ _ _ _ ad _ _ _ _ _ C P hS hl hone hR1 hR2 hc hs hend)
  · split at h <;> cases h
    rename_i hz
    obtain ⟨w, hw, hk, rfl⟩ := zldk_ok hz
    obtain ⟨x, rfl⟩ := zis2 hk
    obtain rfl := ho
    exact lv_aload_n C.1 C.2.1 hd rfl (hl.2.2.2 _ _ hw) (hy _ _ _ _ _ _ _ _ _ _ _ ad _ _ _ _ _ C P hS hl hone hR1 hR2 hc hs hend)
  -- stores
  · split at h
    · obtain ⟨h1, h2, h3⟩ := zbb h
      cases h3
      rw [Nat.blt_eq] at h2
      obtain rfl := ho
      exact lv_istore C.1 C.2.1 hd (zl_has hl) h2 rfl (fun ls' hl' => hy _ _ _ _ _ _ _ _ _ _ _ ad _ _ _ _ _ C P hS (zl_store hl h2 hone h1 hl') (zone_set hone rfl) hR1 hR2 hc hs hend)
    · cases h
  · split at h
    · obtain ⟨h1, h2, h3⟩ := zbb h
      cases h3
      rw [Nat.blt_eq] at h2
      obtain rfl := ho
      exact lv_istore_n C.1 C.2.1 hd rfl (zl_has hl) h2 rfl (fun ls' hl' => hy _ _ _ _ _ _ _ _ _ _ _ ad _ _ _ _ _ C P hS (zl_store hl h2 hone h1 hl') (zone_set hone rfl) hR1 hR2 hc hs hend)
    · cases h
  · split at h
    · obtain ⟨h1, h2, h3⟩ := zbb h
      cases h3
      rw [Nat.blt_eq] at h2
      obtain rfl := ho
      exact lv_astore C.1 C.2.1 hd (zl_has hl) h2 rfl (fun ls' hl' => hy _ _ _ _ _ _ _ _ _ _ _ ad _ _ _ _ _ C P hS (zl_store hl h2 hone h1 hl') (zone_set hone rfl) hR1 hR2 hc hs hend)
    · cases h
  · split at h
    · obtain ⟨h1, h2, h3⟩ := zbb h
      cases h3
      rw [Nat.blt_eq] at h2
      obtain rfl := ho
      exact lv_astore_n C.1 C.2.1 hd rfl (zl_has hl) h2 rfl (fun ls' hl' => hy _ _ _ _ _ _ _ _ _ _ _ ad _ _ _ _ _ C P hS (zl_store hl h2 hone h1 hl') (zone_set hone rfl) hR1 hR2 hc hs hend)
    · cases h
  -- iinc
  · split at h
    · rename_i hw
      obtain ⟨h1, h2, h3⟩ := zbb h
      cases h3
      rw [Nat.blt_eq] at h2
      obtain ⟨rfl, hv⟩ := ho
      obtain ⟨j, hj⟩ := List.getElem?_of_mem (zl_mem (ad := ad) (lv := lv) (q := (_, _)) |>.mpr ⟨_, hw, rfl⟩)
      exact lv_iinc C.1 C.2.1 hd (zl_has hl) (k := j) hj (by rw [hv]) h2 rfl (fun ls' hl' => hy _ _ _ _ _ _ _ _ _ _ _ ad _ _ _ _ _ C P hS (zl_store hl h2 hone h1 hl') (zone_set hone rfl) hR1 hR2 hc hs hend)
    · cases h
  -- goto
  · cases h
    obtain ⟨rfl, ht⟩ := ho
    exact lv_goto C.1 C.2.1 hd ht (hy _ _ _ _ _ _ _ _ _ _ _ ad _ _ _ _ _ C P hS hl hone hR1 hR2 hc hs hend)
  -- branches
  · split at h <;> cases h
    exact zo_if C hd ho rfl (fun q => by dsimp only at q; rw [if_pos q] at hy; exact hy _ _ _ _ _ _ _ _ _ _ _ ad _ _ _ _ _ C P hS hl hone hR1 hR2 hc hs hend) (fun q => by dsimp only at q; rw [if_neg q] at hy; exact hy _ _ _ _ _ _ _ _ _ _ _ ad _ _ _ _ _ C P hS hl hone hR1 hR2 hc hs hend)
  · split at h <;> cases h
    exact zo_if C hd ho rfl (fun q => by dsimp only at q; rw [if_pos q] at hy; exact hy _ _ _ _ _ _ _ _ _ _ _ ad _ _ _ _ _ C P hS hl hone hR1 hR2 hc hs hend) (fun q => by dsimp only at q; rw [if_neg q] at hy; exact hy _ _ _ _ _ _ _ _ _ _ _ ad _ _ _ _ _ C P hS hl hone hR1 hR2 hc hs hend)
  · split at h <;> cases h
    exact zo_if C hd ho rfl (fun q => by dsimp only at q; rw [if_pos q] at hy; exact hy _ _ _ _ _ _ _ _ _ _ _ ad _ _ _ _ _ C P hS hl hone hR1 hR2 hc hs hend) (fun q => by dsimp only at q; rw [if_neg q] at hy; exact hy _ _ _ _ _ _ _ _ _ _ _ ad _ _ _ _ _ C P hS hl hone hR1 hR2 hc hs hend)
  · split at h <;> cases h
    exact zo_if C hd ho rfl (fun q => by dsimp only at q; rw [if_pos q] at hy; exact hy _ _ _ _ _ _ _ _ _ _ _ ad _ _ _ _ _ C P hS hl hone hR1 hR2 hc hs hend) (fun q => by dsimp only at q; rw [if_neg q] at hy; exact hy _ _ _ _ _ _ _ _ _ _ _ ad _ _ _ _ _ C P hS hl hone hR1 hR2 hc hs hend)
  · split at h <;> cases h
    exact zo_if C hd ho rfl (fun q => by dsimp only at q; rw [if_pos q] at hy; exact hy _ _ _ _ _ _ _ _ _ _ _ ad _ _ _ _ _ C P hS hl hone hR1 hR2 hc hs hend) (fun q => by dsimp only at q; rw [if_neg q] at hy; exact hy _ _ _ _ _ _ _ _ _ _ _ ad _ _ _ _ _ C P hS hl hone hR1 hR2 hc hs hend)
  · split at h <;> cases h
    exact zo_if C hd ho rfl (fun q => by dsimp only at q; rw [if_pos q] at hy; exact hy _ _ _ _ _ _ _ _ _ _ _ ad _ _ _ _ _ C P hS hl hone hR1 hR2 hc hs hend) (fun q => by dsimp only at q; rw [if_neg q] at hy; exact hy _ _ _ _ _ _ _ _ _ _ _ ad _ _ _ _ _ C P hS hl hone hR1 hR2 hc hs hend)
  · split at h <;> cases h
    exact zo_icmp C hd ho rfl (fun q => by dsimp only at q; rw [if_pos q] at hy; exact hy _ _ _ _ _ _ _ _ _ _ _ ad _ _ _ _ _ C P hS hl hone hR1 hR2 hc hs hend) (fun q => by dsimp only at q; rw [if_neg q] at hy; exact hy _ _ _ _ _ _ _ _ _ _ _ ad _ _ _ _ _ C P hS hl hone hR1 hR2 hc hs hend)
  · split at h <;> cases h
    exact zo_icmp C hd ho rfl (fun q => by dsimp only at q; rw [if_pos q] at hy; exact hy _ _ _ _ _ _ _ _ _ _ _ ad _ _ _ _ _ C P hS hl hone hR1 hR2 hc hs hend) (fun q => by dsimp only at q; rw [if_neg q] at hy; exact hy _ _ _ _ _ _ _ _ _ _ _ ad _ _ _ _ _ C P hS hl hone hR1 hR2 hc hs hend)
  · split at h <;> cases h
    exact zo_icmp C hd ho rfl (fun q => by dsimp only at q; rw [if_pos q] at hy; exact hy _ _ _ _ _ _ _ _ _ _ _ ad _ _ _ _ _ C P hS hl hone hR1 hR2 hc hs hend) (fun q => by dsimp only at q; rw [if_neg q] at hy; exact hy _ _ _ _ _ _ _ _ _ _ _ ad _ _ _ _ _ C P hS hl hone hR1 hR2 hc hs hend)
  · split at h <;> cases h
    exact zo_icmp C hd ho rfl (fun q => by dsimp only at q; rw [if_pos q] at hy; exact hy _ _ _ _ _ _ _ _ _ _ _ ad _ _ _ _ _ C P hS hl hone hR1 hR2 hc hs hend) (fun q => by dsimp only at q; rw [if_neg q] at hy; exact hy _ _ _ _ _ _ _ _ _ _ _ ad _ _ _ _ _ C P hS hl hone hR1 hR2 hc hs hend)
  · split at h <;> cases h
    exact zo_icmp C hd ho rfl (fun q => by dsimp only at q; rw [if_pos q] at hy; exact hy _ _ _ _ _ _ _ _ _ _ _ ad _ _ _ _ _ C P hS hl hone hR1 hR2 hc hs hend) (fun q => by dsimp only at q; rw [if_neg q] at hy; exact hy _ _ _ _ _ _ _ _ _ _ _ ad _ _ _ _ _ C P hS hl hone hR1 hR2 hc hs hend)
  · split at h <;> cases h
    exact zo_icmp C hd ho rfl (fun q => by dsimp only at q; rw [if_pos q] at hy; exact hy _ _ _ _ _ _ _ _ _ _ _ ad _ _ _ _ _ C P hS hl hone hR1 hR2 hc hs hend) (fun q => by dsimp only at q; rw [if_neg q] at hy; exact hy _ _ _ _ _ _ _ _ _ _ _ ad _ _ _ _ _ C P hS hl hone hR1 hR2 hc hs hend)
  -- idiv, irem
  · split at h
    · obtain ⟨h1, h2⟩ := zitn h
      cases h2
      obtain rfl := ho
      exact lv_idiv C.1 C.2.1 hd h1 (hy _ _ _ _ _ _ _ _ _ _ _ ad _ _ _ _ _ C P hS hl hone hR1 hR2 hc hs hend)
    · cases h
  · split at h
    · obtain ⟨h1, h2⟩ := zitn h
      cases h2
      obtain rfl := ho
      exact lv_irem C.1 C.2.1 hd h1 (hy _ _ _ _ _ _ _ _ _ _ _ ad _ _ _ _ _ C P hS hl hone hR1 hR2 hc hs hend)
    · cases h
  -- switches
  · split at h <;> cases h
    exact zo_table C hd ho (hy _ _ _ _ _ _ _ _ _ _ _ ad _ _ _ _ _ C P hS hl hone hR1 hR2 hc hs hend)
  · split at h <;> cases h
    exact zo_look C hd ho (hy _ _ _ _ _ _ _ _ _ _ _ ad _ _ _ _ _ C P hS hl hone hR1 hR2 hc hs hend)
  -- fields
  · split at h
    · split at h
      · rename_i hz
        cases h
        exact zo_get F C hd ho P hz (hy _ _ _ _ _ _ _ _ _ _ _ ad _ _ _ _ _ C P hS hl hone hR1 hR2 hc hs hend)
      · cases h
    · cases h
  · rcases zput_shape h with ⟨x, c0, r0, rfl⟩ | ⟨t, c0, r0, rfl⟩
    · obtain ⟨h1, h2, h3, h4, h5, h6, rfl⟩ := zput_int h
      have hlen : len = 3 := ho.1
      subst hlen
      exact zo_put F C hS hd ho P h1 h2 h3 h4 h5 h6 (fun H1 locs1 q1 q2 => hy _ _ _ _ _ _ _ _ _ _ _ ad _ _ _ _ _ C q1 q2 hl hone hR1 hR2 hc hs hend)
    · obtain ⟨h1, h2, h3, h4, h5, h6, h7, rfl⟩ := zput_ref h
      have hlen : len = 3 := ho.1
      subst hlen
      exact zo_putq F C hS hd ho P h1 h2 h3 h4 h5 h6 (fun H1 locs1 q1 q2 => hy _ _ _ _ _ _ _ _ _ _ _ ad _ _ _ _ _ C q1 q2 hl hone hR1 hR2 hc hs hend)
  -- getstatic
  · cases h
    exact zo_gets C hS hd ho (hy _ _ _ _ _ _ _ _ _ _ _ ad _ _ _ _ _ C P hS hl hone hR1 hR2 hc hs hend)
  -- iaload
  · split at h
    · rename_i i c0 r0
      unfold zaload at h
      by_cases h1 : Nat.blt c0 g.1 = true
      · rw [h1] at h
        dsimp only [cond_true] at h
        obtain ⟨h2, h⟩ := zcond h
        obtain ⟨h3, h⟩ := zitn h
        cases h
        rw [Nat.blt_eq] at h1; rw [Nat.beq_eq] at h2
        exact zo_iald C hd ho P h1 h2 h3 (hy _ _ _ _ _ _ _ _ _ _ _ ad _ _ _ _ _ C P hS hl hone hR1 hR2 hc hs hend)
      · rw [Bool.not_eq_true] at h1
        rw [h1] at h
        dsimp only [cond_false] at h
        by_cases h2 : Nat.beq c0 1010 = true
        · rw [h2] at h
          dsimp only [cond_true] at h
          obtain ⟨h3, h⟩ := zcond h
          obtain ⟨h4, h⟩ := zitn h
          cases h
          rw [Nat.beq_eq] at h2 h3
          subst h2
          exact zo_sld h3 C hS hd ho h4 (hy _ _ _ _ _ _ _ _ _ _ _ ad _ _ _ _ _ C P hS hl hone hR1 hR2 hc hs hend)
        · rw [Bool.not_eq_true] at h2
          rw [h2] at h
          dsimp only [cond_false] at h
          obtain ⟨h3, h⟩ := zcond h
          obtain ⟨h4, h⟩ := zitn h
          cases h
          rw [Bool.and_eq_true, Nat.blt_eq, Nat.blt_eq] at h3
          obtain ⟨t, ht, rfl⟩ := zk1000 c0 h3.1 h3.2
          rw [Nat.add_sub_cancel_left] at h4 hy
          exact zo_tld ht C hS hd ho h4 (hy _ _ _ _ _ _ _ _ _ _ _ ad _ _ _ _ _ C P hS hl hone hR1 hR2 hc hs hend)
    · cases h
  -- baload, laload, aaload
  · split at h
    · obtain ⟨h1, h⟩ := zcond h
      obtain ⟨h3, h⟩ := zitn h
      cases h
      rw [Bool.and_eq_true, Nat.blt_eq, Nat.beq_eq] at h1
      exact zo_zald C hd ho P h1.1 h1.2 h3 (hy _ _ _ _ _ _ _ _ _ _ _ ad _ _ _ _ _ C P hS hl hone hR1 hR2 hc hs hend)
    · cases h
  · split at h
    · obtain ⟨h1, h⟩ := zcond h
      obtain ⟨h3, h⟩ := zitn h
      cases h
      rw [Bool.and_eq_true, Nat.blt_eq, Nat.beq_eq] at h1
      exact zo_lald C hd ho P h1.1 h1.2 h3 (hy _ _ _ _ _ _ _ _ _ _ _ ad _ _ _ _ _ C P hS hl hone hR1 hR2 hc hs hend)
    · cases h
  · split at h
    · obtain ⟨h1, h⟩ := zcond h
      obtain ⟨h3, h⟩ := zitn h
      rw [Bool.and_eq_true, Nat.blt_eq, Nat.beq_eq] at h1
      split at h
      · rename_i t ht
        obtain ⟨h4, h⟩ := zcond h
        cases h
        exact zo_aald C hd ho P h1.1 h1.2 h3 ht h4 (hy _ _ _ _ _ _ _ _ _ _ _ ad _ _ _ _ _ C P hS hl hone hR1 hR2 hc hs hend)
      · cases h
    · cases h
  -- stores into arrays
  · split at h
    · obtain ⟨h1, h⟩ := zcond h
      obtain ⟨h3, h⟩ := zitn h
      cases h
      rw [Bool.and_eq_true, Nat.blt_eq, Nat.beq_eq] at h1
      exact zo_iast C hS hd ho P h1.1 h1.2 h3 (fun H1 locs1 q1 q2 => hy _ _ _ _ _ _ _ _ _ _ _ ad _ _ _ _ _ C q1 q2 hl hone hR1 hR2 hc hs hend)
    · cases h
  · split at h
    · obtain ⟨h1, h⟩ := zcond h
      obtain ⟨h3, h⟩ := zitn h
      cases h
      rw [Bool.and_eq_true, Nat.blt_eq, Nat.beq_eq] at h1
      exact zo_zast C hS hd ho P h1.1 h1.2 h3 (fun H1 locs1 q1 q2 => hy _ _ _ _ _ _ _ _ _ _ _ ad _ _ _ _ _ C q1 q2 hl hone hR1 hR2 hc hs hend)
    · cases h
  · split at h
    · obtain ⟨h1, h⟩ := zcond h
      obtain ⟨h3, h⟩ := zitn h
      cases h
      rw [Bool.and_eq_true, Nat.blt_eq, Nat.beq_eq] at h1
      exact zo_last C hS hd ho P h1.1 h1.2 h3 (fun H1 locs1 q1 q2 => hy _ _ _ _ _ _ _ _ _ _ _ ad _ _ _ _ _ C q1 q2 hl hone hR1 hR2 hc hs hend)
    · cases h
  · split at h
    · obtain ⟨h1, h⟩ := zcond h
      obtain ⟨h3, h⟩ := zitn h
      cases h
      simp only [Bool.and_eq_true, Nat.blt_eq, Nat.beq_eq] at h1
      obtain ⟨⟨⟨⟨⟨⟨g1, g2⟩, g3⟩, g4⟩, g5⟩, g6⟩, g7⟩ := h1
      refine zo_astq C hS hd ho P g1 g2 h3 ?_ g3 g4 g5 (fun H1 locs1 q1 q2 => hy _ _ _ _ _ _ _ _ _ _ _ ad _ _ _ _ _ C q1 q2 hl hone hR1 hR2 hc hs hend)
      split at g7
      · rename_i u hu
        rw [Nat.beq_eq] at g7
        rw [hu, g7]
      · cases g7
    · cases h
  -- arraylength
  · split at h
    · rename_i c0 r0
      by_cases h1 : Nat.blt c0 g.1 = true
      · rw [h1] at h
        dsimp only [cond_true] at h
        obtain ⟨h2, h⟩ := zcond h
        cases h
        rw [Nat.blt_eq] at h1; rw [Bool.or_eq_true, Nat.beq_eq, Nat.beq_eq] at h2
        exact zo_alen C hd ho P h1 h2 (hy _ _ _ _ _ _ _ _ _ _ _ ad _ _ _ _ _ C P hS hl hone hR1 hR2 hc hs hend)
      · rw [Bool.not_eq_true] at h1
        rw [h1] at h
        dsimp only [cond_false] at h
        obtain ⟨h2, h⟩ := zcond h
        cases h
        rw [Bool.and_eq_true, Nat.beq_eq, Nat.beq_eq] at h2
        obtain ⟨rfl, h3⟩ := h2
        exact zo_slen h3 C hS hd ho (hy _ _ _ _ _ _ _ _ _ _ _ ad _ _ _ _ _ C P hS hl hone hR1 hR2 hc hs hend)
    · cases h
  -- new
  · obtain ⟨h1, h⟩ := zcond h
    cases h
    simp only [Bool.and_eq_true, Nat.blt_eq, Nat.beq_eq] at h1
    obtain ⟨⟨⟨⟨g1, g2⟩, g3⟩, g4⟩, g5⟩ := h1
    dsimp only at hm hy
    have hz1 := zSl_mono (c := r.2.1.1) (d := g.1 + 1) hm hr
    have hz2 := zt_sl g.1 g1
    exact zo_new F C hS hd ho P g1 g2 g3 (by omega) (by omega) (fun q H1 q1 q2 => zafter hy hm hr g1 g4 g5 C hl hone hR1 hR2 hc hs hend q1 q2)
  -- newarray
  · split at h
    · obtain ⟨h1, h⟩ := zcond h
      cases h
      simp only [Bool.and_eq_true, Nat.blt_eq, Nat.beq_eq, decide_eq_true_eq] at h1
      obtain ⟨⟨⟨⟨⟨g1, g2⟩, g3⟩, g4⟩, g5⟩, g6⟩ := h1
      dsimp only at hm hy
      have hz1 := zSl_mono (c := r.2.1.1) (d := g.1 + 1) hm hr
      have hz2 := zt_sl g.1 g1
      have hnx := Int32.not_lt.mpr g4
      rename_i at_ _ _ _
      cases at_ with
      | int => rw [Nat.beq_eq] at g2; exact zo_newai C hS hd ho P g1 g2 hnx g3 (by omega) (by omega) (zt_big _ g1) (fun q H1 q1 q2 => zafter hy hm hr g1 g5 g6 C hl hone hR1 hR2 hc hs hend q1 q2)
      | long => rw [Nat.beq_eq] at g2; exact zo_newal C hS hd ho P g1 g2 hnx g3 (by omega) (by omega) (zt_big _ g1) (fun q H1 q1 q2 => zafter hy hm hr g1 g5 g6 C hl hone hR1 hR2 hc hs hend q1 q2)
      | boolean => rw [Nat.beq_eq] at g2; exact zo_newaz C hS hd ho P g1 g2 hnx g3 (by omega) (by omega) (zt_big _ g1) (fun q H1 q1 q2 => zafter hy hm hr g1 g5 g6 C hl hone hR1 hR2 hc hs hend q1 q2)
      | _ => cases g2
    · cases h
  -- anewarray
  · split at h
    · obtain ⟨h1, h⟩ := zcond h
      cases h
      simp only [Bool.and_eq_true, Nat.blt_eq, Nat.beq_eq, decide_eq_true_eq] at h1
      obtain ⟨⟨⟨⟨⟨g1, g2⟩, g3⟩, g4⟩, g5⟩, g6⟩ := h1
      dsimp only at hm hy
      have hz1 := zSl_mono (c := r.2.1.1) (d := g.1 + 1) hm hr
      have hz2 := zt_sl g.1 g1
      have hnx := Int32.not_lt.mpr g4
      exact zo_newaq C hS hd ho P g1 g2 hnx g3 (by omega) (by omega) (zt_big _ g1) (fun q H1 q1 q2 => zafter hy hm hr g1 g5 g6 C hl hone hR1 hR2 hc hs hend q1 q2)
    · cases h
  -- invokestatic
  · by_cases h9 : Nat.beq a 999 = true
    · rw [h9] at h
      dsimp only [cond_true] at h
      split at h
      · rename_i nn dp d0 sp c0 r0
        obtain ⟨h1, h⟩ := zcond h
        simp only [Bool.and_eq_true, Nat.blt_eq, Nat.ble_eq] at h1
        obtain ⟨⟨⟨g1, g2⟩, g3⟩, g4⟩ := h1
        obtain ⟨h2, h⟩ := zitn h
        rw [Nat.beq_eq] at h9
        subst h9
        obtain ⟨hlen, hlk⟩ := ho
        have hlk2 := hlk.elim (fun k => k.2) (fun k => k.elim (fun k => absurd k.1 (by decide)) (fun k => absurd k.1 (by decide)))
        have hsum := g4
        rw [← zsum_cat ad] at hsum
        by_cases hk1 : (Nat.beq (zK c0) 1 && Nat.beq (zK d0) 1) = true
        · rw [hk1] at h
          cases h
          rw [Bool.and_eq_true, Nat.beq_eq, Nat.beq_eq] at hk1
          exact zo_copyi C hS hl.1 hd hlen hlk2 P g1 g2 hk1.1 hk1.2 (by omega) (by omega) hsum h2 (fun H1 locs1 q1 q2 => hy _ _ _ _ _ _ _ _ _ _ _ ad _ _ _ _ _ C q1 q2 hl hone hR1 hR2 hc hs hend)
        · rw [Bool.not_eq_true] at hk1
          rw [hk1] at h
          dsimp only [cond_false] at h
          obtain ⟨hk2, h⟩ := zcond h
          cases h
          rw [Bool.and_eq_true, Nat.beq_eq, Nat.beq_eq] at hk2
          exact zo_copyl C hS hl.1 hd hlen hlk2 P g1 g2 hk2.1 hk2.2 (by omega) (by omega) hsum h2 (fun H1 locs1 q1 q2 => hy _ _ _ _ _ _ _ _ _ _ _ ad _ _ _ _ _ C q1 q2 hl hone hR1 hR2 hc hs hend)
      · cases h
    · rw [Bool.not_eq_true] at h9
      rw [h9] at h
      dsimp only [cond_false] at h
      by_cases h8 : Nat.beq a 997 = true
      · rw [h8] at h
        dsimp only [cond_true] at h
        split at h
        · rename_i y x r0
          obtain ⟨h1, h⟩ := zcond h
          cases h
          rw [Bool.and_eq_true, Nat.blt_eq, Nat.ble_eq] at h1
          rw [Nat.beq_eq] at h8
          subst h8
          obtain ⟨rfl, hlk⟩ := ho
          have hlk2 := hlk.elim (fun k => absurd k.1 (by decide)) (fun k => k.elim (fun k => k.2) (fun k => absurd k.1 (by decide)))
          have hsum := h1.2
          rw [← zsum_cat ad] at hsum
          exact va_mmax C.1 C.2.1 (C.2.2.1.trans hl.1.symm) C.2.2.2.1 (C.2.2.2.2.1 _ hlk2) (C.2.2.2.2.1 _ F.2.2.2.1.1) (C.2.2.2.2.1 _ F.2.2.2.1.2.1) (C.2.2.2.2.1 _ F.2.2.2.1.2.2) (by omega) (by omega) (by omega) (by omega) hd (hy _ _ _ _ _ _ _ _ _ _ _ ad _ _ _ _ _ C P hS hl hone hR1 hR2 hc hs hend)
        · cases h
      · rw [Bool.not_eq_true] at h8
        rw [h8] at h
        dsimp only [cond_false] at h
        by_cases h7 : Nat.beq a 996 = true
        · rw [h7] at h
          dsimp only [cond_true] at h
          split at h
          · rename_i y x r0
            obtain ⟨h1, h⟩ := zcond h
            cases h
            rw [Bool.and_eq_true, Nat.blt_eq, Nat.ble_eq] at h1
            rw [Nat.beq_eq] at h7
            subst h7
            obtain ⟨rfl, hlk⟩ := ho
            have hlk2 := hlk.elim (fun k => absurd k.1 (by decide)) (fun k => k.elim (fun k => k.2) (fun k => absurd k.1 (by decide)))
            have hsum := h1.2
            rw [← zsum_cat ad] at hsum
            exact va_mmin C.1 C.2.1 (C.2.2.1.trans hl.1.symm) C.2.2.2.1 (C.2.2.2.2.1 _ hlk2) (C.2.2.2.2.1 _ F.2.2.2.2.1) (C.2.2.2.2.1 _ F.2.2.2.2.2.1) (C.2.2.2.2.1 _ F.2.2.2.2.2.2) (by omega) (by omega) (by omega) (by omega) hd (hy _ _ _ _ _ _ _ _ _ _ _ ad _ _ _ _ _ C P hS hl hone hR1 hR2 hc hs hend)
          · cases h
        · rw [Bool.not_eq_true] at h7
          rw [h7] at h
          exact (zcall_inl h).elim
  -- invokevirtual
  · exact (zcall_inl h).elim
  -- invokespecial
  · by_cases h9 : Nat.beq a 998 = true
    · rw [h9] at h
      dsimp only [cond_true] at h
      split at h
      · rename_i a0 r0
        obtain ⟨h1, h⟩ := zcond h
        cases h
        rw [Bool.and_eq_true, Nat.blt_eq, Nat.ble_eq] at h1
        rw [Nat.beq_eq] at h9
        subst h9
        obtain ⟨rfl, hlk⟩ := ho
        have hlk2 := hlk.elim (fun k => k.2) (fun k => absurd k.1 (by decide))
        have hsum := h1.2
        rw [← zsum_cat ad] at hsum
        refine W.objInit (rest := _) C.1 C.2.1 C.2.2.2.1 (C.2.2.2.2.1 _ hlk2.1) (C.2.2.2.2.1 _ hlk2.2.1) (C.2.2.2.2.1 _ hlk2.2.2) rfl (hl.1.trans C.2.2.1.symm) rfl hd (by omega) ?_ (hy _ _ _ _ _ _ _ _ _ _ _ ad _ _ _ _ _ C P hS hl hone hR1 hR2 hc hs hend)
        have := lv_room (m := m) (pc := pc0) (ls := ls) (rest := (Value.ref a0 :: r0).map (zc ad)) hsum
        dsimp only at this ⊢
        omega
      · cases h
    · rw [Bool.not_eq_true] at h9
      rw [h9] at h
      exact (zcall_inl h).elim
  -- returns
  · split at h
    · by_cases h1 : Nat.beq (zrk M) 1 = true
      · rw [h1] at h; cases h
      · rw [Bool.not_eq_true] at h1
        rw [h1] at h
        dsimp only [cond_false] at h
        obtain ⟨-, h⟩ := zcond h
        split at h <;> cases h
    · cases h
  · split at h
    · obtain ⟨-, h⟩ := zcond h; cases h
    · cases h
  · split at h
    · obtain ⟨-, h⟩ := zcond h; cases h
    · cases h
  -- the stack alone
  · split at h
    · rename_i hz
      cases h
      exact zo_pure C hd ho hz (hy _ _ _ _ _ _ _ _ _ _ _ ad _ _ _ _ _ C P hS hl hone hR1 hR2 hc hs hend)
    · cases h
