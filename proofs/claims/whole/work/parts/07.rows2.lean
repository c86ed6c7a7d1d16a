/-! ===== the rows of arrays, of what is made, of branches ===== -/
theorem zS1_at {S : zS} {c i : Nat} {x : Int32} : (zw1 S c i x).1 c = upd (S.1 c) i x := by simp [zw1]
theorem zS2_at {S : zS} {c i : Nat} {x : Int64} : (zw2 S c i x).2 c = vp_updL (S.2 c) i x := by simp [zw2]
theorem zS2_ne {S : zS} {c d i : Nat} {x : Int64} (h : d ≠ c) : (zw2 S c i x).2 d = S.2 d := by simp [zw2, h]
theorem vp_in_of' {i : Int32} {n : Nat} (h : ¬ (i < 0 ∨ n ≤ i.toNatClampNeg)) : vp_in i n := h
section ZRows2
variable {p : Program} {l : Launch} {e : Env} {R : Room} {s : State} {m : MethodId} {args : Array Value} {below : List Frame} {meth : Method} {c : Code} {H : Heap} {locs : List Loc} {cells slots : Nat} {Q : State → Prop}
  {D : va_G} {ty : Nat → ClassId} {ad : Nat → Nat} {A : Nat → Prop} {sc : zSc} {ls : Array Slot} {M pc len a b : Nat} {v : Int32} {st s2 r : List Value} {lv : List (Option Value)} {g : zG} {S : zS} {ins : Instr} {c0 : Nat} {i x : Int32} {x2 : Int64}
theorem zo_iald (C : zfix p s m args meth c A M D ty ad sc) (hd : decode (zby M) pc = .ok (.iaload, len)) (ho : len = 1) (P : zpic D ty ad A g S H) (h1 : c0 < g.1) (h2 : zK c0 = 1) (h3 : ¬ (i < 0 ∨ zN c0 ≤ i.toNatClampNeg))
    (k : W p l e R s m args below meth c H locs cells slots Q (F0 m (pc + len) ls ((Value.int (S.1 c0 i.toNatClampNeg) :: r).map (zc ad)))) : W p l e R s m args below meth c H locs cells slots Q (F0 m pc ls ((Value.int i :: Value.ref c0 :: r).map (zc ad))) := by
  subst ho
  exact va_iald C.1 C.2.1 C.2.2.2.2.2.2.1 P.1 c0 0 (by rw [zW_get h1, zE_int h2]) rfl (vp_in_of' h3) hd k
theorem zo_zald (C : zfix p s m args meth c A M D ty ad sc) (hd : decode (zby M) pc = .ok (.baload, len)) (ho : len = 1) (P : zpic D ty ad A g S H) (h1 : c0 < g.1) (h2 : zK c0 = 3) (h3 : ¬ (i < 0 ∨ zN c0 ≤ i.toNatClampNeg))
    (k : W p l e R s m args below meth c H locs cells slots Q (F0 m (pc + len) ls ((Value.int (S.1 c0 i.toNatClampNeg) :: r).map (zc ad)))) : W p l e R s m args below meth c H locs cells slots Q (F0 m pc ls ((Value.int i :: Value.ref c0 :: r).map (zc ad))) := by
  subst ho
  exact va_zald C.1 C.2.1 C.2.2.2.2.2.2.1 P.1 c0 2 (by rw [zW_get h1, zE_boo h2]) rfl (vp_in_of' h3) hd k
theorem zo_lald (C : zfix p s m args meth c A M D ty ad sc) (hd : decode (zby M) pc = .ok (.laload, len)) (ho : len = 1) (P : zpic D ty ad A g S H) (h1 : c0 < g.1) (h2 : zK c0 = 2) (h3 : ¬ (i < 0 ∨ zN c0 ≤ i.toNatClampNeg))
    (k : W p l e R s m args below meth c H locs cells slots Q (F0 m (pc + len) ls ((Value.long (S.2 c0 i.toNatClampNeg) :: r).map (zc ad)))) : W p l e R s m args below meth c H locs cells slots Q (F0 m pc ls ((Value.int i :: Value.ref c0 :: r).map (zc ad))) := by
  subst ho
  exact va_lald C.1 C.2.1 C.2.2.2.2.2.2.1 P.1 c0 1 (by rw [zW_get h1, zE_lng h2]) rfl (vp_in_of' h3) hd k
theorem zo_aald {t : Nat} (C : zfix p s m args meth c A M D ty ad sc) (hd : decode (zby M) pc = .ok (.aaload, len)) (ho : len = 1) (P : zpic D ty ad A g S H) (h1 : c0 < g.1) (h2 : zK c0 = 4) (h3 : ¬ (i < 0 ∨ zN c0 ≤ i.toNatClampNeg)) (h4 : zF c0 i.toNatClampNeg = some t) (h5 : g.2 c0 i.toNatClampNeg = true)
    (k : W p l e R s m args below meth c H locs cells slots Q (F0 m (pc + len) ls ((Value.ref t :: r).map (zc ad)))) : W p l e R s m args below meth c H locs cells slots Q (F0 m pc ls ((Value.int i :: Value.ref c0 :: r).map (zc ad))) := by
  subst ho
  refine va_aldq C.1 C.2.1 C.2.2.2.2.2.2.1 P.1 c0 3 (by rw [zW_get h1, zE_ref h2]) rfl (vp_in_of' h3) hd ?_
  unfold zQf
  rw [h4]
  dsimp only
  rw [h5]
  exact k
theorem zo_sld (hM : M = zm_L_law) (C : zfix p s m args meth c A M D ty ad sc) (hS : va_S A s.heap H locs) (hd : decode (zby M) pc = .ok (.iaload, len)) (ho : len = 1) (h3 : ¬ (i < 0 ∨ sc.2 ≤ i.toNatClampNeg))
    (k : W p l e R s m args below meth c H locs cells slots Q (F0 m (pc + len) ls ((Value.int (sc.1 i.toNatClampNeg) :: r).map (zc ad)))) : W p l e R s m args below meth c H locs cells slots Q (F0 m pc ls ((Value.int i :: Value.ref 1010 :: r).map (zc ad))) := by
  subst ho
  obtain ⟨hX, hbl, hbA⟩ := C.2.2.2.2.2.2.2.2.2.1 hM
  exact va_sld C.1 C.2.1 hX hbl hbA hS (vp_in_of' h3) hd k
theorem zo_tld {t : Nat} (ht : t < 4) (C : zfix p s m args meth c A M D ty ad sc) (hS : va_S A s.heap H locs) (hd : decode (zby M) pc = .ok (.iaload, len)) (ho : len = 1) (h3 : ¬ (i < 0 ∨ zsN t ≤ i.toNatClampNeg))
    (k : W p l e R s m args below meth c H locs cells slots Q (F0 m (pc + len) ls ((Value.int (zsf t i.toNatClampNeg) :: r).map (zc ad)))) : W p l e R s m args below meth c H locs cells slots Q (F0 m pc ls ((Value.int i :: Value.ref (1000 + t) :: r).map (zc ad))) := by
  subst ho
  exact va_ti C.1 C.2.1 (C.2.2.2.2.2.2.2.1 t ht).2 hS (vp_in_of' h3) rfl hd k
theorem zo_gets {j : Nat} (C : zfix p s m args meth c A M D ty ad sc) (hS : va_S A s.heap H locs) (hd : decode (zby M) pc = .ok (.getstatic j, len)) (ho : zopk M pc (.getstatic j) len a b v)
    (k : W p l e R s m args below meth c H locs cells slots Q (F0 m (pc + len) ls ((Value.ref (1000 + a) :: r).map (zc ad)))) : W p l e R s m args below meth c H locs cells slots Q (F0 m pc ls (r.map (zc ad))) := by
  obtain ⟨rfl, ha, hl⟩ := ho
  exact va_gets C.1 C.2.1 (C.2.2.2.2.2.2.2.1 a ha).1 hS C.2.2.2.1 (C.2.2.2.2.1 _ hl) (fun _ h => h) hd k
theorem zo_alen (C : zfix p s m args meth c A M D ty ad sc) (hd : decode (zby M) pc = .ok (.arraylength, len)) (ho : len = 1) (P : zpic D ty ad A g S H) (h1 : c0 < g.1) (h2 : zK c0 = 1 ∨ zK c0 = 2)
    (k : W p l e R s m args below meth c H locs cells slots Q (F0 m (pc + len) ls ((Value.int (Int32.ofNat (zN c0)) :: r).map (zc ad)))) : W p l e R s m args below meth c H locs cells slots Q (F0 m pc ls ((Value.ref c0 :: r).map (zc ad))) := by
  subst ho
  rcases h2 with h2 | h2
  · exact va_alen (x := (zN c0, .inl (S.1 c0))) C.1 C.2.1 C.2.2.2.2.2.2.1 P.1 c0 0 (by rw [zW_get h1, zE_int h2]) rfl rfl hd k
  · exact va_alen (x := (zN c0, .inr (.inl (S.2 c0)))) C.1 C.2.1 C.2.2.2.2.2.2.1 P.1 c0 1 (by rw [zW_get h1, zE_lng h2]) rfl rfl hd k
theorem zo_slen (hM : M = zm_L_law) (C : zfix p s m args meth c A M D ty ad sc) (hS : va_S A s.heap H locs) (hd : decode (zby M) pc = .ok (.arraylength, len)) (ho : len = 1)
    (k : W p l e R s m args below meth c H locs cells slots Q (F0 m (pc + len) ls ((Value.int (Int32.ofNat sc.2) :: r).map (zc ad)))) : W p l e R s m args below meth c H locs cells slots Q (F0 m pc ls ((Value.ref 1010 :: r).map (zc ad))) := by
  subst ho
  obtain ⟨hX, hbl, hbA⟩ := C.2.2.2.2.2.2.2.2.2.1 hM
  exact va_slen C.1 C.2.1 hX hbl hbA hS hd k
theorem zo_iast (C : zfix p s m args meth c A M D ty ad sc) (hS : va_S A s.heap H locs) (hd : decode (zby M) pc = .ok (.iastore, len)) (ho : len = 1) (P : zpic D ty ad A g S H) (h1 : c0 < g.1) (h2 : zK c0 = 1) (h3 : ¬ (i < 0 ∨ zN c0 ≤ i.toNatClampNeg))
    (k : ∀ H1 locs1, zpic D ty ad A g (zw1 S c0 i.toNatClampNeg x) H1 → va_S A s.heap H1 locs1 → W p l e R s m args below meth c H1 locs1 cells slots Q (F0 m (pc + len) ls (r.map (zc ad)))) : W p l e R s m args below meth c H locs cells slots Q (F0 m pc ls ((Value.int x :: Value.int i :: Value.ref c0 :: r).map (zc ad))) := by
  subst ho
  refine va_iast C.1 C.2.1 C.2.2.2.2.2.2.1 P.1 P.2.1 hS c0 0 (by rw [zW_get h1, zE_int h2]) rfl (vp_in_of' h3) hd (fun H1 locs1 q1 q2 q3 => ?_)
  have hset := zW_set (ad := ad) (ty := ty) (g := g) (g2 := g) (S := S) (S2 := zw1 S c0 i.toNatClampNeg x) (c := c0) rfl (zE_int h2) (fun d hd _ => zE_w1 hd)
  rw [zS1_at] at hset
  rw [hset] at q1 q2
  exact k H1 locs1 ⟨q1, q2, P.2.2⟩ q3
theorem zo_zast (C : zfix p s m args meth c A M D ty ad sc) (hS : va_S A s.heap H locs) (hd : decode (zby M) pc = .ok (.bastore, len)) (ho : len = 1) (P : zpic D ty ad A g S H) (h1 : c0 < g.1) (h2 : zK c0 = 3) (h3 : ¬ (i < 0 ∨ zN c0 ≤ i.toNatClampNeg))
    (k : ∀ H1 locs1, zpic D ty ad A g (zw1 S c0 i.toNatClampNeg (vp_nar .boolean x)) H1 → va_S A s.heap H1 locs1 → W p l e R s m args below meth c H1 locs1 cells slots Q (F0 m (pc + len) ls (r.map (zc ad)))) : W p l e R s m args below meth c H locs cells slots Q (F0 m pc ls ((Value.int x :: Value.int i :: Value.ref c0 :: r).map (zc ad))) := by
  subst ho
  refine va_zast C.1 C.2.1 C.2.2.2.2.2.2.1 P.1 P.2.1 hS c0 2 (by rw [zW_get h1, zE_boo h2]) rfl (vp_in_of' h3) hd (fun H1 locs1 q1 q2 q3 => ?_)
  have hset := zW_set (ad := ad) (ty := ty) (g := g) (g2 := g) (S := S) (S2 := zw1 S c0 i.toNatClampNeg (vp_nar .boolean x)) (c := c0) rfl (zE_boo h2) (fun d hd _ => zE_w1 hd)
  rw [zS1_at] at hset
  rw [hset] at q1 q2
  exact k H1 locs1 ⟨q1, q2, P.2.2⟩ q3
theorem zE_w2 {d j : Nat} (h : d ≠ c0) : zE ad ty g.2 (zw2 S c0 j x2) d = zE ad ty g.2 S d := zE_ad rfl (zS2_ne h) (fun _ => rfl) (fun _ _ _ _ => rfl)
theorem zo_last (C : zfix p s m args meth c A M D ty ad sc) (hS : va_S A s.heap H locs) (hd : decode (zby M) pc = .ok (.lastore, len)) (ho : len = 1) (P : zpic D ty ad A g S H) (h1 : c0 < g.1) (h2 : zK c0 = 2) (h3 : ¬ (i < 0 ∨ zN c0 ≤ i.toNatClampNeg))
    (k : ∀ H1 locs1, zpic D ty ad A g (zw2 S c0 i.toNatClampNeg x2) H1 → va_S A s.heap H1 locs1 → W p l e R s m args below meth c H1 locs1 cells slots Q (F0 m (pc + len) ls (r.map (zc ad)))) : W p l e R s m args below meth c H locs cells slots Q (F0 m pc ls ((Value.long x2 :: Value.int i :: Value.ref c0 :: r).map (zc ad))) := by
  subst ho
  refine va_last C.1 C.2.1 C.2.2.2.2.2.2.1 P.1 P.2.1 hS c0 1 (by rw [zW_get h1, zE_lng h2]) rfl (vp_in_of' h3) hd (fun H1 locs1 q1 q2 q3 => ?_)
  have hset := zW_set (ad := ad) (ty := ty) (g := g) (g2 := g) (S := S) (S2 := zw2 S c0 i.toNatClampNeg x2) (c := c0) rfl (zE_lng h2) (fun d hd _ => zE_w2 hd)
  rw [zS2_at] at hset
  rw [hset] at q1 q2
  exact k H1 locs1 ⟨q1, q2, P.2.2⟩ q3
theorem zwf_at {f : Nat → Nat → Bool} {c j : Nat} : zwf f c j c j = true := by simp [zwf]
theorem zwf_ne {f : Nat → Nat → Bool} {c d j k : Nat} (h : d ≠ c) : zwf f c j d k = f d k := by
  have : Nat.beq d c = false := by
    cases hb : Nat.beq d c with
    | false => rfl
    | true => exact absurd (Nat.eq_of_beq_eq_true hb) h
  simp [zwf, this]
theorem zwf_ne2 {f : Nat → Nat → Bool} {c d j k : Nat} (h : k ≠ j) : zwf f c j d k = f d k := by
  have : Nat.beq k j = false := by
    cases hb : Nat.beq k j with
    | false => rfl
    | true => exact absurd (Nat.eq_of_beq_eq_true hb) h
  simp [zwf, this]
theorem zwf_or {f : Nat → Nat → Bool} {c d j k : Nat} (h : zwf f c j d k = true) : (d = c ∧ k = j) ∨ f d k = true := by
  by_cases h1 : d = c
  · by_cases h2 : k = j
    · exact Or.inl ⟨h1, h2⟩
    · exact Or.inr (by rwa [zwf_ne2 h2] at h)
  · exact Or.inr (by rwa [zwf_ne h1] at h)
theorem zE_wf {d j : Nat} (h : d ≠ c0) : zE ad ty (zwf g.2 c0 j) S d = zE ad ty g.2 S d := zE_ad rfl rfl (fun _ => zwf_ne h) (fun _ _ _ _ => rfl)
theorem zo_putq {j t : Nat} (F : zfacts) (C : zfix p s m args meth c A M D ty ad sc) (hS : va_S A s.heap H locs) (hd : decode (zby M) pc = .ok (.putfield j, len)) (ho : zopk M pc (.putfield j) len a b v) (P : zpic D ty ad A g S H)
    (h3 : c0 < g.1) (h4 : zK c0 = 0) (h5 : zC c0 = b) (h6 : a < zNf b) (h7 : zF c0 a = some t) (h8 : t < g.1)
    (k : ∀ H1 locs1, zpic D ty ad A (g.1, zwf g.2 c0 a) S H1 → va_S A s.heap H1 locs1 → W p l e R s m args below meth c H1 locs1 cells slots Q (F0 m (pc + len) ls (r.map (zc ad)))) : W p l e R s m args below meth c H locs cells slots Q (F0 m pc ls ((Value.ref t :: Value.ref c0 :: r).map (zc ad))) := by
  obtain ⟨hx, hb, hml, hown, hts, hini, hK, -, -, -⟩ := C
  obtain ⟨rfl, hl, hb12, hfin⟩ := ho
  obtain ⟨hP, hD, hn, hI⟩ := P
  have hc74 : c0 < 74 := Nat.lt_of_lt_of_le h3 hn
  have hN := (zt_N c0 hc74 h4).2
  have ha : a < zN c0 := by rw [hN, h5]; exact h6
  have hY := (zt_f c0 hc74 h4 a ha).2 (by rw [h7]; rfl)
  rw [h5] at hY
  have he : (zW ad ty g S)[c0]? = some (ad c0, .inr (b, (List.range (zN c0)).map (zV ad g.2 S c0))) := by rw [zW_get h3, zE_obj h4, h5]
  have hfs : ((List.range (zN c0)).map (zV ad g.2 S c0)).set a (.ref (ad t)) = (List.range (zN c0)).map (zV ad (zwf g.2 c0 a) S c0) := by
    apply List.ext_getElem?
    intro q
    rw [List.getElem?_set]
    by_cases hq : q < zN c0
    · by_cases h : a = q
      · subst h
        rw [if_pos rfl, if_pos (by simpa using hq)]
        simp [List.getElem?_range hq, zV, h7, zwf_at]
      · rw [if_neg h]
        simp [List.getElem?_range hq, zV, zwf_ne2 (fun z => h z.symm)]
    · have h1 : ((List.range (zN c0)).map (zV ad (zwf g.2 c0 a) S c0))[q]? = none := by simp; omega
      have h2 : ((List.range (zN c0)).map (zV ad g.2 S c0))[q]? = none := by simp; omega
      rw [h1, h2]
      by_cases h : a = q
      · subst h; rw [if_pos rfl, if_neg (by simpa using hq)]
      · rw [if_neg h]
  have hset : (zW ad ty g S).set c0 (ad c0, .inr (b, ((List.range (zN c0)).map (zV ad g.2 S c0)).set a (.ref (ad t)))) = zW ad ty (g.1, zwf g.2 c0 a) S :=
    zW_set rfl (by rw [zE_obj h4, h5, hfs]) (fun d hd _ => zE_wf hd)
  have hnar : narrow (zY b a) (.ref (ad t)) = .ref (ad t) ∧ fits (zY b a) (.ref (ad t)) = true := by
    cases hz : zY b a with
    | object _ => exact ⟨rfl, rfl⟩
    | array _ => exact ⟨rfl, rfl⟩
    | _ => rw [hz] at hY; cases hY
  have kk : ∀ (H1 : Heap) (locs1 : List Loc), va_P D zcl ((zW ad ty g S).set c0 (ad c0, .inr (b, ((List.range (zN c0)).map (zV ad g.2 S c0)).set a (.ref (ad t))))) H1 → va_D A ((zW ad ty g S).set c0 (ad c0, .inr (b, ((List.range (zN c0)).map (zV ad g.2 S c0)).set a (.ref (ad t))))) → va_S A s.heap H1 locs1 → W p l e R s m args below meth c H1 locs1 cells slots Q (F0 m (pc + 3) ls (r.map (zc ad))) := by
    intro H1 locs1 q1 q2 q3
    rw [hset] at q1 q2
    refine k H1 locs1 ⟨q1, q2, hn, fun d j u h1 h2 h9 => ?_⟩ q3
    rcases zwf_or h9 with ⟨rfl, rfl⟩ | h9
    · rw [h7] at h2; cases h2; exact h8
    · exact hI d j u h1 h2 h9
  rcases hfin with hf | ⟨hf, hi, hdec⟩
  · exact va_put (D := D) (ci := b) (v := .ref (ad t)) (C := zcn b) (T := zT b) (N := zNf b) hx hb hts (F.2.2.1 b hb12) (zY b) (zt_Y b hb12) (zt_nm b hb12) hown hK hP hD hS c0 he (zt_cl b hb12) a h6 (hts _ hl) (fun _ h => h) hf (zt_Y b hb12 a h6) hnar.1 hnar.2 (by simpa using ha) hd kk
  · exact va_putF (D := D) (ci := b) (v := .ref (ad t)) (C := zcn b) (T := zT b) (N := zNf b) hx hb hts (F.2.2.1 b hb12) (zY b) (zt_Y b hb12) (zt_nm b hb12) hown hK hP hD hS c0 he (zt_cl b hb12) a h6 (hts _ hl) (fun _ h => h) hf (hini hi) hdec (zt_Y b hb12 a h6) hnar.1 hnar.2 (by simpa using ha) hd kk
theorem zo_astq {t : Nat} (C : zfix p s m args meth c A M D ty ad sc) (hS : va_S A s.heap H locs) (hd : decode (zby M) pc = .ok (.aastore, len)) (ho : len = 1) (P : zpic D ty ad A g S H) (h1 : c0 < g.1) (h2 : zK c0 = 4) (h3 : ¬ (i < 0 ∨ zN c0 ≤ i.toNatClampNeg))
    (h7 : zF c0 i.toNatClampNeg = some t) (h8 : t < g.1) (h9 : zK t = 0) (h10 : zC t = 6)
    (k : ∀ H1 locs1, zpic D ty ad A (g.1, zwf g.2 c0 i.toNatClampNeg) S H1 → va_S A s.heap H1 locs1 → W p l e R s m args below meth c H1 locs1 cells slots Q (F0 m (pc + len) ls (r.map (zc ad)))) : W p l e R s m args below meth c H locs cells slots Q (F0 m pc ls ((Value.ref t :: Value.int i :: Value.ref c0 :: r).map (zc ad))) := by
  subst ho
  obtain ⟨hP, hD, hn, hI⟩ := P
  refine va_astq C.1 C.2.1 C.2.2.2.2.2.2.1 hP hD hS c0 3 t 6 (by rw [zW_get h1, zE_ref h2]) rfl (by rw [zW_get h8, zE_obj h9, h10]) rfl (vp_in_of' h3) hd (fun H1 locs1 q1 q2 q3 => ?_)
  have hset := zW_set (ad := ad) (ty := ty) (g := g) (g2 := (g.1, zwf g.2 c0 i.toNatClampNeg)) (S := S) (S2 := S) (c := c0) rfl (zE_ref h2) (fun d hd _ => zE_wf hd)
  have hf : va_up (zQf ad g.2 c0) i.toNatClampNeg (some (ad t)) = zQf ad (zwf g.2 c0 i.toNatClampNeg) c0 := by
    funext q
    unfold zQf
    by_cases h : q = i.toNatClampNeg
    · subst h
      rw [h7]
      simp [va_up, zwf_at]
    · simp [va_up, h, zwf_ne2 h]
  rw [hf, hset] at q1 q2
  refine k H1 locs1 ⟨q1, q2, hn, fun d j u g1 g2 g9 => ?_⟩ q3
  rcases zwf_or g9 with ⟨rfl, rfl⟩ | g9
  · rw [h7] at g2; cases g2; exact h8
  · exact hI d j u g1 g2 g9
end ZRows2
