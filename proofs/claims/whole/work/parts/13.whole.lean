/-! ===== behind a call; every run ===== -/
theorem zcontinue {l : Launch} {D : va_G} {ty : Nat → ClassId} {sc : zSc} {g : zG} {M L pc : Nat} {S : zS} {lv : List (Option Value)} {rest : List Value} {k : Nat} {rc r : zR} {x2 : zX} {p : Program} {e : Env} {R : Room} {s : State} {m : MethodId} {args : Array Value} {below : List Frame} {meth : Method} {c : Code} {Q : State → Prop} {A : Nat → Prop} {ad : Nat → Nat} {H : Heap} {locs : List Loc} {ls : Array Slot} {cells slots : Nat} {st0 : List Value} {a' : Array Value}
    (hrun : va_Run p l e R s m args below meth c H locs cells slots (rc.2.1.1 - g.1) (zSl rc.2.1.1 - zSl g.1) (F0 m pc ls st0) (rest.map (zc ad)) (zQc D ty ad g (va_A (zW ad ty g S) H.size) rc a') (va_A (zW ad ty g S) H.size))
    (hres : zres g (M, L) (pc + 3) lv rest k rc = some x2) (hy : zGo l D ty sc x2 r) (hg : g.1 ≤ zNC) (hm1 : g.1 ≤ rc.2.1.1) (hm2 : rc.2.1.1 ≤ r.2.1.1) (hr : r.2.1.1 ≤ 74) (hn : zsd g = true → rc.2.1 = g) (hok : g.1 = zNC ∨ (lv.all (zrefoko g.1) = true ∧ rest.all (zrefok g.1) = true))
    (C : zfix p s m args meth c A M D ty ad sc) (P : zpic D ty ad A g S H) (hS : va_S A s.heap H locs) (hl : zlh ad (zml M) lv ls) (hone : zone (zpn M) lv) (hR1 : L ≤ R.frames) (hR2 : L * 60 ≤ R.locals) (hc : cells + (r.2.1.1 - g.1) ≤ R.cells) (hs : slots + (zSl r.2.1.1 - zSl g.1) ≤ R.slots)
    (hend : ∀ (ad' : Nat → Nat) (H' : Heap) (locs' : List Loc) (ls' : Array Slot) (pc' : Nat), zagr g.1 ad ad' → zpic D ty ad' A r.2.1 r.2.2 H' → va_S A s.heap H' locs' → zend M pc' r.1 → W p l e R s m args below meth c H' locs' (cells + (r.2.1.1 - g.1)) (slots + (zSl r.2.1.1 - zSl g.1)) Q (F0 m pc' ls' r.1.toList)) :
    W p l e R s m args below meth c H locs cells slots Q (F0 m pc ls st0) := by
  have hA : ∀ q : Nat, va_A (zW ad ty g S) H.size q → A q := by
    rintro q (⟨j, e1, he⟩ | h)
    · exact P.2.1.2 j (q, e1) he
    · exact C.2.2.2.2.2.2.2.2.1 q (Nat.le_trans hS.1 h)
  have hgx : cond (zsd g) g rc.2.1 = rc.2.1 := by
    cases hb : zsd g with
    | true => exact (hn hb).symm
    | false => rfl
  have hz1 := zSl_mono (c := rc.2.1.1) (d := g.1) hm1 (by omega)
  have hz2 := zSl_mono (c := r.2.1.1) (d := rc.2.1.1) hm2 hr
  -- the way on, from any end of the callee
  have go : ∀ (w : List Value) (t : State) (H1 : Heap) (locs1 : List Loc) (ad' : Nat → Nat), t.heap = H1 → zBk D ty ad g (va_A (zW ad ty g S) H.size) rc ad' t → va_S A s.heap H1 locs1 → x2 = (rc.2.1, (M, L), pc + 3, rc.2.2, lv, w ++ rest) → (∀ v ∈ w, ∀ f : Nat → Nat, zc f v = v) →
      W p l e R s m args below meth c H1 locs1 (cells + (rc.2.1.1 - g.1)) (slots + (zSl rc.2.1.1 - zSl g.1)) Q (F0 m (pc + 3) ls (w ++ rest.map (zc ad))) := by
    intro w t H1 locs1 ad' ht hB hS1 hx2 hw
    subst hx2
    obtain ⟨b1, b2⟩ := hB
    rw [ht] at b2
    have hlv : zlh ad' (zml M) lv ls := by
      rcases hok with h | h
      · rw [b1.2 h]; exact hl
      · exact zlh_ad hl (zc_oko h.1 b1.1)
    have hrs : rest.map (zc ad') = rest.map (zc ad) := by
      rcases hok with h | h
      · rw [b1.2 h]
      · exact zc_oks h.2 b1.1
    have hws : w.map (zc ad') = w := by
      rw [List.map_congr_left (g := id) (fun v hv => hw v hv ad'), List.map_id]
    have hgo := hy p e R s m args below meth c Q A ad' H1 locs1 ls (cells + (rc.2.1.1 - g.1)) (slots + (zSl rc.2.1.1 - zSl g.1)) (C.ad' (fun k hk => b1.1 k (Or.inr hk))) ⟨b2.1, b2.2.1.weaken (fun q _ _ h => hA _ h), b2.2.2⟩ hS1 hlv hone hR1 hR2 (by dsimp only; omega) (by dsimp only; omega) (fun ad'' H' locs' ls' pc' a1 a2 a3 a4 => by
      have hk := hend ad'' H' locs' ls' pc' ⟨fun k hk => by rw [a1.1 k (hk.imp (fun h => Nat.lt_of_lt_of_le h hm1) id)]; exact b1.1 k hk, fun hN => by
        have h74 : g.1 = 74 := hN
        rw [a1.2 (by show rc.2.1.1 = 74; omega), b1.2 hN]⟩ a2 a3 a4
      dsimp only
      rw [show cells + (rc.2.1.1 - g.1) + (r.2.1.1 - rc.2.1.1) = cells + (r.2.1.1 - g.1) by omega, show slots + (zSl rc.2.1.1 - zSl g.1) + (zSl r.2.1.1 - zSl rc.2.1.1) = slots + (zSl r.2.1.1 - zSl g.1) by omega]
      exact hk)
    dsimp only at hgo
    rw [List.map_append, hws, hrs] at hgo
    exact hgo
  unfold zres at hres
  rw [hgx] at hres
  unfold zQc at hrun
  split at hres
  · split at hres
    · rename_i h1
      cases hres
      rw [h1] at hrun
      exact va_callv hrun hS (fun q _ h => hA q h) hA (fun u t H1 locs1 ht _ _ hB _ _ hS1 => go [] t H1 locs1 u ht hB hS1 rfl (fun v hv => by cases hv))
    · cases hres
  · split at hres
    · rename_i h1
      cases hres
      rw [h1] at hrun
      exact va_calll hrun hS (fun q _ h => hA q h) hA (fun x u t H1 locs1 ht _ hp hB _ _ hS1 => by subst hp; exact go [.long _] t H1 locs1 u ht hB hS1 rfl (fun v hv f => by rcases List.mem_singleton.mp hv with rfl; rfl))
    · cases hres
  · split at hres
    · rename_i h1
      cases hres
      rw [h1] at hrun
      exact va_calli hrun hS (fun q _ h => hA q h) hA (fun x u t H1 locs1 ht _ hp hB _ _ hS1 => by subst hp; exact go [.int _] t H1 locs1 u ht hB hS1 rfl (fun v hv f => by rcases List.mem_singleton.mp hv with rfl; rfl))
    · cases hres
theorem zPc_of {D : va_G} {ty : Nat → ClassId} {sc : zSc} {g : zG} {M : Nat} {S : zS} {as : List Value} {p : Program} {s : State} {m : MethodId} {args : Array Value} {meth : Method} {c : Code} {A : Nat → Prop} {ad : Nat → Nat} {H : Heap} {locs : List Loc}
    (C : zfix p s m args meth c A M D ty ad sc) (P : zpic D ty ad A g S H) (hS : va_S A s.heap H locs) : ∀ U : State, U.heap = H → s.WarmedH U.vm → zPc D ty ad g S H.size as (as.map (zc ad)).toArray U := by
  intro U hU hW
  have hA : ∀ q : Nat, va_A (zW ad ty g S) H.size q → A q := by
    rintro q (⟨j, e1, he⟩ | h)
    · exact P.2.1.2 j (q, e1) he
    · exact C.2.2.2.2.2.2.2.2.1 q (Nat.le_trans hS.1 h)
  refine ⟨rfl, by rw [hU], by rw [hU]; exact ⟨P.1, P.2.1.self, P.2.2⟩, va_K.moved hW.alike C.2.2.2.2.2.2.1, ?_, zAux.warm hW C.2.2.2.2.2.2.2.2.2.2⟩
  rw [hU]
  exact ((C.2.2.2.2.2.2.2.1.kept hS.2.1).narrow hA).moved hW.alike
theorem zrcv_ok {g : zG} {b : Nat} {as : List Value} (h : zrcv g b as = true) : ∃ (c0 : Nat) (as' : List Value), as = .ref c0 :: as' ∧ c0 < g.1 ∧ zK c0 = 0 ∧ zC c0 = b := by
  unfold zrcv at h
  split at h
  · simp only [Bool.and_eq_true, Nat.blt_eq, Nat.beq_eq] at h
    exact ⟨_, _, rfl, h.1.1, h.1.2, h.2⟩
  · cases h
theorem zcallr (F : zfacts) {l : Launch} {D : va_G} {ty : Nat → ClassId} {sc : zSc} {x y x2 : zX} {f : zR → Option zX} {rc r : zR} (h : zdec sc x = some (.inr (.inr (y, f)))) (h2 : f rc = some x2) (hyc : zGo l D ty sc y rc) (hy2 : zGo l D ty sc x2 r)
    (hg : x.1.1 ≤ zNC) (hm1 : x.1.1 ≤ rc.2.1.1) (hm2 : rc.2.1.1 ≤ r.2.1.1) (hr : r.2.1.1 ≤ 74) (hn : zsd x.1 = true → rc.2.1 = x.1) : zGo l D ty sc x r := by
  obtain ⟨g, ⟨M, L⟩, pc, S, lv, st⟩ := x
  obtain ⟨ins, len, a, b, v, hmem, hsh, hcall⟩ := zdec_shape h
  obtain ⟨hd, ho⟩ := F.1 M _ ins len a b v hmem
  obtain ⟨k1, k2, k3, k4, k5, k6, k7, rfl, rfl⟩ := zcall_ok hcall
  dsimp only at hg hm1 hn
  intro p e R s m args below meth c Q A ad H locs ls cells slots C P hS hl hone hR1 hR2 hc hs hend
  dsimp only at C P hl hone hR1 hR2 hc hs hend ⊢
  obtain ⟨as, has⟩ : ∃ as, as = (st.take (zna a)).reverse := ⟨_, rfl⟩
  obtain ⟨rest, hrest⟩ : ∃ rest, rest = st.drop (zna a) := ⟨_, rfl⟩
  rw [← has] at hyc k1 k2 k3 k4 k7
  rw [← hrest] at h2 k5 k6
  have hst : st = as.reverse ++ rest := by rw [has, hrest, List.reverse_reverse, List.take_append_drop]
  have hstm : st.map (zc ad) = (as.map (zc ad)).reverse ++ rest.map (zc ad) := by rw [hst, List.map_append, List.map_reverse]
  have hlen : len = 3 ∧ a < 243 := by
    rcases hsh with ⟨i, rfl, hne⟩ | ⟨i, rfl⟩ | ⟨i, rfl, hne⟩
    · exact ⟨ho.1, ho.2.elim (fun q => absurd q.1 hne.1) (fun q => q.elim (fun q => q.1.elim (fun k => absurd k hne.2.1) (fun k => absurd k hne.2.2)) (fun q => q.1))⟩
    · exact ⟨ho.1, ho.2.1⟩
    · exact ⟨ho.1, ho.2.elim (fun q => absurd q.1 hne) (fun q => q.1)⟩
  obtain ⟨hl3, ha⟩ := hlen
  subst hl3
  obtain ⟨m1, m2, m3, m4, m5, m6, m7, m8, m9, m10, m11, m12, m13, m14, m15⟩ := F.2.1 a ha
  have hM := zmet F (D := D) (ty := ty) (sc := sc) (l := l) (sz := H.size) ad ha hyc k4 (k3.imp id id)
  have hts := C.2.2.2.2.1
  have hG : GoodIn zTs (zws a) := fun w hw => by
    rcases List.mem_cons.mp hw with rfl | hw
    · exact zTs_good _ m4
    · exact zTs_good _ hw
  have hz1 := zSl_mono (c := rc.2.1.1) (d := g.1) hm1 (by omega)
  have hz2 := zSl_mono (c := r.2.1.1) (d := rc.2.1.1) hm2 hr
  have hroom : (zrm g (zlv a as S) rc).frames + 1 ≤ R.frames ∧ 8 + (zml a + 11) + (zrm g (zlv a as S) rc).locals ≤ R.locals := by
    show zlv a as S + 1 ≤ R.frames ∧ 8 + (zml a + 11) + zlv a as S * 60 ≤ R.locals
    omega
  have hfit : cells + (rc.2.1.1 - g.1) ≤ R.cells ∧ slots + (zSl rc.2.1.1 - zSl g.1) ≤ R.slots := by omega
  have hsum := k5
  rw [← zsum_cat ad] at hsum
  have hini := hts _ m5
  have hpre := zPc_of (as := as) C P hS
  have S0 : CallFix p m c (zby M) (zml M) s args zTs (zcn (zow M)) := ⟨C.1, C.2.1, C.2.2.1, C.2.2.2.1, hts⟩
  rw [hstm]
  have cont : ∀ {a' : Array Value}, va_Run p l e R s m args below meth c H locs cells slots (rc.2.1.1 - g.1) (zSl rc.2.1.1 - zSl g.1) (F0 m pc ls ((as.map (zc ad)).reverse ++ rest.map (zc ad))) (rest.map (zc ad)) (zQc D ty ad g (va_A (zW ad ty g S) H.size) rc a') (va_A (zW ad ty g S) H.size) → W p l e R s m args below meth c H locs cells slots Q (F0 m pc ls ((as.map (zc ad)).reverse ++ rest.map (zc ad))) :=
    fun hrun => zcontinue hrun h2 hy2 hg hm1 hm2 hr hn k6 C P hS hl hone hR1 hR2 hc hs hend
  -- the receiver
  have hrcv : zst a = false → ∃ (c0 : Nat) (as' : List Value), as = .ref c0 :: as' ∧ c0 < g.1 ∧ ∃ cellB : Cell, H[ad c0]? = some cellB ∧ cellB.vm.isStatics = false ∧ s.vm.findClass (zmn a).cls = some cellB.cls := by
    intro hstat
    have k2 := k2.resolve_left (by rw [hstat]; exact Bool.false_ne_true)
    obtain ⟨c0, as', hq, j1, j2, j3⟩ := zrcv_ok k2
    · have hc12 := (zt_N c0 (Nat.lt_of_lt_of_le j1 P.2.2.1) j2).1
      refine ⟨c0, as', hq, j1, ?_⟩
      have hq := va_recv (ci := zC c0) (q0 := c0) C.2.2.2.2.2.2.1 P.1 (zt_cl _ hc12) (by rw [zW_get j1, zE_obj j2])
      rw [m2, ← j3]
      exact hq
  rcases hsh with ⟨i, rfl, hne⟩ | ⟨i, rfl⟩ | ⟨i, rfl, hne⟩
  · obtain ⟨-, ho⟩ := ho
    obtain ⟨-, hstat, hlk⟩ := (ho.resolve_left (fun q => hne.1 q.1)).resolve_left (fun q => q.1.elim hne.2.1 hne.2.2)
    rw [hstat] at m3
    have hn1 : (as.map (zc ad)).length = zna a - cond true 0 1 := by rw [List.length_map, k1]; rfl
    rcases hlk with hlk | hlk
    · exact cont (va_runS (As := as.map (zc ad)) (rest := rest.map (zc ad)) S0 hM ⟨callB_of _ hts hG rfl rfl rfl hini (hts _ hlk) m3 hroom, hts _ (m6 hstat)⟩ ⟨zPc_blind, hpre⟩ rfl hn1 hl.1 rfl (lv_room hsum) hd hfit)
    · have hnest : va_Nw (.methodLinkNest (zcn (zow M)) i (zmn a) "HereMiss") s := C.2.2.2.2.2.2.2.2.2.2.2 (zow M, i, a) hlk
      exact cont (va_runSN (As := as.map (zc ad)) (rest := rest.map (zc ad)) S0 hM ⟨va_cnB _ hts hG rfl rfl rfl hnest hini m3 hroom, hts _ (m6 hstat), trivial⟩ ⟨zPc_blind, hpre⟩ rfl hn1 hl.1 rfl (lv_room hsum) hd hfit)
  · obtain ⟨-, -, hstat, hinit, hlk⟩ := ho
    obtain ⟨c0, as', rfl, hc0, hcell⟩ := hrcv hstat
    rw [hstat] at m3
    have hn1 : (as'.map (zc ad)).length = zna a - cond false 0 1 := by rw [List.length_map, ← k1]; rfl
    have hrv := va_runV (e := e) (below := below) (meth := meth) (As := as'.map (zc ad)) (rest := rest.map (zc ad)) (b := ad c0) (C := (zmn a).cls) (g := F0 m pc ls (((Value.ref c0 :: as').map (zc ad)).reverse ++ rest.map (zc ad))) (locs := locs) (cells := cells) (slots := slots) S0 hM ⟨callB_of _ hts hG rfl rfl rfl hini (hts _ hlk) m3 hroom, hts _ (m7 hstat), hts _ (m8 hstat hinit)⟩ ⟨zPc_blind, hcell, hpre⟩ rfl hn1 hl.1 (by simp [zc]) (lv_room hsum) hd hfit
    exact cont hrv
  · obtain ⟨-, ho⟩ := ho
    obtain ⟨-, hstat, hinit, hlk⟩ := ho.resolve_left (fun q => hne q.1)
    obtain ⟨c0, as', rfl, hc0, hcell⟩ := hrcv hstat
    rw [hstat] at m3
    have hn1 : (as'.map (zc ad)).length = zna a - cond false 0 1 := by rw [List.length_map, ← k1]; rfl
    obtain ⟨hname, hrk⟩ := m9 hinit
    have hret := m10 hrk
    have hwe : zws a = Cond.code (zmn a) (zby a) (zml a) none :: zTs := by show Cond.code (zmn a) (zby a) (zml a) (zrt a) :: zTs = _; rw [hret]
    rcases hlk with hlk | hlk
    · have hrv := va_runI (e := e) (below := below) (meth := meth) (As := as'.map (zc ad)) (rest := rest.map (zc ad)) (b := ad c0) (g := F0 m pc ls (((Value.ref c0 :: as').map (zc ad)).reverse ++ rest.map (zc ad))) (locs := locs) (cells := cells) (slots := slots) S0 hM ⟨callB_of _ hts hG hwe rfl rfl hini (hts _ hlk) m3 hroom, hname, hts _ (m7 hstat)⟩ ⟨zPc_blind, hpre⟩ rfl hn1 hl.1 (by simp [zc]) (lv_room hsum) hd hfit
      exact cont hrv
    · have hnest : va_Nw (.methodLinkNest (zcn (zow M)) i (zmn a) "HereMiss") s := C.2.2.2.2.2.2.2.2.2.2.2 (zow M, i, a) hlk
      have hrv := va_runIN (e := e) (below := below) (meth := meth) (As := as'.map (zc ad)) (rest := rest.map (zc ad)) (b := ad c0) (g := F0 m pc ls (((Value.ref c0 :: as').map (zc ad)).reverse ++ rest.map (zc ad))) (locs := locs) (cells := cells) (slots := slots) S0 hM ⟨va_cnB _ hts hG hwe rfl rfl hnest hini m3 hroom, hname, hts _ (m7 hstat)⟩ ⟨zPc_blind, hpre⟩ rfl hn1 hl.1 (by simp [zc]) (lv_room hsum) hd hfit
      exact cont hrv
/-- EVERY RUN OF THE SMALL MACHINE IS ONE OF THE REAL MACHINE -/
theorem zsound (F : zfacts) {l : Launch} {D : va_G} {ty : Nat → ClassId} {sc : zSc} (n : Nat) : ∀ {x : zX} {r : zR}, zrun sc n x = some r → x.1.1 ≤ zNC → zGo l D ty sc x r := by
  induction n with
  | zero => intro x r h; cases h
  | succ n ih =>
    intro x r h hx
    have hmono := zrun_mono (n + 1) h hx
    rw [zrun] at h
    split at h
    · cases h
    · rename_i y hd
      obtain ⟨g, ⟨M, L⟩, pc, S, lv, st⟩ := x
      obtain ⟨ins, len, a, b, v, -, h1, h2, h3, h4⟩ := zdec_shape hd
      dsimp only at hx h2 h4
      have hy : y.1.1 ≤ zNC := by omega
      have hm := zrun_mono n h hy
      exact zstep F hd (ih h hy) hm.1 hm.2.1
    · rename_i q hd
      cases h
      exact zretr F hd
    · rename_i y f hd
      obtain ⟨q, hq, h5⟩ := Option.bind_eq_some_iff.mp h
      obtain ⟨x2, hx2, h6⟩ := Option.bind_eq_some_iff.mp h5
      obtain ⟨g, ⟨M, L⟩, pc, S, lv, st⟩ := x
      obtain ⟨ins, len, a, b, v, -, -, h1⟩ := zdec_shape hd
      obtain ⟨-, -, -, -, -, -, -, rfl, rfl⟩ := zcall_ok h1
      have hm1 := zrun_mono n hq hx
      have hg : x2.1 = cond (zsd g) g q.2.1 := by
        unfold zres at hx2
        split at hx2 <;> split at hx2 <;> cases hx2 <;> rfl
      have hg2 : x2.1 = q.2.1 := by
        rw [hg]
        cases hb : zsd g with
        | true => exact (hm1.2.2 hb).symm
        | false => rfl
      have hx2n : x2.1.1 ≤ zNC := by rw [hg2]; exact hm1.2.1
      have hm2 := zrun_mono n h6 hx2n
      rw [hg2] at hm2
      exact zcallr F hd hx2 (ih hq hx) (ih h6 hx2n) hx hm1.1 hm2.1 hm2.2.1 hm1.2.2
