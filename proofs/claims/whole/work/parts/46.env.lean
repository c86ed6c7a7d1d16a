/-! ===== a call depends on what it looks at alone ===== -/
theorem khelp_cg {bo fr bo' fr' : Nat → Nat} {th th' : Nat → Nat → Bool} {K : zkS} {n p : Nat} (h : ∀ q, q < n → bo q = bo' q ∧ fr q = fr' q ∧ ∀ t, th q t = th' q t) : ∀ k q, q + k = n → khelp bo fr th K p k q = khelp bo' fr' th' K p k q
  | 0, q, _ => rfl
  | k + 1, q, e => by
    obtain ⟨a, b, c⟩ := h q (by omega)
    unfold khelp
    rw [a, b, c, khelp_cg h k (q + 1) (by omega)]
theorem kcl_cg {n lk : Nat} {ord ord' bo fr bo' fr' : Nat → Nat} {th th' : Nat → Nat → Bool} {T : Nat → Nat → Nat → Nat → Nat} (ho : ∀ i, i < n → ord i < n ∧ ord i = ord' i) (h : ∀ q, q < n → bo q = bo' q ∧ fr q = fr' q ∧ ∀ t, th q t = th' q t) : ∀ m, m ≤ n → kcl n ord bo fr th lk T m = kcl n ord' bo' fr' th' lk T m
  | 0, _ => rfl
  | m + 1, hm => by
    obtain ⟨a, b⟩ := ho m (by omega)
    show kst n ord bo fr th lk T (kcl n ord bo fr th lk T m) m = kst n ord' bo' fr' th' lk T (kcl n ord' bo' fr' th' lk T m) m
    rw [kcl_cg ho h m (by omega)]
    unfold kst
    rw [khelp_cg h n 0 (by omega), (h (ord m) a).2.2, b]
/-- like but for how bold, whose friend and how late -/
abbrev zQP (Q P : Nat → Nat → Nat) : Prop := ∀ p w, w ≠ 3 → w ≠ 4 → w ≠ 7 → Q p w = P p w
theorem zQP_rfl (P : Nat → Nat → Nat) : zQP P P := fun _ _ _ _ _ => rfl
theorem zQP_key {Q P : Nat → Nat → Nat} (h : zQP Q P) (way : Nat) : ykey Q way = ykey P way := by
  funext p
  unfold ykey
  rw [h p 0 (by omega) (by omega) (by omega), h p 2 (by omega) (by omega) (by omega)]
theorem zQP_ow {Q P : Nat → Nat → Nat} (h : zQP Q P) (n way : Nat) : zowy Q n way = zowy P n way := by
  funext i
  show od (ykey Q way) n i = od (ykey P way) n i
  rw [zQP_key h]
theorem zQP_sl {Q P : Nat → Nat → Nat} (h : zQP Q P) : zslw Q = zslw P := funext (fun q => h q 1 (by omega) (by omega) (by omega))
theorem zQP_hf {Q P : Nat → Nat → Nat} (h : zQP Q P) (l : Nat) : yhf Q l = yhf P l := by
  funext p
  unfold yhf
  rw [h p 5 (by omega) (by omega) (by omega), h p 6 (by omega) (by omega) (by omega)]
/-! ===== what the class stands on, between calls ===== -/
abbrev zCE (n : Nat) (P : Nat → Nat → Nat) (cs : List Int32) (gap ver : Nat) (S : zS) : Prop :=
  zPC n P S ∧ zPR n P ∧ S.1 2 64 = nI gap ∧ zCD cs S ∧ (S.1 6 7 = S.1 1 2 → zCL cs (zslw P) gap n (zowy P n) S) ∧ S.1 1 2 = nI ver ∧ ver < 2147483648 ∧ (S.1 6 7 = -1 ∨ ∃ k, k ≤ ver ∧ S.1 6 7 = nI k)
abbrev zkC : Nat → Nat → Bool := zk [8, 9, 10, 11, 12, 13, 14, 15, 16, 17, 18, 19, 20, 21, 22] [(6, 7)]
abbrev zkMq : Nat → Nat → Bool := zk [59, 60, 61, 62, 63] [(51, 12), (51, 13), (51, 14), (51, 15), (51, 16), (51, 21), (51, 22), (51, 23), (51, 24), (51, 25)]
/-- ready to call by a way -/
abbrev zRY (n way : Nat) (P Q : Nat → Nat → Nat) (cs : List Int32) (gap ver : Nat) (S : zS) : Prop :=
  zCE n P cs gap ver S ∧ (zCL cs (zslw P) gap n (zowy P n) S ∧ S.1 6 7 = S.1 1 2) ∧ S.1 12 9 = nI way ∧ way < 3 ∧ zQP Q P ∧ zPR n Q ∧ ∀ q, q < n → S.1 14 q = nI (Q q 3) ∧ S.1 15 q = nI (Q q 4) ∧ S.1 13 q = nI (zowy P n way q)
theorem zCD_cg {cs : List Int32} {S S' : zS} (h : zCD cs S) (f6 : S'.1 6 2 = S.1 6 2) (f7 : ∀ j, S'.1 7 j = S.1 7 j) : zCD cs S' := ⟨f6.trans h.1, h.2.1, xcd_cg f7 cs 0 h.2.2.1, h.2.2.2⟩
/-- the scratch cells that are not the law's -/
abbrev zkCs : Nat → Nat → Bool := zk [9, 12, 13, 14, 15, 16, 17, 18, 19, 20, 21, 22] []
theorem zCE_mk {n : Nat} {P : Nat → Nat → Nat} {cs : List Int32} {gap ver : Nat} {S S' : zS} (h : zCE n P cs gap ver S) (f : zfr zkC S S') (hC : zCL cs (zslw P) gap n (zowy P n) S') (hk : S'.1 6 7 = S.1 1 2) : zCE n P cs gap ver S' :=
  ⟨zPC_cg h.1 (f.1 1 1 rfl) (fun j => f.1 2 j rfl), h.2.1, (f.1 2 64 rfl).trans h.2.2.1, zCD_cg h.2.2.2.1 (f.1 6 2 rfl) (fun j => f.1 7 j rfl), fun _ => hC, (f.1 1 2 rfl).trans h.2.2.2.2.2.1, h.2.2.2.2.2.2.1, Or.inr ⟨ver, Nat.le_refl _, hk.trans h.2.2.2.2.2.1⟩⟩
theorem zCE_cg {n : Nat} {P : Nat → Nat → Nat} {cs : List Int32} {gap ver : Nat} {S S' : zS} (h : zCE n P cs gap ver S) (f : zfr zkCs S S') : zCE n P cs gap ver S' := by
  refine ⟨zPC_cg h.1 (f.1 1 1 rfl) (fun j => f.1 2 j rfl), h.2.1, (f.1 2 64 rfl).trans h.2.2.1, zCD_cg h.2.2.2.1 (f.1 6 2 rfl) (fun j => f.1 7 j rfl), fun e => ?_, (f.1 1 2 rfl).trans h.2.2.2.2.2.1, h.2.2.2.2.2.2.1, ?_⟩
  · rw [f.1 6 7 rfl, f.1 1 2 rfl] at e
    exact zCL_cg (h.2.2.2.2.1 e) (f.1 6 2 rfl) (fun j => f.1 7 j rfl) (f.1 8 1 rfl) (fun j => f.1 10 j rfl) (fun j => f.1 11 j rfl)
  · rw [f.1 6 7 rfl]; exact h.2.2.2.2.2.2.2
theorem zRY_up {n way : Nat} {P Q : Nat → Nat → Nat} {cs : List Int32} {gap ver : Nat} {S S' : zS} (h : zRY n way P Q cs gap ver S) (f : zfr (zk [9, 16, 17, 18, 19, 20, 21, 22] [(12, 10), (12, 11), (12, 12), (12, 13), (12, 14), (12, 15), (12, 16)]) S S') : zRY n way P Q cs gap ver S' :=
  ⟨zCE_cg h.1 (zfr_up _ _ f rfl), ⟨zCL_cg h.2.1.1 (f.1 6 2 rfl) (fun j => f.1 7 j rfl) (f.1 8 1 rfl) (fun j => f.1 10 j rfl) (fun j => f.1 11 j rfl), by rw [f.1 6 7 rfl, f.1 1 2 rfl]; exact h.2.1.2⟩, (f.1 12 9 rfl).trans h.2.2.1, h.2.2.2.1, h.2.2.2.2.1, h.2.2.2.2.2.1, fun q k => by
    rw [f.1 13 q rfl, f.1 14 q rfl, f.1 15 q rfl]; exact h.2.2.2.2.2.2 q k⟩
theorem c_load (sc : zSc) {n : Nat} {P : Nat → Nat → Nat} {cs : List Int32} {gap ver way : Nat} {S : zS} (h : zCE n P cs gap ver S) (hw : way < 3) :
    ∃ S', zcV sc zm_X0_load [.ref 12, .int (nI way)] S = some S' ∧ zRY n way P P cs gap ver S' ∧ zfr zkC S S' := by
  obtain ⟨S', a1, a2, a3, a4, a5⟩ := s_load sc h.1 h.2.1 h.2.2.1 h.2.2.2.1 h.2.2.2.2.1 hw
  have f : zfr zkC S S' := zfr_up _ _ a5 rfl
  exact ⟨S', a1, ⟨zCE_mk h f a2 a3, ⟨a2, by rw [a3, f.1 1 2 rfl]⟩, a4.1, hw, zQP_rfl P, h.2.1, fun q k => a4.2 q k⟩, f⟩
theorem c_inLesson (sc : zSc) {n way : Nat} {P Q : Nat → Nat → Nat} {cs : List Int32} {gap ver l : Nat} {S : zS} (h : zRY n way P Q cs gap ver S) (hl : l < 10) :
    ∃ S', zcV sc zm_X0_inLesson [.ref 12, .int (nI l)] S = some S' ∧ zRY n way P Q cs gap ver S' ∧ S'.1 12 11 = nI (hmk (yhf P l) n) ∧ (∀ q, q < n → S'.1 16 q = nI (P q 7)) ∧ zfr zkC S S' := by
  obtain ⟨S', a1, a2, a3, a4⟩ := s_inLesson sc h.1.1 h.1.2.1 hl
  exact ⟨S', a1, zRY_up h (zfr_up _ _ a4 rfl), a2, a3, zfr_up _ _ a4 rfl⟩
theorem c_withOnly (sc : zSc) {n way : Nat} {P Q : Nat → Nat → Nat} {cs : List Int32} {gap ver : Nat} {S : zS} (h : zRY n way P Q cs gap ver S) (m : Nat) :
    ∃ S', zcV sc zm_X0_withOnly [.ref 12, .int (nI m)] S = some S' ∧ zRY n way P Q cs gap ver S' ∧ S'.1 12 11 = nI m ∧ (∀ q, q < n → S'.1 16 q = nI 0) ∧ zfr zkC S S' := by
  obtain ⟨S', a1, a2, a3, a4⟩ := s_withOnly sc S m
  have := h.1.1.2.1
  exact ⟨S', a1, zRY_up h (zfr_up _ _ a4 rfl), a2, fun q k => a3 q (by omega), zfr_up _ _ a4 rfl⟩
theorem c_make (sc : zSc) {n way : Nat} {P Q : Nat → Nat → Nat} {cs : List Int32} {gap ver he lk l : Nat} {la : Nat → Nat} {o : Option Nat} {S : zS} (h : zRY n way P Q cs gap ver S) (hhe : he < 256) (h11 : S.1 12 11 = nI he) (h16 : ∀ q, q < n → S.1 16 q = nI (la q) ∧ la q ≤ 999) (hlk : lk < 256) (hth : ∀ p, p < n → ∀ t, zth he la p t = thM o Q l p t) :
    ∃ S', zcV sc zm_X0_make [.ref 12, .int (nI lk)] S = some S' ∧ zRX n (kcm n Q cs gap o l way lk n) S' ∧ zRY n way P Q cs gap ver S' ∧ S'.1 12 11 = nI he ∧ (∀ q, q < n → S'.1 16 q = nI (la q)) ∧ zfr zkC S S' ∧ zfr (zk [8, 9, 11, 17, 18, 19] [(12, 10), (12, 12), (12, 13), (12, 14), (12, 15), (12, 16)]) S S' := by
  obtain ⟨r1, r2, r3, r4, r5, r6, r7⟩ := h
  have hn := r1.1.2.1
  have hor : ∀ i, i < n → zowy P n way i < n := fun i k => od_lt (ykey P way) k
  obtain ⟨S', a1, a2, a3, a4⟩ := s_make sc (S := S) (n := n) (way := way) (bo := fun q => Q q 3) (fr := fun q => Q q 4) (la := la) (he := he) (lk := lk) (cs := cs) (sl := zslw P) (gap := gap) (P := P)
    ⟨hn, r4, hhe, hlk, fun q k => ⟨hor q k, (r6 q k).2.2.2.2.1, by have := (r6 q k).2.2.2.2.2.1; show Q q 4 < 256; omega, (h16 q k).2⟩⟩
    ⟨r1.1.1, r3, h11, fun q k => ⟨(r7 q k).2.2, (r7 q k).1, (r7 q k).2.1, (h16 q k).1⟩⟩ r2.1
  have ek : kcl n (zowy P n way) (fun q => Q q 3) (fun q => Q q 4) (zth he la) lk (ttv cs (zslw P) gap way) n = kcm n Q cs gap o l way lk n := by
    show _ = kcl n (zowy Q n way) (fun p => Q p 3) (fun p => Q p 4) (thM o Q l) lk (ttv cs (zslw Q) gap way) n
    rw [zQP_ow r5, zQP_sl r5]
    exact kcl_cg (fun i k => ⟨hor i k, rfl⟩) (fun q k => ⟨rfl, rfl, hth q k⟩) n (Nat.le_refl _)
  rw [ek] at a2
  have f : zfr zkC S S' := zfr_up _ _ a4 rfl
  refine ⟨S', a1, a2, ⟨zCE_mk r1 f a3 ?_, ⟨a3, ?_⟩, (a4.1 12 9 rfl).trans r3, r4, r5, r6, fun q k => ?_⟩, (a4.1 12 11 rfl).trans h11, fun q k => (a4.1 16 q rfl).trans (h16 q k).1, f, a4⟩
  · rw [a4.1 6 7 rfl]; exact r2.2
  · rw [a4.1 6 7 rfl, a4.1 1 2 rfl]; exact r2.2
  · rw [a4.1 13 q rfl, a4.1 14 q rfl, a4.1 15 q rfl]; exact r7 q k
