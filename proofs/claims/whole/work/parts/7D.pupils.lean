/-! ===== pupils from a row ===== -/
abbrev zV1C (n : Nat) (P : Nat → Nat → Nat) (cs : List Int32) (gap cn ver : Nat) (S : zS) : Prop :=
  zCE n P cs gap ver S ∧ S.1 2 65 = nI cn ∧ ∀ p w, n ≤ p → p < 8 → (w = 3 ∨ w = 4 ∨ w = 5 ∨ w = 7) → S.1 2 (8 * p + w) = 0
abbrev zV1M (n : Nat) (P : Nat → Nat → Nat) (cs : List Int32) (gap cn : Nat) (S : zS) : Prop := zME n P cs gap none S ∧ S.1 52 65 = nI cn
theorem zV1C_add {n : Nat} {P : Nat → Nat → Nat} {cs : List Int32} {gap cn ver : Nat} {S S' : zS} (h : zV1C n P cs gap cn ver S) {a b wh : Nat} (h8 : n < 8) (ha : a ≤ 99) (hb1 : 1 ≤ b) (hb : b ≤ 99) (hwh : wh ≤ 16) (hver : ver + 4 < 2147483648)
    (g11 : S'.1 1 1 = nI (n + 1)) (g12 : S'.1 1 2 = nI (ver + 4)) (g2 : ∀ j, S'.1 2 j = if j = 8 * n + 6 then 9 else if j = 8 * n + 2 then zwho wh else if j = 8 * n + 1 then nI b else if j = 8 * n then nI a else S.1 2 j)
    (g67 : S'.1 6 7 = S.1 6 7) (g62 : S'.1 6 2 = S.1 6 2) (g7 : ∀ j, S'.1 7 j = S.1 7 j) : zV1C (n + 1) (zQa P n a b wh) cs gap cn (ver + 4) S' := by
  have z := h.2.2
  refine ⟨⟨⟨g11, by omega, fun q u hq hu => ?_⟩, fun q hq => ?_, ?_, zCD_cg h.1.2.2.2.1 g62 g7, fun e => ?_, g12, hver, ?_⟩, ?_, fun q u h1 h2 h3 => ?_⟩
  · rw [g2]
    by_cases c : q = n
    · subst c
      rcases (by omega : u = 0 ∨ u = 1 ∨ u = 2 ∨ u = 3 ∨ u = 4 ∨ u = 5 ∨ u = 6 ∨ u = 7) with rfl | rfl | rfl | rfl | rfl | rfl | rfl | rfl
      · rw [if_neg (by omega), if_neg (by omega), if_neg (by omega), if_pos (by omega)]; simp [zQa, zpv]
      · rw [if_neg (by omega), if_neg (by omega), if_pos (by omega)]; simp [zQa, zpv]
      · rw [if_neg (by omega), if_pos (by omega)]; simp [zQa, zpv]
      · rw [if_neg (by omega), if_neg (by omega), if_neg (by omega), if_neg (by omega), z _ _ (by omega) h8 (by omega)]; simp [zQa, zpv]; rfl
      · rw [if_neg (by omega), if_neg (by omega), if_neg (by omega), if_neg (by omega), z _ _ (by omega) h8 (by omega)]; simp [zQa, zpv]; rfl
      · rw [if_neg (by omega), if_neg (by omega), if_neg (by omega), if_neg (by omega), z _ _ (by omega) h8 (by omega)]; simp [zQa, zpv]; rfl
      · rw [if_pos (by omega)]; simp [zQa, zpv]; rfl
      · rw [if_neg (by omega), if_neg (by omega), if_neg (by omega), if_neg (by omega), z _ _ (by omega) h8 (by omega)]; simp [zQa, zpv]; rfl
    · rw [if_neg (by omega), if_neg (by omega), if_neg (by omega), if_neg (by omega)]
      unfold zQa
      rw [if_neg c]; exact h.1.1.2.2 q u (by omega) hu
  · by_cases c : q = n
    · subst c
      simp [zQa]; omega
    · have k : ∀ u, zQa P n a b wh q u = P q u := fun u => if_neg c
      rw [k, k, k, k, k, k, k, k]
      exact h.1.2.1 q (by omega)
  · rw [g2, if_neg (by omega), if_neg (by omega), if_neg (by omega), if_neg (by omega)]; exact h.1.2.2.1
  · exfalso
    rw [g67, g12] at e
    rcases h.1.2.2.2.2.2.2.2 with k | ⟨x, k1, k2⟩
    · rw [k] at e; exact nI_m1 hver e.symm
    · rw [k2, n_eq (by omega) hver] at e; omega
  · rw [g67]
    rcases h.1.2.2.2.2.2.2.2 with k | ⟨x, k1, k2⟩
    · exact Or.inl k
    · exact Or.inr ⟨x, by omega, k2⟩
  · rw [g2, if_neg (by omega), if_neg (by omega), if_neg (by omega), if_neg (by omega)]; exact h.2.1
  · rw [g2, if_neg (by omega), if_neg (by omega), if_neg (by omega), if_neg (by omega)]; exact z q u (by omega) h2 h3
theorem zV1M_add {n : Nat} {P : Nat → Nat → Nat} {cs : List Int32} {gap cn : Nat} {S S' : zS} (h : zV1M n P cs gap cn S) {a b wh : Nat} (h8 : n < 8)
    (g52 : ∀ j, S'.1 52 j = if j = 56 + n then 0 else if j = 48 + n then 9 else if j = 40 + n then 0 else if j = 32 + n then 0 else if j = 24 + n then 0 else if j = 16 + n then zwho wh else if j = 8 + n then nI b else if j = n then nI a else S.1 52 j)
    (g516 : S'.1 51 6 = nI (n + 1)) (g5111 : S'.1 51 11 = S.1 51 11) (g58 : ∀ j, S'.1 58 j = S.1 58 j) (g5118 : S'.1 51 18 = S.1 51 18) : zV1M (n + 1) (zQa P n a b wh) cs gap cn S' := by
  refine ⟨⟨⟨g516, by omega, fun q u hq hu => ?_⟩, ?_, zTX_cg h.1.2.2.1 g5111 g58, zTD_cg h.1.2.2.2 g5118⟩, ?_⟩
  · rw [g52]
    by_cases c : q = n
    · subst c
      rcases (by omega : u = 0 ∨ u = 1 ∨ u = 2 ∨ u = 3 ∨ u = 4 ∨ u = 5 ∨ u = 6 ∨ u = 7) with rfl | rfl | rfl | rfl | rfl | rfl | rfl | rfl
      · rw [if_neg (by omega), if_neg (by omega), if_neg (by omega), if_neg (by omega), if_neg (by omega), if_neg (by omega), if_neg (by omega), if_pos (by omega)]; simp [zQa, zpv]
      · rw [if_neg (by omega), if_neg (by omega), if_neg (by omega), if_neg (by omega), if_neg (by omega), if_neg (by omega), if_pos (by omega)]; simp [zQa, zpv]
      · rw [if_neg (by omega), if_neg (by omega), if_neg (by omega), if_neg (by omega), if_neg (by omega), if_pos (by omega)]; simp [zQa, zpv]
      · rw [if_neg (by omega), if_neg (by omega), if_neg (by omega), if_neg (by omega), if_pos (by omega)]; simp [zQa, zpv]; rfl
      · rw [if_neg (by omega), if_neg (by omega), if_neg (by omega), if_pos (by omega)]; simp [zQa, zpv]; rfl
      · rw [if_neg (by omega), if_neg (by omega), if_pos (by omega)]; simp [zQa, zpv]; rfl
      · rw [if_neg (by omega), if_pos (by omega)]; simp [zQa, zpv]; rfl
      · rw [if_pos (by omega)]; simp [zQa, zpv]; rfl
    · rw [if_neg (by omega), if_neg (by omega), if_neg (by omega), if_neg (by omega), if_neg (by omega), if_neg (by omega), if_neg (by omega), if_neg (by omega)]
      unfold zQa
      rw [if_neg c]; exact h.1.1.2.2 q u (by omega) hu
  · rw [g52, if_neg (by omega), if_neg (by omega), if_neg (by omega), if_neg (by omega), if_neg (by omega), if_neg (by omega), if_neg (by omega), if_neg (by omega)]; exact h.1.2.1
  · rw [g52, if_neg (by omega), if_neg (by omega), if_neg (by omega), if_neg (by omega), if_neg (by omega), if_neg (by omega), if_neg (by omega), if_neg (by omega)]; exact h.2
def padC (S : zS) (n ver : Nat) (a1 a2 a3 : Int32) : zS := zw1 (zw1 (zw1 (zw1 (zw1 (zw1 (zw1 (zw1 (zw1 S 1 1 (nI (n + 1))) 2 (8 * n) a1) 1 2 (nI (ver + 1))) 2 (8 * n + 1) a2) 1 2 (nI (ver + 2))) 2 (8 * n + 2) a3) 1 2 (nI (ver + 3))) 2 (8 * n + 6) 9) 1 2 (nI (ver + 4))
def padM (S : zS) (n : Nat) (a1 a2 a3 : Int32) : zS := zw1 (zw1 (zw1 (zw1 (zw1 (zw1 (zw1 (zw1 (zw1 (zw1 S 52 n a1) 52 (8 + n) a2) 52 (16 + n) a3) 52 (24 + n) 0) 52 (32 + n) 0) 52 (40 + n) 0) 52 (48 + n) 9) 52 (56 + n) 0) 56 n 0) 51 6 (nI (n + 1))
theorem padC_f (S : zS) (n ver : Nat) (a1 a2 a3 : Int32) : zfr (zk [2] [(1, 1), (1, 2)]) S (padC S n ver a1 a2 a3) :=
  zfr_w (zfr_w (zfr_w (zfr_w (zfr_w (zfr_w (zfr_w (zfr_w (zfr_w0 1 1 _ rfl) 2 _ _ rfl) 1 2 _ rfl) 2 _ _ rfl) 1 2 _ rfl) 2 _ _ rfl) 1 2 _ rfl) 2 _ _ rfl) 1 2 _ rfl
theorem padM_f (S : zS) (n : Nat) (a1 a2 a3 : Int32) : zfr (zk [52, 56] [(51, 6)]) S (padM S n a1 a2 a3) :=
  zfr_w (zfr_w (zfr_w (zfr_w (zfr_w (zfr_w (zfr_w (zfr_w (zfr_w (zfr_w0 52 _ _ rfl) 52 _ _ rfl) 52 _ _ rfl) 52 _ _ rfl) 52 _ _ rfl) 52 _ _ rfl) 52 _ _ rfl) 52 _ _ rfl) 56 _ _ rfl) 51 6 _ rfl
theorem padC_11 (S : zS) (n ver : Nat) (a1 a2 a3 : Int32) : (padC S n ver a1 a2 a3).1 1 1 = nI (n + 1) := by unfold padC; simp only [zw1_r]; simp
theorem padC_12 (S : zS) (n ver : Nat) (a1 a2 a3 : Int32) : (padC S n ver a1 a2 a3).1 1 2 = nI (ver + 4) := by unfold padC; rw [zw1_y]
theorem padC_2 (S : zS) (n ver : Nat) (a1 a2 a3 : Int32) (j : Nat) : (padC S n ver a1 a2 a3).1 2 j = if j = 8 * n + 6 then 9 else if j = 8 * n + 2 then a3 else if j = 8 * n + 1 then a2 else if j = 8 * n then a1 else S.1 2 j := by unfold padC; simp only [zw1_r]; simp
theorem padM_6 (S : zS) (n : Nat) (a1 a2 a3 : Int32) : (padM S n a1 a2 a3).1 51 6 = nI (n + 1) := by unfold padM; rw [zw1_y]
theorem padM_52 (S : zS) (n : Nat) (a1 a2 a3 : Int32) (j : Nat) : (padM S n a1 a2 a3).1 52 j = if j = 56 + n then 0 else if j = 48 + n then 9 else if j = 40 + n then 0 else if j = 32 + n then 0 else if j = 24 + n then 0 else if j = 16 + n then a3 else if j = 8 + n then a2 else if j = n then a1 else S.1 52 j := by unfold padM; simp only [zw1_r]; simp
theorem padM_56 (S : zS) (n : Nat) (a1 a2 a3 : Int32) (j : Nat) : (padM S n a1 a2 a3).1 56 j = if j = n then 0 else S.1 56 j := by unfold padM; simp only [zw1_r]; simp
theorem fit0 {x : Int32} (h : fitI 0 x) : x = nI x.toInt.toNat ∧ x.toInt.toNat ≤ 99 := by
  have h1 : 0 ≤ x.toInt := h.1
  have h2 : x.toInt ≤ 99 := h.2
  refine ⟨?_, by omega⟩
  rw [zi_eq, zi_nI (by omega)]; omega
theorem fit1 {x : Int32} (h : fitI 1 x) : x = nI x.toInt.toNat ∧ 1 ≤ x.toInt.toNat ∧ x.toInt.toNat ≤ 99 := by
  have h1 : 1 ≤ x.toInt := h.1
  have h2 : x.toInt ≤ 99 := h.2
  refine ⟨?_, by omega, by omega⟩
  rw [zi_eq, zi_nI (by omega)]; omega
theorem fit2 {x : Int32} (h : fitI 2 x) : x = zwho (x.toInt + 1).toNat ∧ (x.toInt + 1).toNat ≤ 16 := by
  have h1 : -1 ≤ x.toInt := h.1
  have h2 : x.toInt ≤ 15 := h.2
  refine ⟨?_, by omega⟩
  by_cases z : x.toInt = -1
  · rw [z, show (-1 + 1 : Int).toNat = 0 from rfl, zwho0, zi_eq, z]; rfl
  · obtain ⟨j, hj, rfl⟩ := zi_of (x := x) (by omega)
    rw [zi_nI hj, show ((j : Int) + 1).toNat = j + 1 by omega, zwhoS]
def pe (e : Nat → Int64) (i c j : Nat) : Int32 := (e (i + 3 * c + j)).toInt32
abbrev pF (e : Nat → Int64) (i c : Nat) : Prop := fitI 0 (pe e i c 0) ∧ fitI 1 (pe e i c 1) ∧ fitI 2 (pe e i c 2)
abbrev pOk (e : Nat → Int64) (i m n c : Nat) : Prop := i + 3 * c + 3 ≤ m ∧ n + c < 8 ∧ pF e i c
def pCnt (e : Nat → Int64) (i m n : Nat) : Nat → Nat → Nat
  | 0, c => c
  | f + 1, c => if pOk e i m n c then pCnt e i m n f (c + 1) else c
def pQ (e : Nat → Int64) (i n : Nat) (P : Nat → Nat → Nat) : Nat → Nat → Nat → Nat
  | 0 => P
  | c + 1 => zQa (pQ e i n P c) (n + c) (pe e i c 0).toInt.toNat (pe e i c 1).toInt.toNat ((pe e i c 2).toInt + 1).toNat
theorem pCnt_le (e : Nat → Int64) (i m n : Nat) : ∀ f c, n + c ≤ 8 → c ≤ pCnt e i m n f c ∧ pCnt e i m n f c ≤ f + c ∧ n + pCnt e i m n f c ≤ 8
  | 0, c, h => ⟨Nat.le_refl _, by show c ≤ 0 + c; omega, h⟩
  | f + 1, c, h => by
    have e1 : pCnt e i m n (f + 1) c = if pOk e i m n c then pCnt e i m n f (c + 1) else c := rfl
    rw [e1]
    by_cases k : pOk e i m n c
    · have := pCnt_le e i m n f (c + 1) (by have := k.2.1; omega)
      rw [if_pos k]; omega
    · rw [if_neg k]; omega
theorem g_getI (sc : zSc) {S : zS} {d m p : Nat} (hd : d < 6) (h : S.1 (39 + 2 * d) 2 = nI m) (hm : m ≤ 60) (hp : p < m) : zcL sc zm_X6_get [.ref (39 + 2 * d), .int (nI p)] S = some (S.2 (40 + 2 * d) p, S) := by
  rw [g_get sc S (nI p) hd, g_hasI sc hd h hm, Option.bind_some]
  dsimp only
  rw [zb_t (by rw [z1i, zi_nI (by omega)]; omega), if_neg (by decide), if_neg (by first | (rw [n_ob (by omega)]; omega) | (rw [n_obb (by omega)]; omega)), n_cl (by omega)]
theorem c_comes (sc : zSc) {S : zS} {d m p n ver : Nat} (hd : d < 6) (h : S.1 (39 + 2 * d) 2 = nI m) (hm : m ≤ 60) (hp : p + 3 ≤ m) (hn : n ≤ 8) (h11 : S.1 1 1 = nI n) (h12 : S.1 1 2 = nI ver) {x0 x1 x2 : Int32} (e0 : (S.2 (40 + 2 * d) p).toInt32 = x0) (e1 : (S.2 (40 + 2 * d) (p + 1)).toInt32 = x1) (e2 : (S.2 (40 + 2 * d) (p + 2)).toInt32 = x2) :
    (¬ (n < 8 ∧ fitI 0 x0 ∧ fitI 1 x1 ∧ fitI 2 x2) → zcI sc zm_X10_comesFrom [.ref 0, .ref (39 + 2 * d), .int (nI p)] S = some (0, S)) ∧ ((n < 8 ∧ fitI 0 x0 ∧ fitI 1 x1 ∧ fitI 2 x2) → zcI sc zm_X10_comesFrom [.ref 0, .ref (39 + 2 * d), .int (nI p)] S = some (1, padC S n ver x0 x1 x2)) := by
  have k01 : ¬ ((1 : Int32) = 0) := by decide
  have s0 : zcI sc zm_X4_fits [.int (0 : Int32), .int x0] S = some (zb (fitI 0 x0), S) := s_fitsN (w := 0) sc S (by omega) x0
  have s1 : zcI sc zm_X4_fits [.int (1 : Int32), .int x1] S = some (zb (fitI 1 x1), S) := s_fitsN (w := 1) sc S (by omega) x1
  have s2 : zcI sc zm_X4_fits [.int (2 : Int32), .int x2] S = some (zb (fitI 2 x2), S) := s_fitsN (w := 2) sc S (by omega) x2
  have hC : zcI sc zm_X10_comesFrom [.ref 0, .ref (39 + 2 * d), .int (nI p)] S = (if zb (fitI 0 x0) = 0 then some ((0 : Int32), S) else (if zb (fitI 1 x1) = 0 then some ((0 : Int32), S) else (if zb (fitI 2 x2) = 0 then some ((0 : Int32), S) else ((zcI sc zm_X4_add [.ref 1, .int x0, .int x1, .int x2] S).bind (fun q7 => (if q7.1 < 0 then some ((0 : Int32), q7.2) else some ((1 : Int32), q7.2))))))) := by
    have p1 : nI p + (1 : Int32) = nI (p + 1) := n_s1 p
    have p2 : nI p + (2 : Int32) = nI (p + 2) := zn_add p 2
    rw [g_comesFrom sc S (nI p) hd, p1, p2, g_getI sc hd h hm (p := p) (by omega), Option.bind_some]
    dsimp only
    rw [g_getI sc hd h hm (p := p + 1) (by omega), Option.bind_some]
    dsimp only
    rw [g_getI sc hd h hm (p := p + 2) (by omega), Option.bind_some]
    dsimp only
    rw [e0, e1, e2, s0, Option.bind_some]
    dsimp only
    rw [s1, Option.bind_some]
    dsimp only
    rw [s2, Option.bind_some]
  rw [hC]
  constructor
  · intro q
    by_cases c0 : fitI 0 x0
    · rw [zb_t c0, if_neg k01]
      by_cases c1 : fitI 1 x1
      · rw [zb_t c1, if_neg k01]
        by_cases c2 : fitI 2 x2
        · have : n = 8 := by
            rcases Nat.lt_or_ge n 8 with l | l
            · exact absurd ⟨l, c0, c1, c2⟩ q
            · omega
          rw [zb_t c2, if_neg k01, c_X4_add, h11, this, if_neg (by decide), Option.bind_some]
          dsimp only
          rw [if_pos (by decide)]
        · rw [zb_f c2, if_pos rfl]
      · rw [zb_f c1, if_pos rfl]
    · rw [zb_f c0, if_pos rfl]
  · rintro ⟨l, c0, c1, c2⟩
    rw [zb_t c0, if_neg k01, zb_t c1, if_neg k01, zb_t c2, if_neg k01, c_padd sc l h11 h12, Option.bind_some]
    dsimp only
    rw [if_neg (by rw [n_lt0 (by omega)]; exact id)]; rfl
theorem c_pupils_go (sc : zSc) {d i m nn n ver gap cn : Nat} {e : Nat → Int64} {P : Nat → Nat → Nat} {cs : List Int32} (hd : d < 6) (hm : m ≤ 60) (hnn : nn ≤ 8) (hn : n ≤ 8) (hver : ver < 2147480000) (a2 : Int32) : ∀ (f c : Nat) (S : zS), f + c = nn → n + c ≤ 8 → i + 3 * c < 2147483000 → zV1C (n + c) (pQ e i n P c) cs gap cn (ver + 4 * c) S → S.1 (39 + 2 * d) 2 = nI m → (∀ p, p < 60 → S.2 (40 + 2 * d) p = e p) →
    ∃ S', zO zgI sc (zg1, (zm_X10_pupils, 6), 55, S, [some (.ref 0), some (.int (nI d)), some (.int a2), some (.int (nI nn)), some (.ref (39 + 2 * d)), some (.int (nI c)), some (.int (nI (i + 3 * c)))], []) = some (nI (pCnt e i m n f c), S') ∧ zV1C (n + pCnt e i m n f c) (pQ e i n P (pCnt e i m n f c)) cs gap cn (ver + 4 * pCnt e i m n f c) S' ∧ zfr (zk [2] [(1, 1), (1, 2)]) S S'
  | 0, c, S, hf, hnc, hi, hV, h2, he => by
    refine ⟨S, ?_, hV, zfr_refl _ _⟩
    rw [g_pupils55 sc S _ _ _ _ hd, if_pos (by rw [n_le (by omega) (by omega)]; omega)]; rfl
  | f + 1, c, S, hf, hnc, hi, hV, h2, he => by
    have e1 : pCnt e i m n (f + 1) c = if pOk e i m n c then pCnt e i m n f (c + 1) else c := rfl
    have h3 : (3 : Int32).toInt = 3 := rfl
    rw [g_pupils55 sc S _ _ _ _ hd, if_neg (by rw [n_le (by omega) (by omega)]; omega), g_hasI sc hd h2 hm, Option.bind_some]
    dsimp only
    by_cases c1 : i + 3 * c + 3 ≤ m
    case neg =>
      have ek : pCnt e i m n (f + 1) c = c := by rw [e1, if_neg (fun q => c1 q.1)]
      rw [ek]
      refine ⟨S, ?_, hV, zfr_refl _ _⟩
      rw [zb_f (by rw [h3, zi_nI (by omega)]; omega), if_pos rfl]
    rw [zb_t (by rw [h3, zi_nI (by omega)]; omega), if_neg (by decide)]
    obtain ⟨r1, r2⟩ := c_comes sc hd h2 hm (p := i + 3 * c) (n := n + c) (ver := ver + 4 * c) c1 hnc hV.1.1.1 hV.1.2.2.2.2.2.1 (x0 := pe e i c 0) (x1 := pe e i c 1) (x2 := pe e i c 2) (by rw [he _ (by omega)]; rfl) (by rw [he _ (by omega)]; rfl) (by rw [he _ (by omega)]; rfl)
    by_cases c2 : n + c < 8 ∧ pF e i c
    case neg =>
      have ek : pCnt e i m n (f + 1) c = c := by rw [e1, if_neg (fun q => c2 q.2)]
      rw [ek, r1 c2, Option.bind_some]
      refine ⟨S, ?_, hV, zfr_refl _ _⟩
      dsimp only
      rw [if_pos rfl]
    have f0 := fit0 c2.2.1
    have f1 := fit1 c2.2.2.1
    have f2 := fit2 c2.2.2.2
    have fr := padC_f S (n + c) (ver + 4 * c) (pe e i c 0) (pe e i c 1) (pe e i c 2)
    have hV' : zV1C (n + (c + 1)) (pQ e i n P (c + 1)) cs gap cn (ver + 4 * (c + 1)) (padC S (n + c) (ver + 4 * c) (pe e i c 0) (pe e i c 1) (pe e i c 2)) :=
      zV1C_add hV (a := (pe e i c 0).toInt.toNat) (b := (pe e i c 1).toInt.toNat) (wh := ((pe e i c 2).toInt + 1).toNat) c2.1 f0.2 f1.2.1 f1.2.2 f2.2 (by omega) (padC_11 _ _ _ _ _ _) (padC_12 _ _ _ _ _ _) (fun j => by rw [padC_2, ← f0.1, ← f1.1, ← f2.1]) (fr.1 6 7 rfl) (fr.1 6 2 rfl) (fun j => fr.1 7 j rfl)
    have ep : nI (i + 3 * c) + (3 : Int32) = nI (i + 3 * (c + 1)) := zn_add (i + 3 * c) 3
    obtain ⟨S', q1, q2, q3⟩ := c_pupils_go sc hd hm hnn hn hver a2 f (c + 1) (padC S (n + c) (ver + 4 * c) (pe e i c 0) (pe e i c 1) (pe e i c 2)) (by omega) (by omega) (by omega) hV' (by rw [fr.1 (39 + 2 * d) 2 (by rcases hd6 hd with rfl | rfl | rfl | rfl | rfl | rfl <;> rfl)]; exact h2) (fun p hp => by rw [fr.2]; exact he p hp)
    have ek : pCnt e i m n (f + 1) c = pCnt e i m n f (c + 1) := by rw [e1, if_pos ⟨c1, c2⟩]
    rw [ek]
    refine ⟨S', ?_, q2, zfr_tr fr q3⟩
    rw [r2 c2, Option.bind_some]
    dsimp only
    rw [if_neg (by decide), ep, n_s1, q1]
