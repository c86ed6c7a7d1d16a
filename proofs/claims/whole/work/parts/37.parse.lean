/-! ===== how a text is read, in pure words: goes it on, where it ends, its codes, its value under names ===== -/
abbrev pR := Bool × Nat × List Int32 × ((Nat → Int32) → Int32)
abbrev pbad (pos : Nat) : pR := (false, pos, [], fun _ => 0)
abbrev pdig (c : Nat) : Prop := 48 ≤ c ∧ c ≤ 57
abbrev pnm (c : Nat) : Prop := c = 115 ∨ c = 103 ∨ c = 107 ∨ c = 112 ∨ c = 119 ∨ c = 108
def pbond (c : Nat) : Nat := if c = 124 then 0 else if c = 38 then 1 else if c = 60 ∨ c = 61 ∨ c = 62 then 2 else if c = 43 ∨ c = 45 then 3 else if c = 42 ∨ c = 47 ∨ c = 37 then 4 else 9
def pnum (cb : Nat → Nat) : Nat → Nat → Nat → Nat × Nat
  | 0, pos, v => (pos, v)
  | k + 1, pos, v => if pdig (cb pos) then pnum cb k (pos + 1) (v * 10 + cb pos - 48) else (pos, v)
def pjoin (g : Nat → pR) (cb : Nat → Nat) (b : Nat) : Nat → Nat → List Int32 → ((Nat → Int32) → Int32) → pR
  | 0, pos, acc, v => (true, pos, acc, v)
  | k + 1, pos, acc, v =>
    if pbond (cb pos) = b then
      if (g (pos + 1)).1 = true then
        (if b = 2 then (true, (g (pos + 1)).2.1, acc ++ (g (pos + 1)).2.2.1 ++ [-(nI (cb pos))], fun N => xop (v N) (nI (cb pos)) ((g (pos + 1)).2.2.2 N))
         else pjoin g cb b k (g (pos + 1)).2.1 (acc ++ (g (pos + 1)).2.2.1 ++ [-(nI (cb pos))]) (fun N => xop (v N) (nI (cb pos)) ((g (pos + 1)).2.2.2 N)))
      else pbad (g (pos + 1)).2.1
    else (true, pos, acc, v)
def pp (cb : Nat → Nat) : Nat → Nat → Nat → Nat → pR
  | 0, _, _, pos => pbad pos
  | f + 1, b, o, pos =>
    if b ≤ 4 then
      if (pp cb f (b + 1) o pos).1 = true then pjoin (pp cb f (b + 1) o) cb b 122 (pp cb f (b + 1) o pos).2.1 (pp cb f (b + 1) o pos).2.2.1 (pp cb f (b + 1) o pos).2.2.2
      else pbad (pp cb f (b + 1) o pos).2.1
    else if pdig (cb pos) then (true, (pnum cb 4 pos 0).1, [nI (pnum cb 4 pos 0).2], fun _ => nI (pnum cb 4 pos 0).2)
    else if pnm (cb pos) then (true, pos + 1, [-(nI (cb pos))], fun N => xnm N (nI (cb pos)))
    else if (cb pos = 40 ∨ cb pos = 33 ∨ cb pos = 45) ∧ o < 6 then
      if cb pos = 40 then
        if (pp cb f 0 (o + 1) (pos + 1)).1 = true then
          if cb (pp cb f 0 (o + 1) (pos + 1)).2.1 = 41 then (true, (pp cb f 0 (o + 1) (pos + 1)).2.1 + 1, (pp cb f 0 (o + 1) (pos + 1)).2.2.1, (pp cb f 0 (o + 1) (pos + 1)).2.2.2)
          else pbad (pp cb f 0 (o + 1) (pos + 1)).2.1
        else pbad (pp cb f 0 (o + 1) (pos + 1)).2.1
      else
        if (pp cb f 5 (o + 1) (pos + 1)).1 = true then
          (true, (pp cb f 5 (o + 1) (pos + 1)).2.1, (pp cb f 5 (o + 1) (pos + 1)).2.2.1 ++ [if cb pos = 45 then -126 else -33], fun N => if cb pos = 45 then -((pp cb f 5 (o + 1) (pos + 1)).2.2.2 N) else (if (pp cb f 5 (o + 1) (pos + 1)).2.2.2 N = 0 then 1 else 0))
        else pbad (pp cb f 5 (o + 1) (pos + 1)).2.1
    else pbad pos
theorem pp_b (cb : Nat → Nat) (f o pos : Nat) {b : Nat} (h : b ≤ 4) : pp cb (f + 1) b o pos = if (pp cb f (b + 1) o pos).1 = true then pjoin (pp cb f (b + 1) o) cb b 122 (pp cb f (b + 1) o pos).2.1 (pp cb f (b + 1) o pos).2.2.1 (pp cb f (b + 1) o pos).2.2.2 else pbad (pp cb f (b + 1) o pos).2.1 := if_pos h
/-- beyond the text there is 0 -/
abbrev pend (cb : Nat → Nat) (n : Nat) : Prop := ∀ i, n ≤ i → cb i = 0
/-- where a part ends, and how many codes it makes -/
abbrev pfact (n pos : Nat) (r : pR) : Prop := r.2.1 ≤ n ∧ pos ≤ r.2.1 ∧ (r.1 = true → pos < r.2.1 ∧ r.2.2.1.length + pos ≤ r.2.1)
theorem pbad_fact {n pos p : Nat} (h : p ≤ n) (k : pos ≤ p) : pfact n pos (pbad p) := ⟨h, k, fun q => (Bool.false_ne_true q).elim⟩
theorem pnum_fact {cb : Nat → Nat} {n : Nat} (hz : pend cb n) : ∀ k pos v, pos ≤ n → v + 48 < 10 ^ (8 - k) * 100 + 48 → k ≤ 4 → (pnum cb k pos v).1 ≤ n ∧ pos ≤ (pnum cb k pos v).1 ∧ (pnum cb k pos v).2 < 10000000000
  | 0, pos, v, h, g, _ => ⟨h, Nat.le_refl _, by show v < _; omega⟩
  | k + 1, pos, v, h, g, hk => by
    unfold pnum
    by_cases c : pdig (cb pos)
    · rw [if_pos c]
      have h1 : pos < n := by
        by_cases q : pos < n
        · exact q
        · have := hz pos (by omega); omega
      obtain ⟨a, b, d⟩ := pnum_fact hz k (pos + 1) (v * 10 + cb pos - 48) (by omega) (by
        have e : 10 ^ (8 - k) = 10 ^ (8 - (k + 1)) * 10 := by rw [← Nat.pow_succ]; congr 1; omega
        rw [e]; omega) (by omega)
      exact ⟨a, by omega, d⟩
    · rw [if_neg c]
      have : 10 ^ (8 - (k + 1)) ≤ 10 ^ 7 := Nat.pow_le_pow_right (by omega) (by omega)
      exact ⟨h, Nat.le_refl _, by show v < _; omega⟩
theorem pjoin_fact {cb : Nat → Nat} {n b : Nat} (hb : b ≤ 4) (hz : pend cb n) {g : Nat → pR} (hg : ∀ p, p ≤ n → pfact n p (g p)) (p0 : Nat) : ∀ k pos acc v, pos ≤ n → p0 < pos → acc.length + p0 ≤ pos → pfact n p0 (pjoin g cb b k pos acc v)
  | 0, pos, acc, v, h1, h2, h3 => ⟨h1, by show p0 ≤ pos; omega, fun _ => ⟨h2, h3⟩⟩
  | k + 1, pos, acc, v, h1, h2, h3 => by
    unfold pjoin
    by_cases c : pbond (cb pos) = b
    · rw [if_pos c]
      have hp : pos < n := by
        by_cases q : pos < n
        · exact q
        · have e := hz pos (by omega)
          rw [e] at c
          have : pbond 0 = 9 := rfl
          omega
      obtain ⟨a1, a2, a3⟩ := hg (pos + 1) (by omega)
      by_cases d : (g (pos + 1)).1 = true
      · rw [if_pos d]
        obtain ⟨a4, a5⟩ := a3 d
        have hl : (acc ++ (g (pos + 1)).2.2.1 ++ [-(nI (cb pos))]).length = acc.length + (g (pos + 1)).2.2.1.length + 1 := by rw [List.length_append, List.length_append]; rfl
        by_cases e : b = 2
        · rw [if_pos e]
          exact ⟨a1, by show p0 ≤ (g (pos + 1)).2.1; omega, fun _ => ⟨by show p0 < (g (pos + 1)).2.1; omega, by show (acc ++ (g (pos + 1)).2.2.1 ++ [-(nI (cb pos))]).length + p0 ≤ (g (pos + 1)).2.1; rw [hl]; omega⟩⟩
        · rw [if_neg e]
          exact pjoin_fact hb hz hg p0 k _ _ _ a1 (by omega) (by rw [hl]; omega)
      · rw [if_neg d]
        exact pbad_fact a1 (by omega)
    · rw [if_neg c]
      exact ⟨h1, by show p0 ≤ pos; omega, fun _ => ⟨h2, h3⟩⟩
theorem pnum_gt {cb : Nat → Nat} {k pos v : Nat} (h : pdig (cb pos)) : pos < (pnum cb (k + 1) pos v).1 := by
  unfold pnum
  rw [if_pos h]
  have : ∀ k p v, p ≤ (pnum cb k p v).1 := by
    intro k
    induction k with
    | zero => intro p v; exact Nat.le_refl _
    | succ k ih =>
      intro p v
      unfold pnum
      split
      · have := ih (p + 1) (v * 10 + cb p - 48); omega
      · exact Nat.le_refl _
  have := this k (pos + 1) (v * 10 + cb pos - 48)
  omega
theorem pp_fact {cb : Nat → Nat} {n : Nat} (hz : pend cb n) : ∀ f b o pos, pos ≤ n → pfact n pos (pp cb f b o pos)
  | 0, b, o, pos, h => pbad_fact h (Nat.le_refl _)
  | f + 1, b, o, pos, h => by
    have IH := fun b o pos h => pp_fact hz f b o pos h
    have hlt : cb pos ≠ 0 → pos < n := fun q => by
      by_cases k : pos < n
      · exact k
      · exact absurd (hz pos (by omega)) q
    unfold pp
    by_cases c : b ≤ 4
    · rw [if_pos c]
      obtain ⟨a1, a2, a3⟩ := IH (b + 1) o pos h
      by_cases d : (pp cb f (b + 1) o pos).1 = true
      · rw [if_pos d]
        exact pjoin_fact c hz (fun p hp => IH (b + 1) o p hp) pos 122 _ _ _ a1 (a3 d).1 (a3 d).2
      · rw [if_neg d]; exact pbad_fact a1 a2
    · rw [if_neg c]
      by_cases d : pdig (cb pos)
      · rw [if_pos d]
        obtain ⟨a1, a2, a3⟩ := pnum_fact hz 4 pos 0 h (by decide) (by omega)
        have : pos < (pnum cb 4 pos 0).1 := pnum_gt (k := 3) (v := 0) d
        exact ⟨a1, a2, fun _ => ⟨this, by show 1 + pos ≤ (pnum cb 4 pos 0).1; omega⟩⟩
      · rw [if_neg d]
        by_cases e : pnm (cb pos)
        · rw [if_pos e]
          have := hlt (by unfold pnm at e; omega)
          exact ⟨by show pos + 1 ≤ n; omega, by show pos ≤ pos + 1; omega, fun _ => ⟨by show pos < pos + 1; omega, by show 1 + pos ≤ pos + 1; omega⟩⟩
        · rw [if_neg e]
          by_cases g : (cb pos = 40 ∨ cb pos = 33 ∨ cb pos = 45) ∧ o < 6
          · rw [if_pos g]
            have hp := hlt (by omega)
            by_cases k : cb pos = 40
            · rw [if_pos k]
              obtain ⟨a1, a2, a3⟩ := IH 0 (o + 1) (pos + 1) (by omega)
              by_cases l : (pp cb f 0 (o + 1) (pos + 1)).1 = true
              · rw [if_pos l]
                by_cases m : cb (pp cb f 0 (o + 1) (pos + 1)).2.1 = 41
                · rw [if_pos m]
                  have : (pp cb f 0 (o + 1) (pos + 1)).2.1 < n := by
                    by_cases q : (pp cb f 0 (o + 1) (pos + 1)).2.1 < n
                    · exact q
                    · have := hz (pp cb f 0 (o + 1) (pos + 1)).2.1 (by omega); omega
                  have := a3 l
                  exact ⟨by show (pp cb f 0 (o + 1) (pos + 1)).2.1 + 1 ≤ n; omega, by show pos ≤ (pp cb f 0 (o + 1) (pos + 1)).2.1 + 1; omega, fun _ => ⟨by show pos < (pp cb f 0 (o + 1) (pos + 1)).2.1 + 1; omega, by show (pp cb f 0 (o + 1) (pos + 1)).2.2.1.length + pos ≤ (pp cb f 0 (o + 1) (pos + 1)).2.1 + 1; omega⟩⟩
                · rw [if_neg m]; exact pbad_fact a1 (by omega)
              · rw [if_neg l]; exact pbad_fact a1 (by omega)
            · rw [if_neg k]
              obtain ⟨a1, a2, a3⟩ := IH 5 (o + 1) (pos + 1) (by omega)
              by_cases l : (pp cb f 5 (o + 1) (pos + 1)).1 = true
              · rw [if_pos l]
                have := a3 l
                refine ⟨a1, by show pos ≤ (pp cb f 5 (o + 1) (pos + 1)).2.1; omega, fun _ => ⟨by show pos < (pp cb f 5 (o + 1) (pos + 1)).2.1; omega, ?_⟩⟩
                show ((pp cb f 5 (o + 1) (pos + 1)).2.2.1 ++ [if cb pos = 45 then -126 else -33]).length + pos ≤ (pp cb f 5 (o + 1) (pos + 1)).2.1
                rw [List.length_append]
                show _ + 1 + pos ≤ _
                omega
              · rw [if_neg l]; exact pbad_fact a1 (by omega)
          · rw [if_neg g]; exact pbad_fact h (Nat.le_refl _)
/-! ===== what the codes of a part do ===== -/
abbrev pgd (r : pR) : Prop := r.1 = true → (∀ N rest st cnt, xgo N (r.2.2.1 ++ rest) st cnt = xgo N rest (r.2.2.2 N :: st) cnt) ∧ (∀ rest h, xok rest (h + 1) → xok (r.2.2.1 ++ rest) h)
theorem pbad_gd (p : Nat) : pgd (pbad p) := fun q => (Bool.false_ne_true q).elim
theorem neg_nI (c : Nat) : -(-(nI c)) = nI c := Int32.neg_neg
theorem xin_n {c : Nat} (hc : c < 256) : xin (nI c) ↔ pnm c := by
  unfold xin pnm
  rw [show (115 : Int32) = nI 115 from rfl, show (103 : Int32) = nI 103 from rfl, show (107 : Int32) = nI 107 from rfl, show (112 : Int32) = nI 112 from rfl, show (119 : Int32) = nI 119 from rfl, show (108 : Int32) = nI 108 from rfl]
  rw [n_eq (by omega) (by omega), n_eq (by omega) (by omega), n_eq (by omega) (by omega), n_eq (by omega) (by omega), n_eq (by omega) (by omega), n_eq (by omega) (by omega)]
theorem xop_gd {c : Nat} (h : pbond c ≤ 4) (N : Nat → Int32) (rest st : List Int32) (cnt : Bool) (a b : Int32) : xgo N (-(nI c) :: rest) (b :: a :: st) cnt = xgo N rest (xop a (nI c) b :: st) cnt := by
  have hc : c = 124 ∨ c = 38 ∨ c = 60 ∨ c = 61 ∨ c = 62 ∨ c = 43 ∨ c = 45 ∨ c = 42 ∨ c = 47 ∨ c = 37 := by unfold pbond at h; split at h <;> (try split at h) <;> (try split at h) <;> (try split at h) <;> (try split at h) <;> omega
  rcases hc with rfl | rfl | rfl | rfl | rfl | rfl | rfl | rfl | rfl | rfl <;> rfl
theorem xop_ok {c : Nat} (h : pbond c ≤ 4) (rest : List Int32) (k : Nat) (g : xok rest (k + 1)) : xok (-(nI c) :: rest) (k + 2) := by
  have hc : c = 124 ∨ c = 38 ∨ c = 60 ∨ c = 61 ∨ c = 62 ∨ c = 43 ∨ c = 45 ∨ c = 42 ∨ c = 47 ∨ c = 37 := by unfold pbond at h; split at h <;> (try split at h) <;> (try split at h) <;> (try split at h) <;> (try split at h) <;> omega
  rcases hc with rfl | rfl | rfl | rfl | rfl | rfl | rfl | rfl | rfl | rfl <;> exact ⟨by omega, by decide, g⟩
theorem xnm_gd {c : Nat} (h : pnm c) (N : Nat → Int32) (rest st : List Int32) (cnt : Bool) : xgo N (-(nI c) :: rest) st cnt = xgo N rest (xnm N (nI c) :: st) cnt := by
  rcases h with rfl | rfl | rfl | rfl | rfl | rfl <;> rfl
theorem xnm_ok {c : Nat} (h : pnm c) (rest : List Int32) (k : Nat) (g : xok rest (k + 1)) : xok (-(nI c) :: rest) k := by
  rcases h with rfl | rfl | rfl | rfl | rfl | rfl <;> exact g
theorem num_sg {v s : Nat} (hv : v < 2147483648) (hs : 0 < s) (hs' : s < 2147483648) : ¬ (-(nI v) = nI s) := by
  intro e
  rw [zi_eq, zi_nI hs', Int32.toInt_neg, zi_nI hv, zi_bmod (by omega) (by omega)] at e
  omega
theorem num_gd {v : Nat} (hv : v < 2147483648) (N : Nat → Int32) (rest st : List Int32) (cnt : Bool) : xgo N (nI v :: rest) st cnt = xgo N rest (nI v :: st) cnt := by
  show (if -(nI v) = 63 then _ else if -(nI v) = 59 then _ else if -(nI v) = 33 ∨ -(nI v) = 126 then _ else if 0 ≤ nI v ∨ xin (-(nI v)) then xgo N rest ((if 0 ≤ nI v then nI v else xnm N (-(nI v))) :: st) cnt else _) = _
  have e1 : ¬ (-(nI v) = (63 : Int32)) := num_sg (s := 63) hv (by omega) (by omega)
  have e2 : ¬ (-(nI v) = (59 : Int32)) := num_sg (s := 59) hv (by omega) (by omega)
  have e3 : ¬ (-(nI v) = (33 : Int32)) := num_sg (s := 33) hv (by omega) (by omega)
  have e4 : ¬ (-(nI v) = (126 : Int32)) := num_sg (s := 126) hv (by omega) (by omega)
  rw [if_neg e1, if_neg e2, if_neg (fun q => q.elim e3 e4), if_pos (Or.inl (by rw [n_0le hv]; trivial)), if_pos (by rw [n_0le hv]; trivial)]
theorem num_ok {v : Nat} (hv : v < 2147483648) (rest : List Int32) (k : Nat) (g : xok rest (k + 1)) : xok (nI v :: rest) k := by
  show (if -(nI v) = 63 then _ else if -(nI v) = 59 then _ else if -(nI v) = 33 ∨ -(nI v) = 126 then _ else if 0 ≤ nI v ∨ xin (-(nI v)) then xok rest (k + 1) else _)
  have e1 : ¬ (-(nI v) = (63 : Int32)) := num_sg (s := 63) hv (by omega) (by omega)
  have e2 : ¬ (-(nI v) = (59 : Int32)) := num_sg (s := 59) hv (by omega) (by omega)
  have e3 : ¬ (-(nI v) = (33 : Int32)) := num_sg (s := 33) hv (by omega) (by omega)
  have e4 : ¬ (-(nI v) = (126 : Int32)) := num_sg (s := 126) hv (by omega) (by omega)
  rw [if_neg e1, if_neg e2, if_neg (fun q => q.elim e3 e4), if_pos (Or.inl (by rw [n_0le hv]; trivial))]
  exact g
theorem pjoin_gd {cb : Nat → Nat} {b : Nat} (hb : b ≤ 4) {g : Nat → pR} (hg : ∀ p, pgd (g p)) : ∀ k pos acc v, pgd (true, pos, acc, v) → pgd (pjoin g cb b k pos acc v)
  | 0, pos, acc, v, h => h
  | k + 1, pos, acc, v, h => by
    unfold pjoin
    by_cases c : pbond (cb pos) = b
    · rw [if_pos c]
      by_cases d : (g (pos + 1)).1 = true
      · rw [if_pos d]
        have hn : ∀ q, pgd (true, q, acc ++ (g (pos + 1)).2.2.1 ++ [-(nI (cb pos))], fun N => xop (v N) (nI (cb pos)) ((g (pos + 1)).2.2.2 N)) := by
          intro q _
          obtain ⟨a1, a2⟩ := h rfl
          obtain ⟨b1, b2⟩ := hg (pos + 1) d
          constructor
          · intro N rest st cnt
            show xgo N ((acc ++ (g (pos + 1)).2.2.1 ++ [-(nI (cb pos))]) ++ rest) st cnt = _
            rw [List.append_assoc, List.append_assoc, a1, b1]
            exact xop_gd (by omega) N rest st cnt _ _
          · intro rest hh k2
            show xok ((acc ++ (g (pos + 1)).2.2.1 ++ [-(nI (cb pos))]) ++ rest) hh
            rw [List.append_assoc, List.append_assoc]
            exact a2 _ _ (b2 _ _ (xop_ok (by omega) rest hh k2))
        by_cases e : b = 2
        · rw [if_pos e]; exact hn _
        · rw [if_neg e]; exact pjoin_gd hb hg k _ _ _ (hn _)
      · rw [if_neg d]; exact pbad_gd _
    · rw [if_neg c]; exact h
theorem pnum_lt (cb : Nat → Nat) (pos : Nat) : (pnum cb 4 pos 0).2 < 10000 := by
  have : ∀ k p v m, v < m → (pnum cb k p v).2 < m * 10 ^ k := by
    intro k
    induction k with
    | zero => intro p v m h; show v < m * 1; omega
    | succ k ih =>
      intro p v m h
      unfold pnum
      have e : m * 10 ^ (k + 1) = m * 10 * 10 ^ k := by rw [Nat.pow_succ, Nat.mul_comm (10 ^ k) 10, Nat.mul_assoc]
      split
      · rename_i c
        rw [e]
        exact ih (p + 1) (v * 10 + cb p - 48) (m * 10) (by omega)
      · rw [e]
        have : 1 ≤ 10 ^ k := Nat.pow_pos (by omega)
        have : m * 10 * 1 ≤ m * 10 * 10 ^ k := Nat.mul_le_mul_left _ this
        show v < _
        omega
  have := this 4 pos 0 1 (by omega)
  omega
theorem pp_gd (cb : Nat → Nat) : ∀ f b o pos, pgd (pp cb f b o pos)
  | 0, b, o, pos => pbad_gd _
  | f + 1, b, o, pos => by
    have IH := fun b o pos => pp_gd cb f b o pos
    unfold pp
    by_cases c : b ≤ 4
    · rw [if_pos c]
      by_cases d : (pp cb f (b + 1) o pos).1 = true
      · rw [if_pos d]
        refine pjoin_gd c (fun p => IH (b + 1) o p) 122 _ _ _ ?_
        intro _
        exact IH (b + 1) o pos d
      · rw [if_neg d]; exact pbad_gd _
    · rw [if_neg c]
      by_cases d : pdig (cb pos)
      · rw [if_pos d]
        intro _
        have := pnum_lt cb pos
        exact ⟨fun N rest st cnt => num_gd (by omega) N rest st cnt, fun rest h k => num_ok (by omega) rest h k⟩
      · rw [if_neg d]
        by_cases e : pnm (cb pos)
        · rw [if_pos e]
          intro _
          exact ⟨fun N rest st cnt => xnm_gd e N rest st cnt, fun rest h k => xnm_ok e rest h k⟩
        · rw [if_neg e]
          by_cases g : (cb pos = 40 ∨ cb pos = 33 ∨ cb pos = 45) ∧ o < 6
          · rw [if_pos g]
            by_cases k : cb pos = 40
            · rw [if_pos k]
              by_cases l : (pp cb f 0 (o + 1) (pos + 1)).1 = true
              · rw [if_pos l]
                by_cases m : cb (pp cb f 0 (o + 1) (pos + 1)).2.1 = 41
                · rw [if_pos m]
                  intro _
                  exact IH 0 (o + 1) (pos + 1) l
                · rw [if_neg m]; exact pbad_gd _
              · rw [if_neg l]; exact pbad_gd _
            · rw [if_neg k]
              by_cases l : (pp cb f 5 (o + 1) (pos + 1)).1 = true
              · rw [if_pos l]
                intro _
                obtain ⟨b1, b2⟩ := IH 5 (o + 1) (pos + 1) l
                by_cases m : cb pos = 45
                · rw [if_pos m]
                  constructor
                  · intro N rest st cnt
                    show xgo N ((_ ++ [(-126 : Int32)]) ++ rest) st cnt = xgo N rest ((if cb pos = 45 then _ else _) :: st) cnt
                    rw [List.append_assoc, b1, if_pos m]; rfl
                  · intro rest hh q
                    show xok ((_ ++ [(-126 : Int32)]) ++ rest) hh
                    rw [List.append_assoc]
                    exact b2 _ _ ⟨by omega, q⟩
                · rw [if_neg m]
                  constructor
                  · intro N rest st cnt
                    show xgo N ((_ ++ [(-33 : Int32)]) ++ rest) st cnt = xgo N rest ((if cb pos = 45 then _ else _) :: st) cnt
                    rw [List.append_assoc, b1, if_neg m]; rfl
                  · intro rest hh q
                    show xok ((_ ++ [(-33 : Int32)]) ++ rest) hh
                    rw [List.append_assoc]
                    exact b2 _ _ ⟨by omega, q⟩
              · rw [if_neg l]; exact pbad_gd _
          · rw [if_neg g]; exact pbad_gd _
/-! ===== a line, and the text ===== -/
abbrev pL := Bool × Nat × List Int32 × ((Nat → Int32) → Option Int32)
abbrev plbad (pos : Nat) : pL := (false, pos, [], fun _ => none)
def pline (cb : Nat → Nat) (pos : Nat) : pL :=
  if (pp cb 42 0 0 pos).1 = true then
    if cb (pp cb 42 0 0 pos).2.1 = 63 then
      if (pp cb 42 0 0 ((pp cb 42 0 0 pos).2.1 + 1)).1 = true then
        (true, (pp cb 42 0 0 ((pp cb 42 0 0 pos).2.1 + 1)).2.1, (pp cb 42 0 0 pos).2.2.1 ++ [-63] ++ (pp cb 42 0 0 ((pp cb 42 0 0 pos).2.1 + 1)).2.2.1 ++ [-59],
          fun N => if (pp cb 42 0 0 pos).2.2.2 N ≠ 0 then some ((pp cb 42 0 0 ((pp cb 42 0 0 pos).2.1 + 1)).2.2.2 N) else none)
      else plbad (pp cb 42 0 0 ((pp cb 42 0 0 pos).2.1 + 1)).2.1
    else (true, (pp cb 42 0 0 pos).2.1, (pp cb 42 0 0 pos).2.2.1 ++ [-59], fun N => some ((pp cb 42 0 0 pos).2.2.2 N))
  else plbad (pp cb 42 0 0 pos).2.1
def plines (cb : Nat → Nat) : Nat → Nat → pL
  | 0, pos => plbad pos
  | k + 1, pos =>
    if (pline cb pos).1 = true then
      if cb (pline cb pos).2.1 = 59 then
        ((plines cb k ((pline cb pos).2.1 + 1)).1, (plines cb k ((pline cb pos).2.1 + 1)).2.1, (pline cb pos).2.2.1 ++ (plines cb k ((pline cb pos).2.1 + 1)).2.2.1,
          fun N => match (pline cb pos).2.2.2 N with | some v => some v | none => (plines cb k ((pline cb pos).2.1 + 1)).2.2.2 N)
      else pline cb pos
    else plbad (pline cb pos).2.1
/-- codes: as many as bytes, and one for the end -/
abbrev plfact (n pos : Nat) (r : pL) : Prop := r.2.1 ≤ n ∧ pos ≤ r.2.1 ∧ (r.1 = true → pos < r.2.1 ∧ r.2.2.1.length + pos ≤ r.2.1 + 1)
theorem pline_fact {cb : Nat → Nat} {n : Nat} (hz : pend cb n) (pos : Nat) (h : pos ≤ n) : plfact n pos (pline cb pos) := by
  obtain ⟨a1, a2, a3⟩ := pp_fact hz 42 0 0 pos h
  unfold pline
  by_cases c : (pp cb 42 0 0 pos).1 = true
  · rw [if_pos c]
    by_cases d : cb (pp cb 42 0 0 pos).2.1 = 63
    · rw [if_pos d]
      have hp : (pp cb 42 0 0 pos).2.1 < n := by
        by_cases q : (pp cb 42 0 0 pos).2.1 < n
        · exact q
        · have := hz _ (Nat.le_of_not_lt q); omega
      obtain ⟨b1, b2, b3⟩ := pp_fact hz 42 0 0 ((pp cb 42 0 0 pos).2.1 + 1) (by omega)
      by_cases e : (pp cb 42 0 0 ((pp cb 42 0 0 pos).2.1 + 1)).1 = true
      · rw [if_pos e]
        have := a3 c
        have := b3 e
        refine ⟨b1, by show pos ≤ (pp cb 42 0 0 ((pp cb 42 0 0 pos).2.1 + 1)).2.1; omega, fun _ => ⟨by show pos < (pp cb 42 0 0 ((pp cb 42 0 0 pos).2.1 + 1)).2.1; omega, ?_⟩⟩
        show ((pp cb 42 0 0 pos).2.2.1 ++ [-63] ++ (pp cb 42 0 0 ((pp cb 42 0 0 pos).2.1 + 1)).2.2.1 ++ [-59]).length + pos ≤ (pp cb 42 0 0 ((pp cb 42 0 0 pos).2.1 + 1)).2.1 + 1
        rw [List.length_append, List.length_append, List.length_append]
        show _ + 1 + _ + 1 + pos ≤ _
        omega
      · rw [if_neg e]
        exact ⟨b1, by show pos ≤ (pp cb 42 0 0 ((pp cb 42 0 0 pos).2.1 + 1)).2.1; omega, fun q => (Bool.false_ne_true q).elim⟩
    · rw [if_neg d]
      have := a3 c
      refine ⟨a1, a2, fun _ => ⟨this.1, ?_⟩⟩
      show ((pp cb 42 0 0 pos).2.2.1 ++ [-59]).length + pos ≤ (pp cb 42 0 0 pos).2.1 + 1
      rw [List.length_append]
      show _ + 1 + pos ≤ _
      omega
  · rw [if_neg c]
    exact ⟨a1, a2, fun q => (Bool.false_ne_true q).elim⟩
theorem plines_fact {cb : Nat → Nat} {n : Nat} (hz : pend cb n) : ∀ k pos, pos ≤ n → plfact n pos (plines cb k pos)
  | 0, pos, h => ⟨h, Nat.le_refl _, fun q => (Bool.false_ne_true q).elim⟩
  | k + 1, pos, h => by
    obtain ⟨a1, a2, a3⟩ := pline_fact hz pos h
    unfold plines
    by_cases c : (pline cb pos).1 = true
    · rw [if_pos c]
      by_cases d : cb (pline cb pos).2.1 = 59
      · rw [if_pos d]
        have hp : (pline cb pos).2.1 < n := by
          by_cases q : (pline cb pos).2.1 < n
          · exact q
          · have := hz _ (Nat.le_of_not_lt q); omega
        obtain ⟨b1, b2, b3⟩ := plines_fact hz k ((pline cb pos).2.1 + 1) (by omega)
        refine ⟨b1, by show pos ≤ (plines cb k ((pline cb pos).2.1 + 1)).2.1; omega, fun e => ?_⟩
        have := a3 c
        have := b3 e
        refine ⟨by show pos < (plines cb k ((pline cb pos).2.1 + 1)).2.1; omega, ?_⟩
        show ((pline cb pos).2.2.1 ++ (plines cb k ((pline cb pos).2.1 + 1)).2.2.1).length + pos ≤ (plines cb k ((pline cb pos).2.1 + 1)).2.1 + 1
        rw [List.length_append]
        omega
      · rw [if_neg d]; exact ⟨a1, a2, a3⟩
    · rw [if_neg c]
      exact ⟨a1, a2, fun q => (Bool.false_ne_true q).elim⟩
abbrev plgd (r : pL) : Prop := r.1 = true → (∀ N rest, xgo N (r.2.2.1 ++ rest) [] true = match r.2.2.2 N with | some v => v | none => xgo N rest [] true) ∧ (∀ rest h, xok rest 0 → xok (r.2.2.1 ++ rest) h)
theorem pline_gd (cb : Nat → Nat) (pos : Nat) : plgd (pline cb pos) := by
  have A := pp_gd cb 42 0 0 pos
  have B := pp_gd cb 42 0 0 ((pp cb 42 0 0 pos).2.1 + 1)
  unfold pline
  by_cases c : (pp cb 42 0 0 pos).1 = true
  · rw [if_pos c]
    obtain ⟨a1, a2⟩ := A c
    by_cases d : cb (pp cb 42 0 0 pos).2.1 = 63
    · rw [if_pos d]
      by_cases e : (pp cb 42 0 0 ((pp cb 42 0 0 pos).2.1 + 1)).1 = true
      · rw [if_pos e]
        obtain ⟨b1, b2⟩ := B e
        intro _
        constructor
        · intro N rest
          show xgo N (((_ ++ [(-63 : Int32)]) ++ _ ++ [(-59 : Int32)]) ++ rest) [] true = match (if (pp cb 42 0 0 pos).2.2.2 N ≠ 0 then some ((pp cb 42 0 0 ((pp cb 42 0 0 pos).2.1 + 1)).2.2.2 N) else none) with | some v => v | none => xgo N rest [] true
          rw [List.append_assoc, List.append_assoc, List.append_assoc, a1]
          show xgo N (_ ++ ([(-59 : Int32)] ++ rest)) [] (decide ((pp cb 42 0 0 pos).2.2.2 N ≠ 0)) = _
          rw [b1]
          by_cases z : (pp cb 42 0 0 pos).2.2.2 N = 0
          · rw [if_neg (fun q => q z), show decide ((pp cb 42 0 0 pos).2.2.2 N ≠ 0) = false from by simp [z]]; rfl
          · rw [if_pos z, show decide ((pp cb 42 0 0 pos).2.2.2 N ≠ 0) = true from by simp [z]]; rfl
        · intro rest hh q
          show xok (((_ ++ [(-63 : Int32)]) ++ _ ++ [(-59 : Int32)]) ++ rest) hh
          rw [List.append_assoc, List.append_assoc, List.append_assoc]
          refine a2 _ _ ?_
          show xok (_ ++ ([(-59 : Int32)] ++ rest)) 0
          exact b2 _ _ q
      · rw [if_neg e]; exact fun q => (Bool.false_ne_true q).elim
    · rw [if_neg d]
      intro _
      constructor
      · intro N rest
        show xgo N ((_ ++ [(-59 : Int32)]) ++ rest) [] true = (pp cb 42 0 0 pos).2.2.2 N
        rw [List.append_assoc, a1]; rfl
      · intro rest hh q
        show xok ((_ ++ [(-59 : Int32)]) ++ rest) hh
        rw [List.append_assoc]
        exact a2 _ _ q
  · rw [if_neg c]; exact fun q => (Bool.false_ne_true q).elim
theorem plines_gd (cb : Nat → Nat) : ∀ k pos, plgd (plines cb k pos)
  | 0, pos => fun q => (Bool.false_ne_true q).elim
  | k + 1, pos => by
    have A := pline_gd cb pos
    have B := plines_gd cb k ((pline cb pos).2.1 + 1)
    unfold plines
    by_cases c : (pline cb pos).1 = true
    · rw [if_pos c]
      by_cases d : cb (pline cb pos).2.1 = 59
      · rw [if_pos d]
        intro e
        obtain ⟨a1, a2⟩ := A c
        obtain ⟨b1, b2⟩ := B e
        constructor
        · intro N rest
          show xgo N ((_ ++ _) ++ rest) [] true = match (match (pline cb pos).2.2.2 N with | some v => some v | none => (plines cb k ((pline cb pos).2.1 + 1)).2.2.2 N) with | some v => v | none => xgo N rest [] true
          rw [List.append_assoc, a1, b1]
          cases (pline cb pos).2.2.2 N <;> rfl
        · intro rest hh q
          show xok ((_ ++ _) ++ rest) hh
          rw [List.append_assoc]
          exact a2 _ _ (b2 _ _ q)
      · rw [if_neg d]; exact A
    · rw [if_neg c]; exact fun q => (Bool.false_ne_true q).elim
