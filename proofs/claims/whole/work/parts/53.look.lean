/-- a row's signs are signs -/
def SO (l : List Int) : Prop := ∀ x ∈ l, 0 ≤ x ∧ x < 200000
theorem gt_rng {l : List Int} (h : SO l) (y : Int) : -1 ≤ gt l y ∧ gt l y < 200000 := by
  by_cases h1 : 0 ≤ y
  · by_cases h2 : y < l.length
    · have := h _ (gt_mem ⟨h1, h2⟩)
      omega
    · rw [gt_ge (by omega)]
      omega
  · rw [gt_neg (by omega)]
    omega
theorem gt_in {l : List Int} (h : SO l) {y : Int} (hy : 0 ≤ y ∧ y < l.length) : 0 ≤ gt l y ∧ gt l y < 200000 := h _ (gt_mem hy)
theorem contains_loop {i wd n : Nat} (hi : RI i wd n) {w : WS} (ho : RO w i wd n) {a : Nat} (ha : a < n) (hs : SO (rC w i wd a)) {s : Int} (h : -1 ≤ s ∧ s < 200000) (m : Nat) : ∀ k : Nat, (w (i + 2) a).toNat - k < m → k ≤ (w (i + 2) a).toNat → (∀ q, q < k → w (i + 1) (a * wd + q) ≠ s) → f_X6_contains_25 i m a s ((a * wd : Nat) : Int) k w = some (if s ∈ rC w i wd a then 1 else 0, w) := by
  have hl := RI_len hi
  have hr := row_in (wd := wd) (n := n) (a := a) ha
  have hz := (ho a).1
  obtain ⟨h1, h2, h3, h4, h5, h6, h7⟩ := hi
  induction m with
  | zero => intro k h; omega
  | succ m ih =>
    intro k g1 g2 g3
    refine Ev.toEq ?_
    rw [f_X6_contains_25_s, h2, h3]
    refine Ev.pos (by first | omega | (simp (disch := omega) only [wr_eq] <;> omega)) ?_
    rw [wr_eq (a := (a : Int)) (by omega), Int.toNat_natCast]
    have ek : ((k : Int) + 1) = ((k + 1 : Nat) : Int) := by omega
    have e1 : (((a * wd : Nat) : Int) + (k : Int)) = ((a * wd + k : Nat) : Int) := by omega
    rw [e1]
    by_cases e : k = (w (i + 2) a).toNat
    · refine Ev.neg (by first | omega | (simp (disch := omega) only [wr_eq] <;> omega)) ?_
      refine Ev.ret ⟨?_, rfl⟩
      rw [if_neg]
      intro hm
      obtain ⟨q, q1, q2⟩ := sg_mem.mp hm
      exact g3 q (by omega) q2
    · have hx : 0 ≤ w (i + 1) (a * wd + k) ∧ w (i + 1) (a * wd + k) < 200000 := hs _ (sg_mem.mpr ⟨k, by omega, rfl⟩)
      refine Ev.pos (by first | omega | (simp (disch := omega) only [wr_eq] <;> omega)) ?_; refine Ev.neg (by first | omega | (simp (disch := omega) only [wr_eq] <;> omega)) ?_; refine Ev.pos (by first | omega | (simp (disch := omega) only [wr_eq] <;> omega)) ?_; refine Ev.pos (by first | omega | (simp (disch := omega) only [wr_eq] <;> omega)) ?_
      rw [wr_eq (a := ((a * wd + k : Nat) : Int)) (by omega), Int.toNat_natCast]
      by_cases g : w (i + 1) (a * wd + k) = s
      · rw [g]
        refine Ev.pos rfl (Ev.ret ⟨?_, rfl⟩)
        rw [if_pos]
        exact sg_mem.mpr ⟨k, by omega, g⟩
      · refine Ev.neg (by first | omega | (simp (disch := omega) only [wr_eq] <;> omega)) ?_
        rw [ek]
        refine Ev.eq (ih (k + 1) (by omega) (by omega) ?_) ⟨rfl, rfl⟩
        intro q hq
        by_cases e2 : q = k
        · rw [e2]
          exact g
        · exact g3 q (by omega)
theorem f_contains {i wd n : Nat} (hi : RI i wd n) {w : WS} (ho : RO w i wd n) {a : Int} (ha : 0 ≤ a ∧ a < n) (hs : SO (rC w i wd a.toNat)) {s : Int} (h : -1 ≤ s ∧ s < 200000) : f_X6_contains i a s w = some (if s ∈ rC w i wd a.toNat then 1 else 0, w) := by
  have hl := RI_len hi
  have hz := (ho a.toNat).1
  have hi0 := hi
  obtain ⟨h1, h2, h3, h4, h5, h6, h7⟩ := hi
  refine Ev.toEq ?_
  unfold f_X6_contains
  rw [h1, h3]
  refine Ev.neg (by first | omega | (simp (disch := omega) only [wr_eq] <;> omega)) ?_; refine Ev.pos (by first | omega | (simp (disch := omega) only [wr_eq] <;> omega)) ?_
  have m1 : a * (wd : Int) = ((a.toNat * wd : Nat) : Int) := by
    rw [Int.natCast_mul, Int.toNat_of_nonneg ha.1]
  have m2 : a = (a.toNat : Int) := by omega
  have m3 := contains_loop hi0 ho (a := a.toNat) (by omega) hs h FU 0 (by unfold FU; omega) (by omega) (fun q hq => by omega)
  rw [m1]
  rw [← m2] at m3
  exact Ev.eq m3 ⟨rfl, rfl⟩
def hasAt (L M : List Int) (y : Int) : Bool := (List.range M.length).all (fun q => decide (gt L (y + q) = gt M q))
theorem hasAt_iff {L M : List Int} {y : Int} : hasAt L M y = true ↔ ∀ q : Nat, q < M.length → gt L (y + q) = gt M q := by
  simp [hasAt]
theorem hasThere_loop {i wd n j wj nj : Nat} (hi : RI i wd n) (hj : RI j wj nj) {w : WS} (ho : RO w i wd n) (hoj : RO w j wj nj) {a b y : Int} (ha : 0 ≤ a ∧ a < n) (hb : 0 ≤ b ∧ b < nj) (hy : 0 ≤ y ∧ y ≤ 100) (hs : SO (rC w i wd a.toNat)) (hsj : SO (rC w j wj b.toNat)) (m : Nat) : ∀ k : Nat, (w (j + 2) b.toNat).toNat - k < m → k ≤ (w (j + 2) b.toNat).toNat → (∀ q : Nat, q < k → gt (rC w i wd a.toNat) (y + q) = gt (rC w j wj b.toNat) q) → f_X6_hasThere_11 i j m a y b (w (j + 2) b.toNat) k w = some (if hasAt (rC w i wd a.toNat) (rC w j wj b.toNat) y = true then 1 else 0, w) := by
  have hz := (hoj b.toNat).1
  have hL := rC_len (r := b.toNat) hoj
  have h4 := hj.2.2.2.1
  induction m with
  | zero => intro k h; omega
  | succ m ih =>
    intro k g1 g2 g3
    refine Ev.toEq ?_
    rw [f_X6_hasThere_11_s]
    by_cases e : k = (w (j + 2) b.toNat).toNat
    · refine Ev.neg (by first | omega | (simp (disch := omega) only [wr_eq] <;> omega)) ?_
      refine Ev.ret ⟨?_, rfl⟩
      rw [if_pos (hasAt_iff.mpr (fun q hq => g3 q (by omega)))]
    · refine Ev.pos (by first | omega | (simp (disch := omega) only [wr_eq] <;> omega)) ?_
      refine Ev.obe (f_sign hi ho ha (by omega)) ?_
      refine Ev.obe (f_sign hj hoj hb (by omega)) ?_
      have r1 := gt_rng hs (y + k)
      have r2 := gt_rng hsj k
      by_cases g : gt (rC w i wd a.toNat) (y + k) = gt (rC w j wj b.toNat) k
      · rw [g]
        refine Ev.pos rfl ?_
        have ek : ((k : Int) + 1) = ((k + 1 : Nat) : Int) := by omega
        rw [ek]
        refine Ev.eq (ih (k + 1) (by omega) (by omega) ?_) ⟨rfl, rfl⟩
        intro q hq
        by_cases e2 : q = k
        · rw [e2]
          exact g
        · exact g3 q (by omega)
      · refine Ev.neg (by first | omega | (simp (disch := omega) only [wr_eq] <;> omega)) ?_
        refine Ev.ret ⟨?_, rfl⟩
        rw [if_neg]
        intro hh
        exact g (hasAt_iff.mp hh k (by omega))
theorem f_hasThere {i wd n j wj nj : Nat} (hi : RI i wd n) (hj : RI j wj nj) {w : WS} (ho : RO w i wd n) (hoj : RO w j wj nj) {a b y : Int} (ha : 0 ≤ a ∧ a < n) (hb : 0 ≤ b ∧ b < nj) (hy : 0 ≤ y ∧ y ≤ 100) (hs : SO (rC w i wd a.toNat)) (hsj : SO (rC w j wj b.toNat)) : f_X6_hasThere i a y j b w = some (if hasAt (rC w i wd a.toNat) (rC w j wj b.toNat) y = true then 1 else 0, w) := by
  unfold f_X6_hasThere
  have hz := (hoj b.toNat).1
  have h4 := hj.2.2.2.1
  rw [f_length hj hb, ob_some]
  exact hasThere_loop hi hj ho hoj ha hb hy hs hsj FU 0 (by unfold FU; omega) (by omega) (fun q hq => by omega)
/-! numbers read -/
def digs (l : List Int) : Bool := l.all (fun s => decide (48 ≤ s ∧ s ≤ 57))
def numF (n : Int) (l : List Int) : Int := l.foldl (fun n s => 10 * n + (s - 48)) n
def NON : Int := -1000000000000
def numD (d : List Int) : Bool := decide (1 ≤ d.length ∧ d.length ≤ 9) && digs d
def numS (l : List Int) : Int := if gt l 0 = 45 then (if numD (l.drop 1) = true then - numF 0 (l.drop 1) else NON) else (if numD l = true then numF 0 l else NON)
theorem drop_gt {l : List Int} {k : Nat} (h : k < l.length) : l.drop k = gt l k :: l.drop (k + 1) := by
  rw [List.drop_eq_getElem_cons h]
  congr 1
  unfold gt
  rw [if_pos (by omega), Int.toNat_natCast, List.getD_eq_getElem?_getD, List.getElem?_eq_getElem h]
  rfl
theorem readNumber_loop {i wd n : Nat} (hi : RI i wd n) {w : WS} (ho : RO w i wd n) {a s0 : Int} (ha : 0 ≤ a ∧ a < n) (hs : SO (rC w i wd a.toNat)) (h0 : s0 = 0 ∨ s0 = 1) (m : Nat) : ∀ (k : Nat) (acc : Int), (w (i + 2) a.toNat).toNat - k < m → k ≤ (w (i + 2) a.toNat).toNat → f_X6_readNumber_46 i m a s0 (w (i + 2) a.toNat) acc k w = some (if digs ((rC w i wd a.toNat).drop k) = true then (if s0 = 1 then - numF acc ((rC w i wd a.toNat).drop k) else numF acc ((rC w i wd a.toNat).drop k)) else NON, w) := by
  have hz := (ho a.toNat).1
  have hL := rC_len (r := a.toNat) ho
  have h4 := hi.2.2.2.1
  induction m with
  | zero => intro k acc h; omega
  | succ m ih =>
    intro k acc g1 g2
    refine Ev.toEq ?_
    rw [f_X6_readNumber_46_s]
    by_cases e : k = (w (i + 2) a.toNat).toNat
    · have e0 : (rC w i wd a.toNat).drop k = [] := List.drop_eq_nil_of_le (by omega)
      rw [e0]
      refine Ev.neg (by first | omega | (simp (disch := omega) only [wr_eq] <;> omega)) ?_
      rcases h0 with rfl | rfl
      · refine Ev.neg (by first | omega | (simp (disch := omega) only [wr_eq] <;> omega)) ?_
        exact Ev.ret ⟨rfl, rfl⟩
      · refine Ev.pos (by first | omega | (simp (disch := omega) only [wr_eq] <;> omega)) ?_
        exact Ev.ret ⟨rfl, rfl⟩
    · refine Ev.pos (by first | omega | (simp (disch := omega) only [wr_eq] <;> omega)) ?_
      refine Ev.obe (f_sign hi ho ha (by omega)) ?_
      rw [drop_gt (l := rC w i wd a.toNat) (k := k) (by omega)]
      have r1 := gt_in hs (y := k) (by omega)
      by_cases c1 : gt (rC w i wd a.toNat) k - 48 < 0
      · refine Ev.pos (by first | omega | (simp (disch := omega) only [wr_eq] <;> omega)) ?_
        refine Ev.ret ⟨?_, rfl⟩
        rw [if_neg]
        · rfl
        · simp [digs]
          omega
      · refine Ev.neg (by first | omega | (simp (disch := omega) only [wr_eq] <;> omega)) ?_
        by_cases c2 : 9 < gt (rC w i wd a.toNat) k - 48
        · refine Ev.pos (by first | omega | (simp (disch := omega) only [wr_eq] <;> omega)) ?_
          refine Ev.ret ⟨?_, rfl⟩
          rw [if_neg]
          · rfl
          · simp [digs]
            omega
        · refine Ev.neg (by first | omega | (simp (disch := omega) only [wr_eq] <;> omega)) ?_
          have ek : ((k : Int) + 1) = ((k + 1 : Nat) : Int) := by omega
          rw [ek, wr_eq (a := gt (rC w i wd a.toNat) k - 48) (by omega)]
          refine Ev.eq (ih (k + 1) _ (by omega) (by omega)) ⟨?_, rfl⟩
          have ed : digs (gt (rC w i wd a.toNat) k :: (rC w i wd a.toNat).drop (k + 1)) = digs ((rC w i wd a.toNat).drop (k + 1)) := by
            unfold digs
            rw [List.all_cons, decide_eq_true (by omega), Bool.true_and]
          rw [ed]
          rfl
theorem numD_eq {d : List Int} : (numD d = true) ↔ (1 ≤ d.length ∧ d.length ≤ 9) ∧ digs d = true := by
  simp [numD]
theorem f_readNumber {i wd n : Nat} (hi : RI i wd n) {w : WS} (ho : RO w i wd n) {a : Int} (ha : 0 ≤ a ∧ a < n) (hs : SO (rC w i wd a.toNat)) : f_X6_readNumber i a w = some (numS (rC w i wd a.toNat), w) := by
  have hz := (ho a.toNat).1
  have hL := rC_len (r := a.toNat) ho
  have h4 := hi.2.2.2.1
  have key : ∀ s0 : Int, s0 = 0 ∨ s0 = 1 → s0 ≤ w (i + 2) a.toNat → f_X6_readNumber_16 i a s0 w = some (if numD ((rC w i wd a.toNat).drop s0.toNat) = true then (if s0 = 1 then - numF 0 ((rC w i wd a.toNat).drop s0.toNat) else numF 0 ((rC w i wd a.toNat).drop s0.toNat)) else NON, w) := by
    intro s0 h0 h1
    refine Ev.toEq ?_
    unfold f_X6_readNumber_16
    refine Ev.obe (f_length hi ha) ?_
    have hdl : (((rC w i wd a.toNat).drop s0.toNat).length : Int) = w (i + 2) a.toNat - s0 := by
      rw [List.length_drop]
      omega
    by_cases c1 : w (i + 2) a.toNat = s0
    · refine Ev.pos (by first | omega | (simp (disch := omega) only [wr_eq] <;> omega)) ?_
      refine Ev.ret ⟨?_, rfl⟩
      rw [if_neg]
      · rfl
      · intro hh
        have := (numD_eq.mp hh).1
        omega
    · refine Ev.neg (by first | omega | (simp (disch := omega) only [wr_eq] <;> omega)) ?_
      by_cases c2 : s0 + 9 < w (i + 2) a.toNat
      · refine Ev.pos (by first | omega | (simp (disch := omega) only [wr_eq] <;> omega)) ?_
        refine Ev.ret ⟨?_, rfl⟩
        rw [if_neg]
        · rfl
        · intro hh
          have := (numD_eq.mp hh).1
          omega
      · refine Ev.neg (by first | omega | (simp (disch := omega) only [wr_eq] <;> omega)) ?_
        have e0 : s0 = (s0.toNat : Int) := by omega
        have hh := readNumber_loop hi ho (s0 := s0) ha hs h0 FU s0.toNat 0 (by unfold FU; omega) (by omega)
        rw [← e0] at hh
        refine Ev.eq hh ⟨?_, rfl⟩
        have hq : (numD ((rC w i wd a.toNat).drop s0.toNat) = true) ↔ digs ((rC w i wd a.toNat).drop s0.toNat) = true := by
          rw [numD_eq]
          constructor
          · exact fun h => h.2
          · exact fun h => ⟨by omega, h⟩
        by_cases hd : digs ((rC w i wd a.toNat).drop s0.toNat) = true
        · rw [if_pos hd, if_pos (hq.mpr hd)]
        · rw [if_neg hd, if_neg (fun h => hd (hq.mp h))]
  refine Ev.toEq ?_
  unfold f_X6_readNumber numS
  refine Ev.obe (f_sign hi ho ha (by omega)) ?_
  have r1 := gt_rng hs 0
  by_cases c : gt (rC w i wd a.toNat) 0 = 45
  · rw [if_pos c, c]
    refine Ev.pos rfl (Ev.eq (key 1 (Or.inr rfl) ?_) ⟨rfl, rfl⟩)
    by_cases hh : w (i + 2) a.toNat = 0
    · rw [gt_ge (by omega)] at c
      omega
    · omega
  · rw [if_neg c]
    refine Ev.neg (by first | omega | (simp (disch := omega) only [wr_eq] <;> omega)) ?_
    exact Ev.eq (key 0 (Or.inl rfl) (by omega)) ⟨rfl, rfl⟩
