/-! the reference's terms, one at a time -/
theorem lnM {w : WS} {s z st n : Nat} (k : RM w z st n) (r : Nat) : ((rM w s z st r).length : Int) = w z r ∧ 0 ≤ w z r ∧ w z r ≤ st := ⟨rM_len k, (k r).1⟩
theorem m_isNumber_loop {w : WS} (ho : RM w 99 60 50) {a : Nat} (ha : a < 50) (hs : SO (rM w 98 99 60 a)) (m : Nat) : ∀ (k : Nat) (b : Int), (w 99 a).toNat - k < m → k ≤ (w 99 a).toNat → (b = 0 ∨ b = 1) → f_X9_isNumber_49 m a b k w = some (if b = 1 ∧ digs ((rM w 98 99 60 a).drop k) = true then 1 else 0, w) := by
  have hl := lnM (s := 98) ho a
  induction m with
  | zero => intro k b h; omega
  | succ m ih =>
    intro k b g1 g2 hb
    refine Ev.toEq ?_
    rw [f_X9_isNumber_49_s]
    have e1 : wr (a : Int) = a := wr_eq (by omega)
    rw [e1, Int.toNat_natCast]
    refine Ev.pos (by first | omega | (simp (disch := omega) only [wr_eq] <;> omega)) ?_
    have ek : ((k : Int) + 1) = ((k + 1 : Nat) : Int) := by omega
    by_cases e : k = (w 99 a).toNat
    · refine Ev.neg (by first | omega | (simp (disch := omega) only [wr_eq] <;> omega)) ?_
      refine Ev.pos hb (Ev.ret ⟨?_, rfl⟩)
      have e0 : (rM w 98 99 60 a).drop k = [] := List.drop_eq_nil_of_le (by omega)
      rw [e0]
      rcases hb with rfl | rfl
      · rfl
      · rfl
    · refine Ev.pos (by first | omega | (simp (disch := omega) only [wr_eq] <;> omega)) ?_
      rcases hb with rfl | rfl
      · refine Ev.pos rfl ?_
        rw [ek]
        refine Ev.eq (ih (k + 1) 0 (by omega) (by omega) (Or.inl rfl)) ⟨?_, rfl⟩
        rw [if_neg (by omega), if_neg (by omega)]
      · refine Ev.neg (by decide) ?_
        have ei : wr ((60 * (a : Int)) + k) = ((a * 60 + k : Nat) : Int) := by rw [wr_eq (by omega)]; omega
        rw [ei, Int.toNat_natCast]
        refine Ev.pos (by first | omega | (simp (disch := omega) only [wr_eq] <;> omega)) ?_
        have gx := gt_rM (s := 98) (r := a) (y := k) ho (by omega)
        rw [Int.toNat_natCast] at gx
        have r1 := gt_in hs (y := k) (by omega)
        rw [← gx, wr_eq (by omega)]
        rw [drop_gt (l := rM w 98 99 60 a) (k := k) (by omega)]
        refine Ev.obe (f_in (by omega) (by omega) (by omega)) ?_
        have ed : digs (gt (rM w 98 99 60 a) k :: (rM w 98 99 60 a).drop (k + 1)) = (decide (48 ≤ gt (rM w 98 99 60 a) k ∧ gt (rM w 98 99 60 a) k ≤ 57) && digs ((rM w 98 99 60 a).drop (k + 1))) := rfl
        rw [ed, ek]
        by_cases c : 48 ≤ gt (rM w 98 99 60 a) k ∧ gt (rM w 98 99 60 a) k ≤ 57
        · rw [if_pos c, decide_eq_true c, Bool.true_and]
          refine Ev.neg (by decide) ?_
          exact Ev.eq (ih (k + 1) 1 (by omega) (by omega) (Or.inr rfl)) ⟨rfl, rfl⟩
        · rw [if_neg c, decide_eq_false c, Bool.false_and]
          refine Ev.pos rfl ?_
          refine Ev.eq (ih (k + 1) 0 (by omega) (by omega) (Or.inl rfl)) ⟨?_, rfl⟩
          rw [if_neg (by omega), if_neg (by simp)]
theorem m_isNumber_28 {w : WS} (ho : RM w 99 60 50) {a : Nat} (ha : a < 50) (hs : SO (rM w 98 99 60 a)) {s0 : Int} (h0 : s0 = 0 ∨ s0 = 1) (h1 : s0 ≤ w 99 a) : f_X9_isNumber_28 a s0 w = some (if numD ((rM w 98 99 60 a).drop s0.toNat) = true then 1 else 0, w) := by
  have hl := lnM (s := 98) ho a
  refine Ev.toEq ?_
  unfold f_X9_isNumber_28
  have e1 : wr (a : Int) = a := wr_eq (by omega)
  rw [e1, Int.toNat_natCast]
  refine Ev.pos (by first | omega | (simp (disch := omega) only [wr_eq] <;> omega)) ?_
  rw [wr_eq (by omega)]
  refine Ev.obe (f_in (by omega) (by omega) (by omega)) ?_
  have e0 : s0 = (s0.toNat : Int) := by omega
  have hdl : (((rM w 98 99 60 a).drop s0.toNat).length : Int) = w 99 a - s0 := by
    rw [List.length_drop]
    omega
  by_cases c : 1 ≤ w 99 a - s0 ∧ w 99 a - s0 ≤ 9
  · rw [if_pos c]
    have := m_isNumber_loop ho ha hs FU s0.toNat 1 (by unfold FU; omega) (by omega) (Or.inr rfl)
    rw [← e0] at this
    refine Ev.eq this ⟨?_, rfl⟩
    by_cases d : digs ((rM w 98 99 60 a).drop s0.toNat) = true
    · rw [if_pos ⟨rfl, d⟩, if_pos (numD_eq.mpr ⟨by omega, d⟩)]
    · rw [if_neg (fun h => d h.2), if_neg (fun h => d (numD_eq.mp h).2)]
  · rw [if_neg c]
    have := m_isNumber_loop ho ha hs FU s0.toNat 0 (by unfold FU; omega) (by omega) (Or.inl rfl)
    rw [← e0] at this
    refine Ev.eq this ⟨?_, rfl⟩
    rw [if_neg (by omega), if_neg (fun h => by have := (numD_eq.mp h).1; omega)]
theorem numF_ne {l : List Int} (h : numD l = true) : numF 0 l ≠ NON ∧ - numF 0 l ≠ NON := by
  have := numD_rng h
  have := NON_eq
  constructor <;> omega
theorem m_isNumber {w : WS} (ho : RM w 99 60 50) {a : Int} (ha : 0 ≤ a ∧ a < 50) (hs : SO (rM w 98 99 60 a.toNat)) : f_X9_isNumber a w = some (if numS (rM w 98 99 60 a.toNat) ≠ NON then 1 else 0, w) := by
  obtain ⟨a, rfl⟩ : ∃ k : Nat, a = k := ⟨a.toNat, by omega⟩
  rw [Int.toNat_natCast] at hs ⊢
  have hl := lnM (s := 98) ho a
  refine Ev.toEq ?_
  unfold f_X9_isNumber f_X9_isNumber_27
  have e1 : wr (a : Int) = a := wr_eq (by omega)
  have e2 : wr (60 * (a : Int)) = ((a * 60 : Nat) : Int) := by rw [wr_eq (by omega)]; omega
  rw [e1, e2, Int.toNat_natCast, Int.toNat_natCast]
  refine Ev.pos (by first | omega | (simp (disch := omega) only [wr_eq] <;> omega)) ?_
  have fin0 : gt (rM w 98 99 60 a) 0 ≠ 45 → Ev (f_X9_isNumber_28 a 0 w) (fun v1 w1 => (v1 = if numS (rM w 98 99 60 a) ≠ NON then 1 else 0) ∧ w1 = w) := by
    intro h
    refine Ev.eq (m_isNumber_28 ho (by omega) hs (Or.inl rfl) (by omega)) ⟨?_, rfl⟩
    unfold numS
    rw [if_neg h, Int.toNat_zero, List.drop_zero]
    by_cases c : numD (rM w 98 99 60 a) = true
    · rw [if_pos c, if_pos c, if_pos (numF_ne c).1]
    · rw [if_neg c, if_neg c, if_neg (by simp)]
  by_cases c0 : 0 < w 99 a
  · refine Ev.pos (by first | omega | (simp (disch := omega) only [wr_eq] <;> omega)) ?_; refine Ev.pos (by first | omega | (simp (disch := omega) only [wr_eq] <;> omega)) ?_
    have gx := gt_rM (s := 98) (r := a) (y := 0) ho (by omega)
    rw [Int.toNat_zero, Nat.add_zero] at gx
    have r1 := gt_in hs (y := 0) (by omega)
    rw [← gx]
    by_cases c : gt (rM w 98 99 60 a) 0 = 45
    · rw [c]
      refine Ev.pos rfl ?_
      refine Ev.eq (m_isNumber_28 ho (by omega) hs (Or.inr rfl) (by omega)) ⟨?_, rfl⟩
      unfold numS
      rw [if_pos c]
      by_cases d : numD ((rM w 98 99 60 a).drop 1) = true
      · rw [if_pos d, if_pos (by exact d), if_pos (numF_ne d).2]
      · rw [if_neg d, if_neg (by exact d), if_neg (by simp)]
    · refine Ev.neg (by first | omega | (simp (disch := omega) only [wr_eq] <;> omega)) ?_
      exact fin0 c
  · refine Ev.neg (by first | omega | (simp (disch := omega) only [wr_eq] <;> omega)) ?_
    exact fin0 (by rw [gt_ge (by omega)]; omega)
theorem m_numberOf_loop {w : WS} (ho : RM w 99 60 50) {a : Nat} (ha : a < 50) (hs : SO (rM w 98 99 60 a)) {b : Int} (hb : b = 0 ∨ b = 1) (m : Nat) : ∀ (k : Nat) (acc : Int), (w 99 a).toNat - k < m → k ≤ (w 99 a).toNat → f_X9_numberOf_35 m a acc b k w = some (if b = 1 then - numF acc ((rM w 98 99 60 a).drop k) else numF acc ((rM w 98 99 60 a).drop k), w) := by
  have hl := lnM (s := 98) ho a
  induction m with
  | zero => intro k b h; omega
  | succ m ih =>
    intro k acc g1 g2
    refine Ev.toEq ?_
    rw [f_X9_numberOf_35_s]
    have e1 : wr (a : Int) = a := wr_eq (by omega)
    rw [e1, Int.toNat_natCast]
    refine Ev.pos (by first | omega | (simp (disch := omega) only [wr_eq] <;> omega)) ?_
    have ek : ((k : Int) + 1) = ((k + 1 : Nat) : Int) := by omega
    by_cases e : k = (w 99 a).toNat
    · refine Ev.neg (by first | omega | (simp (disch := omega) only [wr_eq] <;> omega)) ?_
      have e0 : (rM w 98 99 60 a).drop k = [] := List.drop_eq_nil_of_le (by omega)
      rw [e0]
      rcases hb with rfl | rfl
      · exact Ev.pos rfl (Ev.ret ⟨rfl, rfl⟩)
      · exact Ev.neg (by decide) (Ev.ret ⟨rfl, rfl⟩)
    · refine Ev.pos (by first | omega | (simp (disch := omega) only [wr_eq] <;> omega)) ?_
      have ei : wr ((60 * (a : Int)) + k) = ((a * 60 + k : Nat) : Int) := by rw [wr_eq (by omega)]; omega
      rw [ei, Int.toNat_natCast]
      refine Ev.pos (by first | omega | (simp (disch := omega) only [wr_eq] <;> omega)) ?_
      have gx := gt_rM (s := 98) (r := a) (y := k) ho (by omega)
      rw [Int.toNat_natCast] at gx
      have r1 := gt_in hs (y := k) (by omega)
      rw [← gx, wr_eq (by omega), ek]
      rw [drop_gt (l := rM w 98 99 60 a) (k := k) (by omega)]
      refine Ev.eq (ih (k + 1) _ (by omega) (by omega)) ⟨?_, rfl⟩
      have : 10 * acc + gt (rM w 98 99 60 a) k - 48 = 10 * acc + (gt (rM w 98 99 60 a) k - 48) := by omega
      rw [this]
      rfl
theorem m_numberOf {w : WS} (ho : RM w 99 60 50) {a : Int} (ha : 0 ≤ a ∧ a < 50) (hs : SO (rM w 98 99 60 a.toNat)) (hn : numS (rM w 98 99 60 a.toNat) ≠ NON) : f_X9_numberOf a w = some (numS (rM w 98 99 60 a.toNat), w) := by
  obtain ⟨a, rfl⟩ : ∃ k : Nat, a = k := ⟨a.toNat, by omega⟩
  rw [Int.toNat_natCast] at hs hn ⊢
  have hl := lnM (s := 98) ho a
  have hpos : 0 < w 99 a := by
    by_cases h : 0 < w 99 a
    · exact h
    · exfalso
      have e0 : rM w 98 99 60 a = [] := List.eq_nil_of_length_eq_zero (by omega)
      rw [e0] at hn
      exact hn rfl
  refine Ev.toEq ?_
  unfold f_X9_numberOf f_X9_numberOf_21
  have e2 : wr (60 * (a : Int)) = ((a * 60 : Nat) : Int) := by rw [wr_eq (by omega)]; omega
  rw [e2, Int.toNat_natCast]
  refine Ev.pos (by first | omega | (simp (disch := omega) only [wr_eq] <;> omega)) ?_
  have gx := gt_rM (s := 98) (r := a) (y := 0) ho (by omega)
  rw [Int.toNat_zero, Nat.add_zero] at gx
  have r1 := gt_in hs (y := 0) (by omega)
  rw [← gx]
  unfold numS at hn ⊢
  by_cases c : gt (rM w 98 99 60 a) 0 = 45
  · rw [if_pos c] at hn ⊢
    rw [c]
    refine Ev.pos rfl (Ev.neg (by decide) ?_)
    refine Ev.eq (m_numberOf_loop ho (by omega) hs (Or.inr rfl) FU 1 0 (by unfold FU; omega) (by omega)) ⟨?_, rfl⟩
    by_cases d : numD ((rM w 98 99 60 a).drop 1) = true
    · rw [if_pos rfl, if_pos d]
    · rw [if_neg d] at hn
      exact absurd rfl hn
  · rw [if_neg c] at hn ⊢
    refine Ev.neg (by first | omega | (simp (disch := omega) only [wr_eq] <;> omega)) ?_
    refine Ev.pos rfl ?_
    refine Ev.eq (m_numberOf_loop ho (by omega) hs (Or.inl rfl) FU 0 0 (by unfold FU; omega) (by omega)) ⟨?_, rfl⟩
    by_cases d : numD (rM w 98 99 60 a) = true
    · rw [if_neg (by omega), if_pos d]
      rfl
    · rw [if_neg d] at hn
      exact absurd rfl hn
