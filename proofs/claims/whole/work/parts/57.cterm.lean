theorem mul_rng {a b : Int} (ha : -999999999 ≤ a ∧ a ≤ 999999999) (hb : -999999999 ≤ b ∧ b ≤ 999999999) : -1000000000000000000 ≤ a * b ∧ a * b ≤ 1000000000000000000 := by
  have h1 : (a * b).natAbs = a.natAbs * b.natAbs := Int.natAbs_mul a b
  have h2 : a.natAbs * b.natAbs ≤ 999999999 * 999999999 := Nat.mul_le_mul (by omega) (by omega)
  omega
theorem div_rng {a : Int} (b : Int) (ha : -999999999 ≤ a ∧ a ≤ 999999999) : -999999999 ≤ Int.tdiv a b ∧ Int.tdiv a b ≤ 999999999 := by
  have h1 : (Int.tdiv a b).natAbs = a.natAbs / b.natAbs := Int.natAbs_tdiv a b
  have h2 : a.natAbs / b.natAbs ≤ a.natAbs := Nat.div_le_self _ _
  omega
theorem f_isBelow {x n : Int} (hx : -2147483648 ≤ x ∧ x < 2147483648) (hn : -2147483648 ≤ n ∧ n < 2147483648) (w : WS) : f_X8_isBelow x n w = some (if 0 ≤ x ∧ x < n then 1 else 0, w) := by
  unfold f_X8_isBelow
  rw [wr_eq hx, wr_eq hn]
  by_cases h1 : x < 0
  · rw [if_pos h1, if_neg (by omega)]
  · rw [if_neg h1]
    by_cases h2 : x < n
    · rw [if_pos h2, if_pos (by omega)]
    · rw [if_neg h2, if_neg (by omega)]
/-- what the working out of a term looks at -/
def CK (w : WS) (k : Nat) (A B : List Int) : Prop := RO w 16 60 50 ∧ RO w 4 20 30 ∧ RO w 7 60 26 ∧ k < 50 ∧ TK1 (w 34 k) (w 36 k) (w 38 k) k ∧ rC w 16 60 k = [] ∧ (w 34 k ≠ 116 → w 34 k ≠ 118 → rC w 16 60 (w 36 k).toNat = A) ∧ (w 34 k ≠ 116 → w 34 k ≠ 118 → w 34 k ≠ 119 → w 34 k ≠ 35 → w 34 k ≠ 114 → rC w 16 60 (w 38 k).toNat = B) ∧ SO A ∧ SO B
theorem c_212 {w : WS} {k : Nat} (ho : RO w 16 60 50) (hk : k < 50) {x : Int} (hx : -1000000000000000000 ≤ x ∧ x ≤ 1000000000000000000) : Ev (f_X5_reckon_212 k x w) (P1 w k (if 999999999 < x ∨ x < -999999999 then (1, []) else (0, decS x))) := by
  unfold f_X5_reckon_212
  by_cases h1 : 999999999 < x
  · rw [if_pos (Or.inl h1)]
    refine Ev.pos (by first | omega | (simp (disch := omega) only [wr_eq, wl_eq] <;> omega)) ?_
    exact Ev.ret (P1.none ho (by omega))
  · refine Ev.neg (by first | omega | (simp (disch := omega) only [wr_eq, wl_eq] <;> omega)) ?_
    by_cases h2 : x < -999999999
    · rw [if_pos (Or.inr h2)]
      refine Ev.pos (by first | omega | (simp (disch := omega) only [wr_eq, wl_eq] <;> omega)) ?_
      exact Ev.ret (P1.none ho (by omega))
    · have hq : ¬ (999999999 < x ∨ x < -999999999) := by omega
      rw [if_neg hq]
      refine Ev.neg (by first | omega | (simp (disch := omega) only [wr_eq, wl_eq] <;> omega)) ?_
      refine Ev.bd (f_writeNumber RI_16 ho (a := k) (by omega) (by omega)) ?_
      rintro v w1 ⟨-, g1, g2, g3⟩
      rw [Int.toNat_natCast] at g3
      exact Ev.ret (P1.vs g1 g2 g3)
theorem c_reckon {w : WS} {k : Nat} {A B : List Int} (h : CK w k A B) (hn : w 34 k = 43 ∨ w 34 k = 45 ∨ w 34 k = 42 ∨ w 34 k = 47 ∨ w 34 k = 60 ∨ w 34 k = 100) : Ev (f_X5_reckon k w) (P1 w k (ev1 (w 34 k) (w 36 k) (rC w 4 20) (rC w 7 60) A B)) := by
  obtain ⟨ho, hT, hV, hk, ht, hc, hA, hB, sA, sB⟩ := h
  have hA := hA (by omega) (by omega)
  have hB := hB (by omega) (by omega) (by omega) (by omega) (by omega)
  have hy : (0 ≤ w 36 k ∧ w 36 k < k) ∧ 0 ≤ w 38 k ∧ w 38 k < k := by unfold TK1 at ht; omega
  have g1 : f_X1_get 33 k w = some (w 34 k, w) := f_get (i := 33) (n := 50) rfl (by omega) (by omega)
  have g2 : f_X1_get 35 k w = some (w 36 k, w) := f_get (i := 35) (n := 50) rfl (by omega) (by omega)
  have g3 : f_X1_get 37 k w = some (w 38 k, w) := f_get (i := 37) (n := 50) rfl (by omega) (by omega)
  have rB := f_readNumber RI_16 ho (a := w 38 k) (by omega) (by rw [hB]; exact sB)
  have rA := f_readNumber RI_16 ho (a := w 36 k) (by omega) (by rw [hA]; exact sA)
  rw [hA] at rA
  rw [hB] at rB
  have nA := numS_rng A
  have nB := numS_rng B
  have eN := NON_eq
  have lA := ln (z := 18) rfl ho (w 36 k).toNat
  rw [hA] at lA
  unfold f_X5_reckon
  refine Ev.obe g1 ?_
  refine Ev.obe g2 ?_
  by_cases hd : w 34 k = 100
  · rw [hd]
    refine Ev.pos rfl ?_
    unfold f_X5_reckon_42
    refine Ev.obe g3 ?_
    refine Ev.obe rB ?_
    refine Ev.neg (by first | omega | (simp (disch := omega) only [wr_eq, wl_eq] <;> omega)) ?_
    have ee : ev1 100 (w 36 k) (rC w 4 20) (rC w 7 60) A B = (if numS B = NON ∨ numS B < 0 ∨ 60 < numS B then (1, []) else if 60 < A.length * numS B then (4, []) else (0, repL A (numS B).toNat)) := by simp [ev1]
    rw [ee]
    by_cases q1 : numS B = NON
    · rw [if_pos (Or.inl q1), q1]
      refine Ev.pos rfl ?_
      exact Ev.ret (P1.none ho (by omega))
    · refine Ev.neg (by first | omega | (simp (disch := omega) only [wr_eq, wl_eq] <;> omega)) ?_; refine Ev.neg (by first | omega | (simp (disch := omega) only [wr_eq] <;> omega)) ?_; refine Ev.neg (by first | omega | (simp (disch := omega) only [wr_eq] <;> omega)) ?_; refine Ev.neg (by first | omega | (simp (disch := omega) only [wr_eq] <;> omega)) ?_; refine Ev.neg (by first | omega | (simp (disch := omega) only [wr_eq] <;> omega)) ?_; refine Ev.neg (by first | omega | (simp (disch := omega) only [wr_eq] <;> omega)) ?_
      have fin : Ev (f_X5_formRepeated k (w 36 k) (numS B) w) (P1 w k (if numS B = NON ∨ numS B < 0 ∨ 60 < numS B then (1, []) else if 60 < A.length * numS B then (4, []) else (0, repL A (numS B).toNat))) := by
        unfold f_X5_formRepeated
        by_cases q2 : numS B < 0
        · refine Ev.pos (by first | omega | (simp (disch := omega) only [wr_eq, wl_eq] <;> omega)) ?_
          rw [if_pos (Or.inr (Or.inl q2))]
          exact Ev.ret (P1.none ho (by omega))
        · refine Ev.neg (by first | omega | (simp (disch := omega) only [wr_eq, wl_eq] <;> omega)) ?_
          by_cases q3 : 60 < numS B
          · refine Ev.pos (by first | omega | (simp (disch := omega) only [wr_eq, wl_eq] <;> omega)) ?_
            rw [if_pos (Or.inr (Or.inr q3))]
            exact Ev.ret (P1.none ho (by omega))
          · refine Ev.neg (by first | omega | (simp (disch := omega) only [wr_eq, wl_eq] <;> omega)) ?_
            have hq : ¬ (numS B = NON ∨ numS B < 0 ∨ 60 < numS B) := by omega
            rw [if_neg hq]
            have en : numS B = ((numS B).toNat : Int) := by omega
            generalize (numS B).toNat = n at en ⊢
            rw [en]
            exact rep_loop (by omega) hk A (by omega) (n := n) (by omega) FU 0 w (by unfold FU; omega) (by omega) ho hA hc
      refine Ev.bd fin ?_
      rintro v w1 g
      exact Ev.ret g
  · refine Ev.neg (by first | omega | (simp (disch := omega) only [wr_eq] <;> omega)) ?_
    refine Ev.obe rA ?_
    unfold f_X5_reckon_42
    refine Ev.obe g3 ?_
    refine Ev.obe rB ?_
    have ee : ev1 (w 34 k) (w 36 k) (rC w 4 20) (rC w 7 60) A B = (if numS A = NON ∨ numS B = NON then (1, []) else if w 34 k = 60 then (if numS A < numS B then (0, []) else (-1, [])) else if w 34 k = 47 ∧ numS B = 0 then (2, []) else if 999999999 < calc1 (w 34 k) (numS A) (numS B) ∨ calc1 (w 34 k) (numS A) (numS B) < -999999999 then (1, []) else (0, decS (calc1 (w 34 k) (numS A) (numS B)))) := by
      unfold ev1
      rw [if_neg (by omega), if_neg (by omega), if_neg (by omega), if_neg (by omega), if_neg (by omega), if_neg (by omega), if_neg (by omega), if_neg (by omega)]
    rw [ee]
    by_cases q1 : numS A = NON
    · rw [if_pos (Or.inl q1), q1]
      refine Ev.pos rfl ?_
      exact Ev.ret (P1.none ho (by omega))
    · refine Ev.neg (by first | omega | (simp (disch := omega) only [wr_eq, wl_eq] <;> omega)) ?_
      by_cases q2 : numS B = NON
      · rw [if_pos (Or.inr q2), q2]
        refine Ev.pos rfl ?_
        exact Ev.ret (P1.none ho (by omega))
      · refine Ev.neg (by first | omega | (simp (disch := omega) only [wr_eq, wl_eq] <;> omega)) ?_
        rw [if_neg (fun h : numS A = NON ∨ numS B = NON => h.elim q1 q2)]
        have m1 := mul_rng (a := numS A) (b := numS B) (by omega) (by omega)
        have m2 := div_rng (a := numS A) (numS B) (by omega)
        rcases hn with e | e | e | e | e | e
        · rw [e, if_neg (by omega : ¬ ((43 : Int) = 60)), if_neg (by omega : ¬ ((43 : Int) = 47 ∧ numS B = 0)), show calc1 43 (numS A) (numS B) = numS A + numS B from by simp [calc1]]
          refine Ev.neg (by first | omega | (simp (disch := omega) only [wr_eq] <;> omega)) ?_; refine Ev.pos (by first | omega | (simp (disch := omega) only [wr_eq] <;> omega)) ?_
          exact c_212 ho hk (by omega)
        · rw [e, if_neg (by omega : ¬ ((45 : Int) = 60)), if_neg (by omega : ¬ ((45 : Int) = 47 ∧ numS B = 0)), show calc1 45 (numS A) (numS B) = numS A - numS B from by simp [calc1]]
          refine Ev.neg (by first | omega | (simp (disch := omega) only [wr_eq] <;> omega)) ?_; refine Ev.neg (by first | omega | (simp (disch := omega) only [wr_eq] <;> omega)) ?_; refine Ev.pos (by first | omega | (simp (disch := omega) only [wr_eq] <;> omega)) ?_
          exact c_212 ho hk (by omega)
        · rw [e, if_neg (by omega : ¬ ((42 : Int) = 60)), if_neg (by omega : ¬ ((42 : Int) = 47 ∧ numS B = 0)), show calc1 42 (numS A) (numS B) = numS A * numS B from by simp [calc1]]
          refine Ev.pos (by first | omega | (simp (disch := omega) only [wr_eq] <;> omega)) ?_
          exact c_212 ho hk (by omega)
        · rw [e, if_neg (by omega : ¬ ((47 : Int) = 60)), show calc1 47 (numS A) (numS B) = Int.tdiv (numS A) (numS B) from by simp [calc1]]
          refine Ev.neg (by first | omega | (simp (disch := omega) only [wr_eq] <;> omega)) ?_; refine Ev.neg (by first | omega | (simp (disch := omega) only [wr_eq] <;> omega)) ?_; refine Ev.neg (by first | omega | (simp (disch := omega) only [wr_eq] <;> omega)) ?_; refine Ev.pos (by first | omega | (simp (disch := omega) only [wr_eq] <;> omega)) ?_
          by_cases q3 : numS B = 0
          · have hq : (47 : Int) = 47 ∧ numS B = 0 := ⟨rfl, q3⟩
            rw [if_pos hq, q3]
            refine Ev.pos rfl ?_
            exact Ev.ret (P1.none ho (by omega))
          · rw [if_neg (by omega : ¬ ((47 : Int) = 47 ∧ numS B = 0))]
            refine Ev.neg (by first | omega | (simp (disch := omega) only [wr_eq, wl_eq] <;> omega)) ?_; refine Ev.pos (by first | omega | (simp (disch := omega) only [wr_eq, wl_eq] <;> omega)) ?_
            rw [wl_eq (by omega), wl_eq (by omega)]
            exact c_212 ho hk (by omega)
        · rw [e, if_pos rfl]
          refine Ev.neg (by first | omega | (simp (disch := omega) only [wr_eq] <;> omega)) ?_; refine Ev.neg (by first | omega | (simp (disch := omega) only [wr_eq] <;> omega)) ?_; refine Ev.neg (by first | omega | (simp (disch := omega) only [wr_eq] <;> omega)) ?_; refine Ev.neg (by first | omega | (simp (disch := omega) only [wr_eq] <;> omega)) ?_; refine Ev.pos (by first | omega | (simp (disch := omega) only [wr_eq] <;> omega)) ?_
          by_cases q3 : numS A < numS B
          · rw [if_pos q3]
            refine Ev.pos (by first | omega | (simp (disch := omega) only [wr_eq, wl_eq] <;> omega)) ?_
            exact Ev.ret (P1.nil ho hc)
          · rw [if_neg q3]
            refine Ev.neg (by first | omega | (simp (disch := omega) only [wr_eq, wl_eq] <;> omega)) ?_
            exact Ev.ret (P1.none ho (by omega))
        · exact absurd e hd
theorem c_form {w : WS} {k : Nat} {A B : List Int} (h : CK w k A B) (hn : ¬ (w 34 k = 43 ∨ w 34 k = 45 ∨ w 34 k = 42 ∨ w 34 k = 47 ∨ w 34 k = 60 ∨ w 34 k = 100)) : Ev (f_X5_form k w) (P1 w k (ev1 (w 34 k) (w 36 k) (rC w 4 20) (rC w 7 60) A B)) := by
  obtain ⟨ho, hT, hV, hk, ht, hc, hA, hB, sA, sB⟩ := h
  have g1 : f_X1_get 33 k w = some (w 34 k, w) := f_get (i := 33) (n := 50) rfl (by omega) (by omega)
  have g2 : f_X1_get 35 k w = some (w 36 k, w) := f_get (i := 35) (n := 50) rfl (by omega) (by omega)
  have g3 : f_X1_get 37 k w = some (w 38 k, w) := f_get (i := 37) (n := 50) rfl (by omega) (by omega)
  have lk := ln (z := 18) rfl ho k
  rw [hc] at lk
  have lk0 : w 18 k = 0 := by rw [← lk.1]; rfl
  unfold f_X5_form
  refine Ev.obe g2 ?_
  refine Ev.obe g3 ?_
  refine Ev.obe g1 ?_
  unfold TK1 at ht
  rcases ht with ⟨e, hx⟩ | ⟨e, hx⟩ | ⟨e | e | e, hx⟩ | ⟨e, hx⟩
  · rw [e]
    refine Ev.neg (by first | omega | (simp (disch := omega) only [wr_eq] <;> omega)) ?_; refine Ev.neg (by first | omega | (simp (disch := omega) only [wr_eq] <;> omega)) ?_; refine Ev.neg (by first | omega | (simp (disch := omega) only [wr_eq] <;> omega)) ?_; refine Ev.pos (by first | omega | (simp (disch := omega) only [wr_eq] <;> omega)) ?_
    have lT := (hT (w 36 k).toNat).1
    refine Ev.bd (f_copy RI_16 ho RI_4 hT (a := k) (b := w 36 k) (by omega) (by omega) (by omega) (by omega)) ?_
    rintro v w1 ⟨-, q1, q2, q3⟩
    rw [Int.toNat_natCast] at q3
    exact Ev.ret (P1.vs q1 q2 q3)
  · rw [e]
    refine Ev.neg (by first | omega | (simp (disch := omega) only [wr_eq] <;> omega)) ?_; refine Ev.neg (by first | omega | (simp (disch := omega) only [wr_eq] <;> omega)) ?_; refine Ev.neg (by first | omega | (simp (disch := omega) only [wr_eq] <;> omega)) ?_; refine Ev.neg (by first | omega | (simp (disch := omega) only [wr_eq] <;> omega)) ?_; refine Ev.pos (by first | omega | (simp (disch := omega) only [wr_eq] <;> omega)) ?_
    have lV := (hV (w 36 k).toNat).1
    refine Ev.bd (f_copy RI_16 ho RI_7 hV (a := k) (b := w 36 k) (by omega) (by omega) (by omega) (by omega)) ?_
    rintro v w1 ⟨-, q1, q2, q3⟩
    rw [Int.toNat_natCast] at q3
    exact Ev.ret (P1.vs q1 q2 q3)
  · have hA := hA (by omega) (by omega)
    have lA := ln (z := 18) rfl ho (w 36 k).toNat
    rw [hA] at lA
    rw [e]
    refine Ev.neg (by first | omega | (simp (disch := omega) only [wr_eq] <;> omega)) ?_; refine Ev.neg (by first | omega | (simp (disch := omega) only [wr_eq] <;> omega)) ?_; refine Ev.neg (by first | omega | (simp (disch := omega) only [wr_eq] <;> omega)) ?_; refine Ev.neg (by first | omega | (simp (disch := omega) only [wr_eq] <;> omega)) ?_; refine Ev.neg (by first | omega | (simp (disch := omega) only [wr_eq] <;> omega)) ?_; refine Ev.pos (by first | omega | (simp (disch := omega) only [wr_eq] <;> omega)) ?_
    have ee : ev1 119 (w 36 k) (rC w 4 20) (rC w 7 60) A B = (if A.length = 1 ∧ 97 ≤ gt A 0 ∧ gt A 0 ≤ 122 then (0, (rC w 7 60) (gt A 0 - 97).toNat) else (8, [])) := by simp [ev1]
    rw [ee]
    have r1 := gt_rng sA 0
    have vn : f_X5_variableNamed (w 36 k) w = some (if A.length = 1 ∧ 97 ≤ gt A 0 ∧ gt A 0 ≤ 122 then gt A 0 - 97 else -1, w) := by
      refine Ev.toEq ?_
      unfold f_X5_variableNamed
      refine Ev.obe (f_sign RI_16 ho (by omega) (by omega)) ?_
      have hl : f_X6_length 16 (w 36 k) w = some (w 18 (w 36 k).toNat, w) := f_length RI_16 (by omega)
      refine Ev.obe hl ?_
      rw [hA]
      by_cases c1 : A.length = 1
      · refine Ev.pos (by first | omega | (simp (disch := omega) only [wr_eq] <;> omega)) ?_
        refine Ev.obe (f_isBelow (by omega) (by omega) w) ?_
        by_cases c2 : 97 ≤ gt A 0 ∧ gt A 0 ≤ 122
        · have hq : 0 ≤ gt A 0 - 97 ∧ gt A 0 - 97 < 26 := by omega
          rw [if_pos hq]
          refine Ev.neg (by decide) ?_
          exact Ev.ret ⟨(if_pos ⟨c1, c2⟩).symm, rfl⟩
        · have hq : ¬ (0 ≤ gt A 0 - 97 ∧ gt A 0 - 97 < 26) := by omega
          rw [if_neg hq]
          refine Ev.pos rfl ?_
          exact Ev.ret ⟨(if_neg (fun h => c2 h.2)).symm, rfl⟩
      · refine Ev.neg (by first | omega | (simp (disch := omega) only [wr_eq] <;> omega)) ?_
        exact Ev.ret ⟨(if_neg (fun h => c1 h.1)).symm, rfl⟩
    refine Ev.obe vn ?_
    by_cases c1 : A.length = 1 ∧ 97 ≤ gt A 0 ∧ gt A 0 ≤ 122
    · rw [if_pos c1, if_pos c1]
      refine Ev.neg (by first | omega | (simp (disch := omega) only [wr_eq] <;> omega)) ?_
      have lV := (hV (gt A 0 - 97).toNat).1
      refine Ev.bd (f_copy RI_16 ho RI_7 hV (a := k) (b := gt A 0 - 97) (by omega) (by omega) (by omega) (by omega)) ?_
      rintro v w1 ⟨-, q1, q2, q3⟩
      rw [Int.toNat_natCast] at q3
      exact Ev.ret (P1.vs q1 q2 q3)
    · rw [if_neg c1, if_neg c1]
      refine Ev.pos rfl ?_
      exact Ev.ret (P1.none ho (by omega))
  · have hA := hA (by omega) (by omega)
    have lA := ln (z := 18) rfl ho (w 36 k).toNat
    rw [hA] at lA
    rw [e]
    refine Ev.pos (by first | omega | (simp (disch := omega) only [wr_eq] <;> omega)) ?_
    have hl : f_X6_length 16 (w 36 k) w = some (w 18 (w 36 k).toNat, w) := f_length RI_16 (by omega)
    refine Ev.obe hl ?_
    rw [wr_eq (by omega), ← lA.1]
    refine Ev.bd (f_writeNumber RI_16 ho (a := k) (by omega) (by omega)) ?_
    rintro v w1 ⟨-, q1, q2, q3⟩
    rw [Int.toNat_natCast] at q3
    exact Ev.ret (P1.vs q1 q2 q3)
  · have hA := hA (by omega) (by omega)
    have lA := ln (z := 18) rfl ho (w 36 k).toNat
    rw [hA] at lA
    rw [e]
    refine Ev.neg (by first | omega | (simp (disch := omega) only [wr_eq] <;> omega)) ?_; refine Ev.neg (by first | omega | (simp (disch := omega) only [wr_eq] <;> omega)) ?_; refine Ev.pos (by first | omega | (simp (disch := omega) only [wr_eq] <;> omega)) ?_
    unfold f_X5_formBackward
    have hl : f_X6_length 16 (w 36 k) w = some (w 18 (w 36 k).toNat, w) := f_length RI_16 (by omega)
    rw [hl, ob_some, ← lA.1]
    refine Ev.bd (back_loop hx hk A (by omega) FU A.length w (by unfold FU; omega) (Nat.le_refl _) ho hA (by rw [hc, List.drop_length]; rfl)) ?_
    rintro v w1 ⟨-, q1, q2, q3⟩
    exact Ev.ret (P1.vs q1 q2 q3)
  · have hA := hA (by omega) (by omega)
    have lA := ln (z := 18) rfl ho (w 36 k).toNat
    rw [hA] at lA
    have hB := hB (by omega) (by omega) (by omega) (by omega) (by omega)
    have lB := ln (z := 18) rfl ho (w 38 k).toNat
    rw [hB] at lB
    have e2 : w 34 k = 38 ∨ w 34 k = 61 := by omega
    rcases e2 with e | e
    · rw [e]
      refine Ev.neg (by first | omega | (simp (disch := omega) only [wr_eq] <;> omega)) ?_; refine Ev.pos (by first | omega | (simp (disch := omega) only [wr_eq] <;> omega)) ?_
      have ee : ev1 38 (w 36 k) (rC w 4 20) (rC w 7 60) A B = (if 60 < A.length + B.length then (4, []) else (0, A ++ B)) := by simp [ev1]
      rw [ee]
      refine Ev.bd (f_appendAll_yes RI_16 ho RI_16 ho (a := k) (b := w 36 k) (by omega) (by omega) (Or.inr (by omega)) (by first | omega | (simp only [Nat.reduceAdd, Int.toNat_natCast] <;> omega))) ?_
      rintro v w1 ⟨rfl, q1, q2, q3⟩
      refine Ev.neg (by decide) ?_
      rw [Int.toNat_natCast, hA, hc, List.nil_append] at q3
      have l1 := ln (z := 18) rfl q2 k
      have l2 := ln (z := 18) rfl q2 (w 38 k).toNat
      have eB : rC w1 16 60 (w 38 k).toNat = B := by rw [q3, vs_ne _ _ (by omega), hB]
      have eA : rC w1 16 60 k = A := by rw [q3, vs_same]
      rw [eA] at l1
      rw [eB] at l2
      by_cases c1 : 60 < A.length + B.length
      · rw [if_pos c1, f_appendAll_no RI_16 q2 RI_16 q2 (a := k) (b := w 38 k) (by omega) (by omega) (by first | omega | (simp only [Nat.reduceAdd, Int.toNat_natCast] <;> omega)), ob_some]
        refine Ev.pos rfl (Ev.ret ⟨rfl, q1, q2, (fun h => absurd (h : (4 : Int) = 0) (by decide)), fun r hr => ?_⟩)
        rw [q3, vs_ne _ _ hr]
      · rw [if_neg c1]
        refine Ev.bd (f_appendAll_yes RI_16 q2 RI_16 q2 (a := k) (b := w 38 k) (by omega) (by omega) (Or.inr (by omega)) (by first | omega | (simp only [Nat.reduceAdd, Int.toNat_natCast] <;> omega))) ?_
        rintro v w2 ⟨rfl, p1, p2, p3⟩
        refine Ev.neg (by decide) ?_
        rw [Int.toNat_natCast, eA, eB, q3, vs_vs] at p3
        exact Ev.ret (P1.vs (q1.tr p1) p2 p3)
    · rw [e]
      refine Ev.neg (by first | omega | (simp (disch := omega) only [wr_eq] <;> omega)) ?_; refine Ev.neg (by first | omega | (simp (disch := omega) only [wr_eq] <;> omega)) ?_; refine Ev.neg (by first | omega | (simp (disch := omega) only [wr_eq] <;> omega)) ?_; refine Ev.neg (by first | omega | (simp (disch := omega) only [wr_eq] <;> omega)) ?_; refine Ev.neg (by first | omega | (simp (disch := omega) only [wr_eq] <;> omega)) ?_; refine Ev.neg (by first | omega | (simp (disch := omega) only [wr_eq] <;> omega)) ?_
      have hl : f_X6_length 16 (w 36 k) w = some (w 18 (w 36 k).toNat, w) := f_length RI_16 (by omega)
      have hl2 : f_X6_length 16 (w 38 k) w = some (w 18 (w 38 k).toNat, w) := f_length RI_16 (by omega)
      refine Ev.obe hl ?_
      refine Ev.obe hl2 ?_
      have ee : ev1 61 (w 36 k) (rC w 4 20) (rC w 7 60) A B = (if A = B then (0, []) else (-1, [])) := by simp [ev1]
      rw [ee, ← lA.1, ← lB.1]
      by_cases c1 : A.length = B.length
      · refine Ev.pos (by first | omega | (simp (disch := omega) only [wr_eq] <;> omega)) ?_
        have hh := f_hasThere RI_16 RI_16 ho ho (a := w 36 k) (b := w 38 k) (y := 0) (by omega) (by omega) (by omega) (by rw [hA]; exact sA) (by rw [hB]; exact sB)
        rw [hA, hB] at hh
        refine Ev.obe hh ?_
        have hq : hasAt A B 0 = true ↔ A = B := by
          rw [hasAt_iff]
          constructor
          · intro h
            refine List.ext_getElem c1 (fun n h1 h2 => ?_)
            have := h n h2
            rw [Int.zero_add] at this
            unfold gt at this
            rw [if_pos (by omega), if_pos (by omega), Int.toNat_natCast, List.getD_eq_getElem?_getD, List.getD_eq_getElem?_getD, List.getElem?_eq_getElem h1, List.getElem?_eq_getElem h2] at this
            exact this
          · intro h q hq
            rw [h, Int.zero_add]
        by_cases c2 : A = B
        · rw [if_pos c2, if_pos (hq.mpr c2)]
          refine Ev.neg (by decide) ?_
          exact Ev.ret (P1.nil ho hc)
        · rw [if_neg c2, if_neg (fun h => c2 (hq.mp h))]
          refine Ev.pos rfl ?_
          exact Ev.ret (P1.none ho (by omega))
      · refine Ev.neg (by first | omega | (simp (disch := omega) only [wr_eq] <;> omega)) ?_
        rw [if_neg (fun h => c1 (by rw [h]))]
        exact Ev.ret (P1.none ho (by omega))
