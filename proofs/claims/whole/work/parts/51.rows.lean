/-! the class's Rows -/
theorem f_length {i wd n : Nat} (hi : RI i wd n) {w : WS} {a : Int} (ha : 0 ≤ a ∧ a < n) : f_X6_length i a w = some (w (i + 2) a.toNat, w) := by
  obtain ⟨-, -, h3, -, -, h5, -⟩ := hi
  refine Ev.toEq ?_
  unfold f_X6_length
  rw [h3]
  refine Ev.neg (by first | omega | (simp (disch := omega) only [wr_eq] <;> omega)) ?_; refine Ev.pos (by first | omega | (simp (disch := omega) only [wr_eq] <;> omega)) ?_; refine Ev.pos (by first | omega | (simp (disch := omega) only [wr_eq] <;> omega)) ?_
  rw [wr_eq (by omega)]
  exact Ev.ret ⟨rfl, rfl⟩
theorem f_clear {i wd n : Nat} (hi : RI i wd n) {w : WS} {a : Int} (ha : 0 ≤ a ∧ a < n) : f_X6_clear i a w = some (0, up w (i + 2) a.toNat 0) := by
  obtain ⟨-, -, h3, -, -, h5, -⟩ := hi
  refine Ev.toEq ?_
  unfold f_X6_clear
  rw [h3]
  refine Ev.neg (by first | omega | (simp (disch := omega) only [wr_eq] <;> omega)) ?_; refine Ev.pos (by first | omega | (simp (disch := omega) only [wr_eq] <;> omega)) ?_; refine Ev.pos (by first | omega | (simp (disch := omega) only [wr_eq] <;> omega)) ?_
  rw [wr_eq (by omega)]
  exact Ev.ret ⟨rfl, rfl⟩
theorem RO_clear {i wd n : Nat} {w : WS} (a : Nat) (h : RO w i wd n) : RO (up w (i + 2) a 0) i wd n := fun r => by
  by_cases e : r = a
  · subst e
    rw [up_same]
    omega
  · rw [up_slot _ _ _ _ e]
    exact h r
theorem rC_clear {i wd : Nat} {w : WS} (a : Nat) : rC (up w (i + 2) a 0) i wd = vs (rC w i wd) a [] := by
  funext r
  unfold rC vs
  rw [up_row w a 0 (by omega : i + 1 ≠ i + 2)]
  by_cases e : r = a
  · subst e
    rw [up_same, if_pos rfl]
    rfl
  · rw [up_slot _ _ _ _ e, if_neg e]
/-- a sign of a list, by a whole number; -1 where there is none -/
def gt (l : List Int) (y : Int) : Int := if 0 ≤ y then l.getD y.toNat (-1) else -1
theorem gt_neg {l : List Int} {y : Int} (h : y < 0) : gt l y = -1 := if_neg (by omega)
theorem gt_ge {l : List Int} {y : Int} (h : (l.length : Int) ≤ y) : gt l y = -1 := by
  unfold gt
  rw [if_pos (by omega), List.getD_eq_getElem?_getD, List.getElem?_eq_none (by omega)]
  rfl
theorem gt_mem {l : List Int} {y : Int} (h : 0 ≤ y ∧ y < l.length) : gt l y ∈ l := by
  unfold gt
  rw [if_pos h.1, List.getD_eq_getElem?_getD, List.getElem?_eq_getElem (by omega)]
  exact List.getElem_mem _
theorem gt_sg {a : Nat → Int} {o n : Nat} {y : Int} (h : 0 ≤ y ∧ y < n) : gt (sg a o n) y = a (o + y.toNat) := by
  unfold gt
  rw [if_pos h.1, sg_getD _ _ _ (by omega)]
theorem gt_rC {w : WS} {i wd n r : Nat} (k : RO w i wd n) {y : Int} (h : 0 ≤ y ∧ y < w (i + 2) r) : gt (rC w i wd r) y = w (i + 1) (r * wd + y.toNat) := gt_sg (by have := (k r).1; omega)
theorem f_sign {i wd n : Nat} (hi : RI i wd n) {w : WS} (ho : RO w i wd n) {a y : Int} (ha : 0 ≤ a ∧ a < n) (hy : -2147483648 ≤ y ∧ y < 2147483648) : f_X6_sign i a y w = some (gt (rC w i wd a.toNat) y, w) := by
  obtain ⟨h1, h2, h3, h4, h5, h6, -⟩ := hi
  refine Ev.toEq ?_
  unfold f_X6_sign
  have hs := (ho a.toNat).1
  have hl := rC_len (r := a.toNat) ho
  have hg := gt_rC (r := a.toNat) (y := y) ho
  rw [h1, h2, h3]
  have e1 : wr a = a := wr_eq (by omega)
  rw [e1]
  have hm : a * (wd : Int) = ((a.toNat * wd : Nat) : Int) := by
    rw [Int.natCast_mul, Int.toNat_of_nonneg ha.1]
  have hb : a.toNat * wd + wd ≤ n * wd := by
    have : a.toNat + 1 ≤ n := by omega
    calc a.toNat * wd + wd = (a.toNat + 1) * wd := by rw [Nat.add_mul, Nat.one_mul]
      _ ≤ n * wd := Nat.mul_le_mul_right wd this
  have hb2 : n * wd ≤ 3000 := by
    rcases h4 with rfl | rfl <;> omega
  rw [hm]
  refine Ev.neg (by first | omega | (simp (disch := omega) only [wr_eq] <;> omega)) ?_; refine Ev.pos (by first | omega | (simp (disch := omega) only [wr_eq] <;> omega)) ?_
  by_cases g1 : y < 0
  · refine Ev.pos (by first | omega | (simp (disch := omega) only [wr_eq] <;> omega)) ?_
    exact Ev.ret ⟨(gt_neg g1).symm, rfl⟩
  · refine Ev.neg (by first | omega | (simp (disch := omega) only [wr_eq] <;> omega)) ?_; refine Ev.pos (by first | omega | (simp (disch := omega) only [wr_eq] <;> omega)) ?_
    by_cases g2 : y < w (i + 2) a.toNat
    · refine Ev.pos (by first | omega | (simp (disch := omega) only [wr_eq] <;> omega)) ?_; refine Ev.neg (by first | omega | (simp (disch := omega) only [wr_eq] <;> omega)) ?_; refine Ev.pos (by first | omega | (simp (disch := omega) only [wr_eq] <;> omega)) ?_; refine Ev.pos (by first | omega | (simp (disch := omega) only [wr_eq] <;> omega)) ?_
      refine Ev.ret ⟨?_, rfl⟩
      rw [hg ⟨by omega, g2⟩, wr_eq (by omega)]
      congr 1
      omega
    · refine Ev.neg (by first | omega | (simp (disch := omega) only [wr_eq] <;> omega)) ?_
      exact Ev.ret ⟨(gt_ge (by omega)).symm, rfl⟩
