/-! what a term comes to, as a value of values; and the class's Reckoner, one term at a time -/
def repL (A : List Int) : Nat → List Int
  | 0 => []
  | n + 1 => repL A n ++ A
theorem repL_len (A : List Int) (n : Nat) : ((repL A n).length : Int) = n * A.length := by
  induction n with
  | zero => simp [repL]
  | succ n ih =>
    show ((repL A n ++ A).length : Int) = _
    rw [List.length_append, Int.natCast_add, ih, Int.natCast_add, Int.add_mul]
    simp
def calc1 (kind a b : Int) : Int := if kind = 43 then a + b else if kind = 45 then a - b else if kind = 42 then a * b else Int.tdiv a b
/-- the answer (0, -1 it fails, or an error) and the value -/
def ev1 (kind x : Int) (T V : Nat → List Int) (A B : List Int) : Int × List Int :=
  if kind = 116 then (0, T x.toNat) else
  if kind = 118 then (0, V x.toNat) else
  if kind = 119 then (if A.length = 1 ∧ 97 ≤ gt A 0 ∧ gt A 0 ≤ 122 then (0, V (gt A 0 - 97).toNat) else (8, [])) else
  if kind = 38 then (if 60 < A.length + B.length then (4, []) else (0, A ++ B)) else
  if kind = 35 then (0, decS A.length) else
  if kind = 114 then (0, A.reverse) else
  if kind = 61 then (if A = B then (0, []) else (-1, [])) else
  if kind = 100 then (if numS B = NON ∨ numS B < 0 ∨ 60 < numS B then (1, []) else if 60 < A.length * numS B then (4, []) else (0, repL A (numS B).toNat)) else
  if numS A = NON ∨ numS B = NON then (1, []) else
  if kind = 60 then (if numS A < numS B then (0, []) else (-1, [])) else
  if kind = 47 ∧ numS B = 0 then (2, []) else
  if 999999999 < calc1 kind (numS A) (numS B) ∨ calc1 kind (numS A) (numS B) < -999999999 then (1, []) else (0, decS (calc1 kind (numS A) (numS B)))
theorem numF_rng (l : List Int) : ∀ (acc B : Int), digs l = true → 0 ≤ acc → acc < B → 0 ≤ numF acc l ∧ numF acc l < B * p10 l.length := by
  induction l with
  | nil => intro acc B h1 h2 h3; exact ⟨h2, by show acc < B * 1; omega⟩
  | cons s l ih =>
    intro acc B h1 h2 h3
    unfold digs at h1
    rw [List.all_cons, Bool.and_eq_true, decide_eq_true_iff] at h1
    have := ih (10 * acc + (s - 48)) (10 * B) h1.2 (by omega) (by omega)
    refine ⟨this.1, ?_⟩
    have e : B * p10 (s :: l).length = 10 * B * p10 l.length := by
      show B * (10 * p10 l.length) = _
      rw [← Int.mul_assoc, Int.mul_comm B 10]
    rw [e]
    exact this.2
theorem numD_rng {d : List Int} (h : numD d = true) : 0 ≤ numF 0 d ∧ numF 0 d ≤ 999999999 := by
  obtain ⟨h1, h2⟩ := numD_eq.mp h
  have := numF_rng d 0 1 h2 (by omega) (by omega)
  have h3 : p10 d.length ≤ p10 9 := p10_le h1.2
  have h4 : p10 9 = 1000000000 := rfl
  omega
theorem numS_rng (l : List Int) : numS l = NON ∨ (-999999999 ≤ numS l ∧ numS l ≤ 999999999) := by
  unfold numS
  by_cases g : gt l 0 = 45
  · rw [if_pos g]
    by_cases h : numD (l.drop 1) = true
    · rw [if_pos h]
      have := numD_rng h
      omega
    · rw [if_neg h]
      exact Or.inl rfl
  · rw [if_neg g]
    by_cases h : numD l = true
    · rw [if_pos h]
      have := numD_rng h
      omega
    · rw [if_neg h]
      exact Or.inl rfl
theorem NON_eq : NON = -1000000000000 := rfl
/-- a term as it may be made: its kind, its parts below it -/
def TK1 (kind x y : Int) (k : Nat) : Prop := (kind = 116 ∧ 0 ≤ x ∧ x < 30) ∨ (kind = 118 ∧ 0 ≤ x ∧ x < 26) ∨ ((kind = 119 ∨ kind = 35 ∨ kind = 114) ∧ 0 ≤ x ∧ x < k) ∨ ((kind = 43 ∨ kind = 45 ∨ kind = 42 ∨ kind = 47 ∨ kind = 38 ∨ kind = 100 ∨ kind = 61 ∨ kind = 60) ∧ 0 ≤ x ∧ x < k ∧ 0 ≤ y ∧ y < k)
/-- what the working out of term k leaves -/
def P1 (w : WS) (k : Nat) (q : Int × List Int) (v : Int) (w' : WS) : Prop := v = q.1 ∧ Fr [17, 18] w w' ∧ RO w' 16 60 50 ∧ (q.1 = 0 → rC w' 16 60 k = q.2) ∧ ∀ r, r ≠ k → rC w' 16 60 r = rC w 16 60 r
theorem P1.none {w : WS} {k : Nat} {v : Int} (h : RO w 16 60 50) (hv : v ≠ 0) : P1 w k (v, []) v w := ⟨rfl, Fr.rf, h, fun e => absurd e hv, fun _ _ => rfl⟩
theorem P1.nil {w : WS} {k : Nat} {v : Int} (h : RO w 16 60 50) (hk : rC w 16 60 k = []) : P1 w k (v, []) v w := ⟨rfl, Fr.rf, h, fun _ => hk, fun _ _ => rfl⟩
theorem P1.vs {w w' : WS} {k : Nat} {L : List Int} (h1 : Fr [17, 18] w w') (h2 : RO w' 16 60 50) (h3 : rC w' 16 60 = vs (rC w 16 60) k L) : P1 w k (0, L) 0 w' := ⟨rfl, h1, h2, fun _ => by rw [h3, vs_same], fun r hr => by rw [h3, vs_ne _ _ hr]⟩
theorem isOf_eq {kind : Int} (hk : 0 ≤ kind ∧ kind < 200) (w : WS) : f_X5_isOfNumbers kind w = some (if kind = 43 ∨ kind = 45 ∨ kind = 42 ∨ kind = 47 ∨ kind = 60 ∨ kind = 100 then 1 else 0, w) := by
  unfold f_X5_isOfNumbers
  simp (disch := omega) only [wr_eq]
  by_cases h1 : kind = 43
  · rw [if_pos h1, if_pos (by omega)]
  by_cases h2 : kind = 45
  · rw [if_neg h1, if_pos h2, if_pos (by omega)]
  by_cases h3 : kind = 42
  · rw [if_neg h1, if_neg h2, if_pos h3, if_pos (by omega)]
  by_cases h4 : kind = 47
  · rw [if_neg h1, if_neg h2, if_neg h3, if_pos h4, if_pos (by omega)]
  by_cases h5 : kind = 60
  · rw [if_neg h1, if_neg h2, if_neg h3, if_neg h4, if_pos h5, if_pos (by omega)]
  by_cases h6 : kind = 100
  · rw [if_neg h1, if_neg h2, if_neg h3, if_neg h4, if_neg h5, if_pos h6, if_pos (by omega)]
  rw [if_neg h1, if_neg h2, if_neg h3, if_neg h4, if_neg h5, if_neg h6, if_neg (by omega)]
theorem back_loop {x : Int} {k : Nat} (hx : 0 ≤ x ∧ x < k) (hk : k < 50) (A : List Int) (hA : A.length ≤ 60) (m : Nat) : ∀ (p : Nat) (w : WS), p < m → p ≤ A.length → RO w 16 60 50 → rC w 16 60 x.toNat = A → rC w 16 60 k = (A.drop p).reverse → Ev (f_X5_formBackward_11 m k x ((p : Int) - 1) w) (fun v w' => v = 0 ∧ Fr [17, 18] w w' ∧ RO w' 16 60 50 ∧ rC w' 16 60 = vs (rC w 16 60) k A.reverse) := by
  induction m with
  | zero => intro p w h; omega
  | succ m ih =>
    intro p w h1 h2 h3 h4 h5
    rw [f_X5_formBackward_11_s]
    cases p with
    | zero =>
      refine Ev.pos (by first | omega | (simp (disch := omega) only [wr_eq] <;> omega)) ?_
      refine Ev.ret ⟨rfl, Fr.rf, h3, ?_⟩
      rw [← show rC w 16 60 k = A.reverse from by rw [h5]; rfl]
      funext r
      unfold vs
      split
      · next e => rw [e]
      · rfl
    | succ p =>
      have e : ((p + 1 : Nat) : Int) - 1 = p := by omega
      rw [e]
      refine Ev.neg (by first | omega | (simp (disch := omega) only [wr_eq] <;> omega)) ?_
      refine Ev.obe (f_sign RI_16 h3 (by omega) (by omega)) ?_
      rw [h4]
      have hl := ln (z := 18) rfl h3 k
      rw [h5, List.length_reverse, List.length_drop] at hl
      refine Ev.bd (f_add RI_16 h3 (by omega) (by first | omega | (simp only [Nat.reduceAdd, Int.toNat_natCast] <;> omega))) ?_
      rintro v w1 ⟨-, g1, g2, g3⟩
      rw [Int.toNat_natCast] at g3
      have e2 : (p : Int) + -1 = (p : Int) - 1 := rfl
      rw [e2]
      refine Ev.mono (ih p w1 (by omega) (by omega) g2 ?_ ?_) ?_
      · rw [g3, vs_ne _ _ (by omega), h4]
      · rw [g3, vs_same, h5, drop_gt (l := A) (k := p) (by omega), List.reverse_cons]
      · rintro v w2 ⟨rfl, q1, q2, q3⟩
        exact ⟨rfl, g1.tr q1, q2, by rw [q3, g3, vs_vs]⟩
theorem rep_loop {x : Int} {k : Nat} (hx : 0 ≤ x ∧ x < k) (hk : k < 50) (A : List Int) (hA : A.length ≤ 60) {n : Nat} (hn : n ≤ 60) (m : Nat) : ∀ (t : Nat) (w : WS), n - t < m → t ≤ n → RO w 16 60 50 → rC w 16 60 x.toNat = A → rC w 16 60 k = repL A t → Ev (f_X5_formRepeated_19 m k x n t w) (fun v w' => P1 w k (if 60 < (A.length : Int) * n then (4, []) else (0, repL A n)) v w') := by
  induction m with
  | zero => intro p w h; omega
  | succ m ih =>
    intro t w h1 h2 h3 h4 h5
    rw [f_X5_formRepeated_19_s]
    have hl := ln (z := 18) rfl h3 k
    have hlx := ln (z := 18) rfl h3 x.toNat
    rw [h5, repL_len] at hl
    rw [h4] at hlx
    by_cases e : t = n
    · subst e
      refine Ev.neg (by first | omega | (simp (disch := omega) only [wr_eq, wl_eq] <;> omega)) ?_
      have : ¬ (60 < (A.length : Int) * t) := by rw [Int.mul_comm]; omega
      rw [if_neg this]
      exact Ev.ret ⟨rfl, Fr.rf, h3, fun _ => h5, fun _ _ => rfl⟩
    · refine Ev.pos (by first | omega | (simp (disch := omega) only [wr_eq, wl_eq] <;> omega)) ?_
      refine Ev.obe (f_length RI_16 (by omega)) ?_
      by_cases g : 60 < w 18 k + w 18 x.toNat
      · rw [f_append_no RI_16 h3 16 (by first | omega | (simp only [Nat.reduceAdd, Int.toNat_natCast] <;> omega)) (by first | omega | (simp only [Nat.reduceAdd, Int.toNat_natCast] <;> omega)) (by first | omega | (simp only [Nat.reduceAdd, Int.toNat_natCast] <;> omega)), ob_some]
        refine Ev.pos rfl (Ev.ret ?_)
        have h0 : ((t : Int) + 1) * A.length = t * A.length + A.length := by rw [Int.add_mul, Int.one_mul]
        have h9 : ((t : Int) + 1) * A.length ≤ n * A.length := Int.mul_le_mul_of_nonneg_right (by omega) (by omega)
        have : 60 < (A.length : Int) * n := by rw [Int.mul_comm]; omega
        rw [if_pos this]
        exact P1.none h3 (by omega)
      · refine Ev.bd (f_append_yes RI_16 h3 RI_16 h3 (b := x) (f := 0) (e := w 18 x.toNat) (by omega) (by omega) ⟨(by first | omega | (simp only [Nat.reduceAdd, Int.toNat_natCast] <;> omega)), (by first | omega | (simp only [Nat.reduceAdd, Int.toNat_natCast] <;> omega)), Int.le_refl _⟩ (Or.inr (by omega)) (by first | omega | (simp only [Nat.reduceAdd, Int.toNat_natCast] <;> omega))) ?_
        rintro v w1 ⟨rfl, g1, g2, g3⟩
        refine Ev.neg (by decide) ?_
        rw [Int.toNat_natCast] at g3
        have e1 : ((A.drop (0 : Int).toNat).take (w 18 x.toNat - 0).toNat) = A := by
          rw [Int.toNat_zero, List.drop_zero, List.take_of_length_le (by omega)]
        rw [h4, e1, h5] at g3
        have ek : ((t : Int) + 1) = ((t + 1 : Nat) : Int) := by omega
        rw [ek]
        refine Ev.mono (ih (t + 1) w1 (by omega) (by omega) g2 ?_ ?_) ?_
        · rw [g3, vs_ne _ _ (by omega), h4]
        · rw [g3, vs_same]; rfl
        · rintro v w2 ⟨q0, q1, q2, q3, q4⟩
          refine ⟨q0, g1.tr q1, q2, q3, fun r hr => ?_⟩
          rw [q4 r hr, g3, vs_ne _ _ hr]
