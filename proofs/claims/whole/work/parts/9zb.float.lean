/-! the two answers that are floats -/
def tq_failShare (S : St) : TQ := if S.2.2.2.2.1.1 = 0 then (1, 0, S) else (0, fdI (i2fI (sm S.2.2.2.2.1.2.2.2.2.2.2 40)) (i2fI S.2.2.2.2.1.2.2.2.1), S)
/-- the answer goes into the law's other row, g of it -/
def ClD (g : Int → Int) (q : TQ) (w : WS) (v : Int) (w' : WS) : Prop := v = q.1 ∧ (q.1 = 0 → w' 136 0 = g q.2.1) ∧ JC q.2.2 w' ∧ ∀ c, 85 ≤ c → c ≠ 136 → w' c = w c
theorem ClD_no {g : Int → Int} {w : WS} {S : St} (hJ : JC S w) (k r : Int) (hk : k ≠ 0) : ClD g (k, r, S) w k w := ⟨rfl, fun e => absurd e hk, hJ, fun _ _ _ => rfl⟩
theorem ClD_put {g : Int → Int} {q : TQ} {w : WS} (h0 : q.1 = 0) (hJ : JC q.2.2 w) : Ev (if 0 ≤ wr 0 ∧ wr 0 < 1 then some (0, up w 136 (wr 0).toNat (g q.2.1)) else none) (ClD g q w) := by
  refine Ev.pos (by first | (simp (disch := omega) only [wr_eq] <;> omega) | omega) (Ev.ret ⟨h0.symm, fun _ => up_same _ _ _ _, hJ.fr (fun c hc => up_row _ _ _ (by omega)), fun c h1 h2 => up_row _ _ _ h2⟩)
theorem tq_failShare_ok {S : St} (hW : WF S) (h : ¬ S.2.2.2.2.1.1 = 0) : okF (fdI (i2fI (sm S.2.2.2.2.1.2.2.2.2.2.2 40)) (i2fI S.2.2.2.2.1.2.2.2.1)) = true := by
  have hr := hW.2.2.2.2.1
  have h1 := hr.1
  have h2 := hr.2.2.2.1
  have h3 := hr.2.2.2.2.2.2.2.2 (by omega)
  exact okF_fd _ (by rw [wr_eq (by omega)]; omega)
theorem cl_failShare {S : St} {w : WS} (hW : WF S) (h : JC S w) : Ev (f_L_failShare w) (ClD f2dI (tq_failShare S) w) := by
  have hr := hW.2.2.2.2.1
  unfold f_L_failShare tq_failShare
  refine Ev.ocX ?_
  unfold f_X8_failShare
  refine cl_run hW h (fun c => ?_) (fun c => ?_)
  · rw [if_pos c]
    exact Ev.neg (by decide) (Ev.pos rfl (Ev.ret (ClD_no h 1 0 (by decide))))
  · have ok := tq_failShare_ok hW c
    have h1 := hr.1
    have h2 := hr.2.2.2.1
    have h3 := hr.2.2.2.2.2.2.2.2 (by omega)
    rw [if_neg c]
    refine Ex.obe (f_sum (i := 81) (n := 40) rfl (by omega)) ?_
    rw [sm_sumF, show w (81 + 1) = S.2.2.2.2.1.2.2.2.2.2.2 from h.r.2.2.2.2.2.2, h.r.2.2.2.1]
    refine Ex.neg (by rw [wr_eq (by omega)]; omega) (Ex.pos ok (Ex.ret ?_))
    refine Ev.pos rfl (Ev.pos (by rw [okD_f2d]; exact ok) ?_)
    exact ClD_put (q := (0, _, S)) rfl h
theorem rf_failShare {S : St} {w : WS} (hW : WF S) (h : JM S w) : Ev (f_X9_failShare w) (RfQ (tq_failShare S) w) := by
  unfold f_X9_failShare tq_failShare
  rw [rf_noRun hW h, ob_some]
  by_cases c : S.2.2.2.2.1.1 = 0
  · rw [if_pos c, if_pos c, if_pos c]
    exact Ev.neg (by decide) (Ev.ret (RfQ_no h 1 0 _ (by decide)))
  · have ok := tq_failShare_ok hW c
    rw [if_neg c, if_neg c, if_neg c]
    refine Ev.pos rfl ?_
    have e126 : (up w 85 0 0) 126 = S.2.2.2.2.1.2.2.2.2.2.2 := (up_row _ _ _ (by omega)).trans h.r.2.2.2.2.2.2
    have e60 : (up w 85 0 0) 85 60 = S.2.2.2.2.1.2.2.2.1 := (up_slot _ _ _ _ (by omega)).trans h.r.2.2.2.1
    have hfin := RfQ_ok h (fdI (i2fI (sm S.2.2.2.2.1.2.2.2.2.2.2 40)) (i2fI S.2.2.2.2.1.2.2.2.1))
    generalize up w 85 0 0 = w0 at e126 e60 hfin ⊢
    have loop : ∀ (n m k : Nat), n < m → n + k = 40 → f_X9_failShare_18 m (sm S.2.2.2.2.1.2.2.2.2.2.2 k) k w0 = some (fdI (i2fI (sm S.2.2.2.2.1.2.2.2.2.2.2 40)) (i2fI S.2.2.2.2.1.2.2.2.1), w0) := by
      intro n
      induction n with
      | zero =>
        intro m k h1 h2
        obtain ⟨m, rfl⟩ : ∃ q, m = q + 1 := ⟨m - 1, by omega⟩
        have e : k = 40 := by omega
        subst e
        rw [f_X9_failShare_18_s, if_neg (by first | (simp (disch := omega) only [wr_eq] <;> omega) | omega), e60, if_pos ok]
      | succ n ih =>
        intro m k h1 h2
        obtain ⟨m, rfl⟩ : ∃ q, m = q + 1 := ⟨m - 1, by omega⟩
        rw [f_X9_failShare_18_s, ixn (k := k) (by omega), Int.toNat_natCast, e126, if_pos (by first | (simp (disch := omega) only [wr_eq] <;> omega) | omega), if_pos (by omega), show ((k : Int) + 1) = ((k + 1 : Nat) : Int) from by omega]
        exact ih m (k + 1) (by omega) (by omega)
    exact Ev.eq (loop 40 FU 0 (by unfold FU; omega) rfl) hfin
/-- the sizes of n variables from the k-th on, and how many of them hold something -/
def szA (V : Nat → List Int) (k : Nat) : Int := sm (fun r => ((V r).length : Int)) k
def noA (V : Nat → List Int) (k : Nat) : Int := sm (fun r => if 0 < ((V r).length : Int) then 1 else 0) k
theorem szA_s (V : Nat → List Int) (k : Nat) : szA V (k + 1) = szA V k + ((V k).length : Int) := rfl
theorem noA_s (V : Nat → List Int) (k : Nat) : noA V (k + 1) = noA V k + if 0 < ((V k).length : Int) then 1 else 0 := rfl
theorem noA_le (V : Nat → List Int) (k : Nat) : 0 ≤ noA V k ∧ noA V k ≤ k := by
  induction k with
  | zero => exact ⟨Int.le_refl 0, Int.le_refl 0⟩
  | succ k ih =>
    rw [noA_s]
    split <;> omega
def tq_meanSize (S : St) : TQ := if noA S.2.2.2.1 26 = 0 then (1, 0, S) else (0, ddI (i2dI (szA S.2.2.2.1 26)) (i2dI (noA S.2.2.2.1 26)), S)
theorem cl_meanSize {S : St} {w : WS} (h : JC S w) : Ev (f_L_meanSize w) (ClD id (tq_meanSize S) w) := by
  have hn := noA_le S.2.2.2.1 26
  unfold f_L_meanSize
  refine Ev.ocX ?_
  unfold f_X8_meanSize
  have loop : ∀ (n m k : Nat), n < m → n + k = 26 → f_X8_meanSize_6 m (szA S.2.2.2.1 k) (noA S.2.2.2.1 k) k w = (if noA S.2.2.2.1 26 = 0 then some (6, 0, w) else some (0, ddI (i2dI (szA S.2.2.2.1 26)) (i2dI (noA S.2.2.2.1 26)), w)) := by
    intro n
    induction n with
    | zero =>
      intro m k h1 h2
      obtain ⟨m, rfl⟩ : ∃ q, m = q + 1 := ⟨m - 1, by omega⟩
      have e : k = 26 := by omega
      subst e
      rw [f_X8_meanSize_6_s, if_neg (by first | (simp (disch := omega) only [wr_eq] <;> omega) | omega), wr_eq (a := noA S.2.2.2.1 26) (by omega)]
      by_cases c : noA S.2.2.2.1 26 = 0
      · rw [if_pos c, if_pos c]
      · rw [if_neg c, if_neg c, if_pos (okD_dd _ (by rw [wr_eq (by omega)]; exact c))]
    | succ n ih =>
      intro m k h1 h2
      obtain ⟨m, rfl⟩ : ∃ q, m = q + 1 := ⟨m - 1, by omega⟩
      have lv := h.lnV k
      have e9 : w (7 + 2) ((k : Int)).toNat = ((S.2.2.2.1 k).length : Int) := by rw [Int.toNat_natCast]; exact lv.1
      rw [f_X8_meanSize_6_s, if_pos (by first | (simp (disch := omega) only [wr_eq] <;> omega) | omega), f_length RI_7 (a := k) (by omega), ob_some, e9, wr_eq (a := ((S.2.2.2.1 k).length : Int)) (by omega), show ((k : Int) + 1) = ((k + 1 : Nat) : Int) from by omega]
      have := ih m (k + 1) (by omega) (by omega)
      rw [szA_s, noA_s] at this
      by_cases c : 0 < ((S.2.2.2.1 k).length : Int)
      · rw [if_pos c] at this
        rw [if_pos c]
        exact this
      · rw [if_neg c] at this
        rw [if_neg c]
        exact this
  have e := loop 26 FU 0 (by unfold FU; omega) rfl
  unfold tq_meanSize
  by_cases c : noA S.2.2.2.1 26 = 0
  · rw [if_pos c] at e
    rw [if_pos c]
    exact ⟨6, 0, w, e, Ev.neg (by decide) (Ev.pos rfl (Ev.ret (ClD_no h 1 0 (by decide))))⟩
  · rw [if_neg c] at e
    rw [if_neg c]
    exact ⟨0, _, w, e, Ev.pos rfl (ClD_put (g := id) (q := (0, _, S)) rfl h)⟩
theorem rf_meanSize {S : St} {w : WS} (h : JM S w) : Ev (f_X9_meanSize w) (RfQ (tq_meanSize S) w) := by
  have hn := noA_le S.2.2.2.1 26
  have h0 := h.z 0
  have hno := RfQ_no h 1 0 0 (by decide)
  have hfin := RfQ_ok h (ddI (i2dI (szA S.2.2.2.1 26)) (i2dI (noA S.2.2.2.1 26)))
  have z0 : (up w 85 0 0) 85 0 = 0 := up_same _ _ _ _
  unfold f_X9_meanSize
  generalize up w 85 0 0 = w0 at h0 hno hfin z0 ⊢
  have loop : ∀ (n m k : Nat), n < m → n + k = 26 → f_X9_meanSize_11 m (szA S.2.2.2.1 k) (noA S.2.2.2.1 k) k w0 = (if noA S.2.2.2.1 26 = 0 then some (0, up w0 85 0 1) else some (ddI (i2dI (szA S.2.2.2.1 26)) (i2dI (noA S.2.2.2.1 26)), w0)) := by
    intro n
    induction n with
    | zero =>
      intro m k h1 h2
      obtain ⟨m, rfl⟩ : ∃ q, m = q + 1 := ⟨m - 1, by omega⟩
      have e : k = 26 := by omega
      subst e
      rw [f_X9_meanSize_11_s, if_neg (by first | (simp (disch := omega) only [wr_eq] <;> omega) | omega), wr_eq (a := noA S.2.2.2.1 26) (by omega)]
      unfold f_X9_meanSize_59
      by_cases c : noA S.2.2.2.1 26 = 0
      · rw [if_pos c, if_pos c, f_fails0 z0 1 (by omega) 1 (Or.inr rfl), if_neg (by decide), ob_some]
        exact if_neg (by decide)
      · rw [if_neg c, if_neg c, f_fails0 z0 1 (by omega) 0 (Or.inl rfl), if_pos rfl, ob_some]
        exact (if_pos rfl).trans (if_pos (okD_dd _ (by rw [wr_eq (by omega)]; exact c)))
    | succ n ih =>
      intro m k h1 h2
      obtain ⟨m, rfl⟩ : ∃ q, m = q + 1 := ⟨m - 1, by omega⟩
      have lv := h0.lnV k
      rw [f_X9_meanSize_11_s, ixn (k := k) (by omega), Int.toNat_natCast, lv.1, if_pos (by first | (simp (disch := omega) only [wr_eq] <;> omega) | omega), if_pos (by omega), if_pos (by omega), wr_eq (a := ((S.2.2.2.1 k).length : Int)) (by omega), show ((k : Int) + 1) = ((k + 1 : Nat) : Int) from by omega]
      have := ih m (k + 1) (by omega) (by omega)
      rw [szA_s, noA_s] at this
      by_cases c : 0 < ((S.2.2.2.1 k).length : Int)
      · rw [if_pos c] at this
        rw [if_pos c]
        exact this
      · rw [if_neg c] at this
        rw [if_neg c]
        exact this
  have e := loop 26 FU 0 (by unfold FU; omega) rfl
  unfold tq_meanSize
  by_cases c : noA S.2.2.2.1 26 = 0
  · rw [if_pos c] at e
    rw [if_pos c]
    exact Ev.eq e hno
  · rw [if_neg c] at e
    rw [if_neg c]
    exact Ev.eq e hfin
