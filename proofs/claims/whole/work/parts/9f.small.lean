/-! what a run and a match have left -/
theorem JC.r {S : St} {w : WS} (h : JC S w) : w 76 10 = S.2.2.2.2.1.1 ∧ w 76 11 = S.2.2.2.2.1.2.1 ∧ w 76 12 = S.2.2.2.2.1.2.2.1 ∧ w 76 13 = S.2.2.2.2.1.2.2.2.1 ∧ w 76 14 = S.2.2.2.2.1.2.2.2.2.1 ∧ w 80 = S.2.2.2.2.1.2.2.2.2.2.1 ∧ w 82 = S.2.2.2.2.1.2.2.2.2.2.2 := by
  have e := h.2.2.2.2.2.1
  rw [← e]
  exact ⟨rfl, rfl, rfl, rfl, rfl, rfl, rfl⟩
theorem JC.m {S : St} {w : WS} (h : JC S w) : w 0 13 = S.2.2.2.2.2.1 ∧ w 0 14 = S.2.2.2.2.2.2.1 ∧ w 0 17 = S.2.2.2.2.2.2.2.2.2.1 ∧ (S.2.2.2.2.2.2.1 = 1 → w 0 15 = S.2.2.2.2.2.2.2.1 ∧ w 0 16 = S.2.2.2.2.2.2.2.2.1 ∧ w 0 18 = S.2.2.2.2.2.2.2.2.2.2) := h.2.2.2.2.2.2
theorem JM.r {S : St} {w : WS} (h : JM S w) : w 85 59 = S.2.2.2.2.1.1 ∧ w 85 61 = S.2.2.2.2.1.2.1 ∧ w 85 62 = S.2.2.2.2.1.2.2.1 ∧ w 85 60 = S.2.2.2.2.1.2.2.2.1 ∧ w 85 63 = S.2.2.2.2.1.2.2.2.2.1 ∧ w 125 = S.2.2.2.2.1.2.2.2.2.2.1 ∧ w 126 = S.2.2.2.2.1.2.2.2.2.2.2 := by
  have e := h.2.2.2.2.2.1
  rw [← e]
  exact ⟨rfl, rfl, rfl, rfl, rfl, rfl, rfl⟩
theorem JM.m {S : St} {w : WS} (h : JM S w) : w 85 72 = S.2.2.2.2.2.1 ∧ w 85 73 = S.2.2.2.2.2.2.1 ∧ w 85 76 = S.2.2.2.2.2.2.2.2.2.1 ∧ (S.2.2.2.2.2.2.1 = 1 → w 85 74 = S.2.2.2.2.2.2.2.1 ∧ w 85 75 = S.2.2.2.2.2.2.2.2.1) := h.2.2.2.2.2.2
theorem JC.cnt {S : St} {w : WS} (h : JC S w) : w 25 4 = pN S.2.2.1 ∧ w 32 4 = tN S.2.2.1 ∧ w 57 6 = sC S.2.2.1 := by
  have e := fun i => congrFun (congrFun (congrArg Prod.fst h.2.2.1) 15) i
  exact ⟨e 1, e 2, e 3⟩
theorem JM.cnt {S : St} {w : WS} (h : JM S w) : w 85 11 = pN S.2.2.1 ∧ w 85 15 = tN S.2.2.1 ∧ w 85 51 = sC S.2.2.1 := by
  have e := fun i => congrFun (congrFun (congrArg Prod.fst h.2.2.1) 15) i
  exact ⟨e 1, e 2, e 3⟩
theorem WF.cnt {S : St} (h : WF S) : (0 ≤ pN S.2.2.1 ∧ pN S.2.2.1 ≤ 50) ∧ (0 ≤ tN S.2.2.1 ∧ tN S.2.2.1 ≤ 50) ∧ (0 ≤ sC S.2.2.1 ∧ sC S.2.2.1 ≤ 40) := ⟨h.2.2.1.2.1, h.2.2.1.2.2.2.1, h.2.2.1.2.2.2.2.2.2.1⟩
theorem x_needRun {w : WS} (h : w 76 10 = 0 ∨ w 76 10 = 1) : f_X8_needRun w = some (if w 76 10 = 0 then 2 else 0, 0, w) := by
  unfold f_X8_needRun
  rcases h with h | h
  · rw [h]; rfl
  · rw [h]; rfl
theorem x_below {a n : Int} (ha : IR a) (hn : IR n) (t : Nat) (w : WS) : (ob (f_X8_isBelow a n w) fun r1 w1 => if wr r1 = 0 then some (t, (0 : Int), w1) else some (0, 0, w1)) = some (if 0 ≤ a ∧ a < n then 0 else t, 0, w) := by
  unfold IR at ha hn
  rw [f_isBelow ha hn, ob_some]
  by_cases c : 0 ≤ a ∧ a < n
  · rw [if_pos c, if_pos c]; exact if_neg (by decide)
  · rw [if_neg c, if_neg c]; exact if_pos rfl
theorem x_needStatement {a : Int} (ha : IR a) {w : WS} (hn : IR (w 57 6)) : f_X8_needStatement a w = some (if 0 ≤ a ∧ a < w 57 6 then 0 else 3, 0, w) := x_below ha hn 3 w
theorem x_needPattern {a : Int} (ha : IR a) {w : WS} (hn : IR (w 25 4)) : f_X8_needPattern a w = some (if 0 ≤ a ∧ a < w 25 4 then 0 else 3, 0, w) := x_below ha hn 3 w
theorem x_needTerm {a : Int} (ha : IR a) {w : WS} (hn : IR (w 32 4)) : f_X8_needTerm a w = some (if 0 ≤ a ∧ a < w 32 4 then 0 else 3, 0, w) := x_below ha hn 3 w
theorem x_noRun {w : WS} (h0 : w 85 0 = 0) (h : w 85 59 = 0 ∨ w 85 59 = 1) : f_X9_noRun w = some (if w 85 59 = 0 then 1 else 0, if w 85 59 = 0 then up w 85 0 1 else w) := by
  unfold f_X9_noRun f_X9_noRun_13
  rcases h with h | h
  · rw [h, if_pos (by rfl), f_fails0 h0 1 (by omega) 1 (Or.inr rfl), ob_some, if_pos (Or.inr rfl), if_neg (by decide), if_pos rfl, if_pos rfl]
  · rw [h, if_neg (by decide), f_fails0 h0 1 (by omega) 0 (Or.inl rfl), ob_some, if_pos (Or.inl rfl), if_pos rfl, if_neg (by decide), if_neg (by decide)]
/-- a value that a run has left -/
def tq_r (x : Int) (S : St) : TQ := if S.2.2.2.2.1.1 = 0 then (1, 0, S) else (0, x, S)
def tq_error (S : St) : TQ := if S.2.2.2.2.1.1 = 0 then (1, 0, S) else if S.2.2.2.2.1.2.1 = 0 then (2, 0, S) else (0, S.2.2.2.2.1.2.1, S)
/-- a statement's count -/
def tq_c (f : Nat → Int) (a : Int) (S : St) : TQ := if S.2.2.2.2.1.1 = 0 then (1, 0, S) else if 0 ≤ a ∧ a < sC S.2.2.1 then (0, f a.toNat, S) else (2, 0, S)
theorem cl_run {S : St} {w : WS} (hW : WF S) (h : JC S w) {K : Int → WS → Option (Nat × Int × WS)} {Q : Nat → Int → WS → Prop} (k1 : S.2.2.2.2.1.1 = 0 → Q 2 0 w) (k2 : ¬ S.2.2.2.2.1.1 = 0 → Ex (K 0 w) Q) : Ex (ox (f_X8_needRun w) K) Q := by
  have hr := hW.2.2.2.2.1.1
  have e := h.r.1
  by_cases c : S.2.2.2.2.1.1 = 0
  · exact Ex.no (t := 2) (by rw [x_needRun (by omega), e, if_pos c]) (by decide) (k1 c)
  · exact Ex.ok (by rw [x_needRun (by omega), e, if_neg c]) (k2 c)
theorem cl_error {S : St} {w : WS} (hW : WF S) (h : JC S w) : Ev (f_L_error w) (ClQ (tq_error S) w) := by
  have he := hW.2.2.2.2.1.2.1
  unfold f_L_error tq_error
  refine Ev.ocX ?_
  unfold f_X8_error
  refine cl_run hW h (fun c => ?_) (fun c => ?_)
  · rw [if_pos c]
    exact Ev.neg (by decide) (Ev.pos rfl (Ev.ret (ClQ_no h 1 0 (by decide))))
  · rw [if_neg c, h.r.2.1]
    by_cases c2 : S.2.2.2.2.1.2.1 = 0
    · rw [if_pos c2]
      refine Ex.pos (by first | (simp (disch := omega) only [wr_eq] <;> omega) | omega) (Ex.ret ?_)
      exact Ev.neg (by decide) (Ev.neg (by decide) (Ev.pos rfl (Ev.ret (ClQ_no h 2 0 (by decide)))))
    · rw [if_neg c2]
      refine Ex.neg (by first | (simp (disch := omega) only [wr_eq] <;> omega) | omega) (Ex.ret ?_)
      exact Ev.pos rfl (ClQ_put (q := (0, S.2.2.2.2.1.2.1, S)) rfl h (fun _ _ => rfl))
theorem cl_last {S : St} {w : WS} (hW : WF S) (h : JC S w) : Ev (f_L_last w) (ClQ (tq_r S.2.2.2.2.1.2.2.1 S) w) := by
  unfold f_L_last tq_r
  refine Ev.ocX ?_
  unfold f_X8_last
  refine cl_run hW h (fun c => ?_) (fun c => ?_)
  · rw [if_pos c]
    exact Ev.neg (by decide) (Ev.pos rfl (Ev.ret (ClQ_no h 1 0 (by decide))))
  · rw [if_neg c, h.r.2.2.1]
    exact Ex.ret (Ev.pos rfl (ClQ_put (q := (0, S.2.2.2.2.1.2.2.1, S)) rfl h (fun _ _ => rfl)))
theorem cl_steps {S : St} {w : WS} (hW : WF S) (h : JC S w) : Ev (f_L_steps w) (ClQ (tq_r S.2.2.2.2.1.2.2.2.1 S) w) := by
  unfold f_L_steps tq_r
  refine Ev.ocX ?_
  unfold f_X8_steps
  refine cl_run hW h (fun c => ?_) (fun c => ?_)
  · rw [if_pos c]
    exact Ev.neg (by decide) (Ev.pos rfl (Ev.ret (ClQ_no h 1 0 (by decide))))
  · rw [if_neg c, h.r.2.2.2.1]
    exact Ex.ret (Ev.pos rfl (ClQ_put (q := (0, S.2.2.2.2.1.2.2.2.1, S)) rfl h (fun _ _ => rfl)))
theorem cl_depth {S : St} {w : WS} (hW : WF S) (h : JC S w) : Ev (f_L_depth w) (ClQ (tq_r S.2.2.2.2.1.2.2.2.2.1 S) w) := by
  unfold f_L_depth tq_r
  refine Ev.ocX ?_
  unfold f_X8_depth
  refine cl_run hW h (fun c => ?_) (fun c => ?_)
  · rw [if_pos c]
    exact Ev.neg (by decide) (Ev.pos rfl (Ev.ret (ClQ_no h 1 0 (by decide))))
  · rw [if_neg c, h.r.2.2.2.2.1]
    exact Ex.ret (Ev.pos rfl (ClQ_put (q := (0, S.2.2.2.2.1.2.2.2.2.1, S)) rfl h (fun _ _ => rfl)))
theorem cl_done {S : St} {w : WS} (hW : WF S) (h : JC S w) {a : Int} (ha : IR a) : Ev (f_L_done a w) (ClQ (tq_c S.2.2.2.2.1.2.2.2.2.2.1 a S) w) := by
  have hc := hW.cnt.2.2
  have h57 := h.cnt.2.2
  unfold f_L_done tq_c
  refine Ev.ocX ?_
  unfold f_X8_done
  refine cl_run hW h (fun c => ?_) (fun c => ?_)
  · rw [if_pos c]
    exact Ev.neg (by decide) (Ev.pos rfl (Ev.ret (ClQ_no h 1 0 (by decide))))
  · rw [if_neg c]
    by_cases c2 : 0 ≤ a ∧ a < sC S.2.2.1
    · rw [if_pos c2]
      refine Ex.ok (by rw [x_needStatement ha (by unfold IR; omega), h57, if_pos c2]) ?_
      refine Ex.obe (f_get (i := 79) (n := 40) rfl (by omega) (by omega)) ?_
      rw [h.r.2.2.2.2.2.1]
      exact Ex.ret (Ev.pos rfl (ClQ_put (q := (0, S.2.2.2.2.1.2.2.2.2.2.1 a.toNat, S)) rfl h (fun _ _ => rfl)))
    · rw [if_neg c2]
      refine Ex.no (t := 3) (by rw [x_needStatement ha (by unfold IR; omega), h57, if_neg c2]) (by decide) ?_
      exact Ev.neg (by decide) (Ev.neg (by decide) (Ev.pos rfl (Ev.ret (ClQ_no h 2 0 (by decide)))))
theorem cl_failed {S : St} {w : WS} (hW : WF S) (h : JC S w) {a : Int} (ha : IR a) : Ev (f_L_failed a w) (ClQ (tq_c S.2.2.2.2.1.2.2.2.2.2.2 a S) w) := by
  have hc := hW.cnt.2.2
  have h57 := h.cnt.2.2
  unfold f_L_failed tq_c
  refine Ev.ocX ?_
  unfold f_X8_failed
  refine cl_run hW h (fun c => ?_) (fun c => ?_)
  · rw [if_pos c]
    exact Ev.neg (by decide) (Ev.pos rfl (Ev.ret (ClQ_no h 1 0 (by decide))))
  · rw [if_neg c]
    by_cases c2 : 0 ≤ a ∧ a < sC S.2.2.1
    · rw [if_pos c2]
      refine Ex.ok (by rw [x_needStatement ha (by unfold IR; omega), h57, if_pos c2]) ?_
      refine Ex.obe (f_get (i := 81) (n := 40) rfl (by omega) (by omega)) ?_
      rw [h.r.2.2.2.2.2.2]
      exact Ex.ret (Ev.pos rfl (ClQ_put (q := (0, S.2.2.2.2.1.2.2.2.2.2.2 a.toNat, S)) rfl h (fun _ _ => rfl)))
    · rw [if_neg c2]
      refine Ex.no (t := 3) (by rw [x_needStatement ha (by unfold IR; omega), h57, if_neg c2]) (by decide) ?_
      exact Ev.neg (by decide) (Ev.neg (by decide) (Ev.pos rfl (Ev.ret (ClQ_no h 2 0 (by decide)))))
theorem rf_noRun {S : St} {w : WS} (hW : WF S) (h : JM S w) : f_X9_noRun (up w 85 0 0) = some (if S.2.2.2.2.1.1 = 0 then 1 else 0, if S.2.2.2.2.1.1 = 0 then up (up w 85 0 0) 85 0 1 else up w 85 0 0) := by
  have hr := hW.2.2.2.2.1.1
  have e : (up w 85 0 0) 85 59 = S.2.2.2.2.1.1 := (up_slot _ _ _ _ (by omega)).trans h.r.1
  rw [x_noRun (up_same _ _ _ _) (by omega), e]
theorem rf_error {S : St} {w : WS} (hW : WF S) (h : JM S w) : Ev (f_X9_error w) (RfQ (tq_error S) w) := by
  have he := hW.2.2.2.2.1.2.1
  unfold f_X9_error tq_error
  rw [rf_noRun hW h, ob_some]
  by_cases c : S.2.2.2.2.1.1 = 0
  · rw [if_pos c, if_pos c, if_pos c]
    exact Ev.neg (by decide) (Ev.ret (RfQ_no h 1 0 _ (by decide)))
  · rw [if_neg c, if_neg c, if_neg c]
    refine Ev.pos rfl ?_
    have e61 : (up w 85 0 0) 85 61 = S.2.2.2.2.1.2.1 := (up_slot _ _ _ _ (by omega)).trans h.r.2.1
    rw [e61]
    unfold f_X9_error_25
    by_cases c2 : S.2.2.2.2.1.2.1 = 0
    · rw [if_pos c2]
      refine Ev.pos (by first | (simp (disch := omega) only [wr_eq] <;> omega) | omega) ?_
      rw [f_fails0 (up_same _ _ _ _) 2 (by omega) 1 (Or.inr rfl), if_neg (by decide), ob_some]
      exact Ev.neg (by decide) (Ev.ret (RfQ_no h 2 0 _ (by decide)))
    · rw [if_neg c2]
      refine Ev.neg (by first | (simp (disch := omega) only [wr_eq] <;> omega) | omega) ?_
      rw [f_fails0 (up_same _ _ _ _) 2 (by omega) 0 (Or.inl rfl), if_pos rfl, ob_some]
      refine Ev.pos rfl ?_
      rw [e61]
      exact Ev.ret (RfQ_ok h _)
theorem rf_last {S : St} {w : WS} (hW : WF S) (h : JM S w) : Ev (f_X9_last w) (RfQ (tq_r S.2.2.2.2.1.2.2.1 S) w) := by
  unfold f_X9_last tq_r
  rw [rf_noRun hW h, ob_some]
  by_cases c : S.2.2.2.2.1.1 = 0
  · rw [if_pos c, if_pos c, if_pos c]
    exact Ev.neg (by decide) (Ev.ret (RfQ_no h 1 0 _ (by decide)))
  · rw [if_neg c, if_neg c, if_neg c]
    refine Ev.pos rfl ?_
    rw [show (up w 85 0 0) 85 62 = S.2.2.2.2.1.2.2.1 from (up_slot _ _ _ _ (by omega)).trans h.r.2.2.1]
    exact Ev.ret (RfQ_ok h _)
theorem rf_steps {S : St} {w : WS} (hW : WF S) (h : JM S w) : Ev (f_X9_steps w) (RfQ (tq_r S.2.2.2.2.1.2.2.2.1 S) w) := by
  unfold f_X9_steps tq_r
  rw [rf_noRun hW h, ob_some]
  by_cases c : S.2.2.2.2.1.1 = 0
  · rw [if_pos c, if_pos c, if_pos c]
    exact Ev.neg (by decide) (Ev.ret (RfQ_no h 1 0 _ (by decide)))
  · rw [if_neg c, if_neg c, if_neg c]
    refine Ev.pos rfl ?_
    rw [show (up w 85 0 0) 85 60 = S.2.2.2.2.1.2.2.2.1 from (up_slot _ _ _ _ (by omega)).trans h.r.2.2.2.1]
    exact Ev.ret (RfQ_ok h _)
theorem rf_depth {S : St} {w : WS} (hW : WF S) (h : JM S w) : Ev (f_X9_depth w) (RfQ (tq_r S.2.2.2.2.1.2.2.2.2.1 S) w) := by
  unfold f_X9_depth tq_r
  rw [rf_noRun hW h, ob_some]
  by_cases c : S.2.2.2.2.1.1 = 0
  · rw [if_pos c, if_pos c, if_pos c]
    exact Ev.neg (by decide) (Ev.ret (RfQ_no h 1 0 _ (by decide)))
  · rw [if_neg c, if_neg c, if_neg c]
    refine Ev.pos rfl ?_
    rw [show (up w 85 0 0) 85 63 = S.2.2.2.2.1.2.2.2.2.1 from (up_slot _ _ _ _ (by omega)).trans h.r.2.2.2.2.1]
    exact Ev.ret (RfQ_ok h _)
theorem rf_done {S : St} {w : WS} (hW : WF S) (h : JM S w) {a : Int} (ha : IR a) : Ev (f_X9_done a w) (RfQ (tq_c S.2.2.2.2.1.2.2.2.2.2.1 a S) w) := by
  have hc := hW.cnt.2.2
  unfold IR at ha
  unfold f_X9_done tq_c
  rw [rf_noRun hW h, ob_some]
  by_cases c : S.2.2.2.2.1.1 = 0
  · rw [if_pos c, if_pos c, if_pos c]
    exact Ev.neg (by decide) (Ev.ret (RfQ_no h 1 0 _ (by decide)))
  · rw [if_neg c, if_neg c, if_neg c]
    refine Ev.pos rfl ?_
    rw [show (up w 85 0 0) 85 51 = sC S.2.2.1 from (up_slot _ _ _ _ (by omega)).trans h.cnt.2.2, wr_eq (a := a) (by omega), wr_eq (a := sC S.2.2.1 - 1) (by omega), f_in (by omega) (by omega) (by omega), ob_some]
    unfold f_X9_done_34
    by_cases c2 : 0 ≤ a ∧ a < sC S.2.2.1
    · rw [if_pos (show 0 ≤ a ∧ a ≤ sC S.2.2.1 - 1 by omega), if_pos c2]
      refine Ev.neg (by decide) ?_
      rw [f_fails0 (up_same _ _ _ _) 2 (by omega) 0 (Or.inl rfl), if_pos rfl, ob_some]
      refine Ev.pos rfl ?_
      rw [wr_eq (a := a) (by omega)]
      refine Ev.pos (by omega) ?_
      rw [show (up w 85 0 0) 125 = S.2.2.2.2.1.2.2.2.2.2.1 from (up_row _ _ _ (by omega)).trans h.r.2.2.2.2.2.1]
      exact Ev.ret (RfQ_ok h _)
    · rw [if_neg (show ¬ (0 ≤ a ∧ a ≤ sC S.2.2.1 - 1) by omega), if_neg c2]
      refine Ev.pos rfl ?_
      rw [f_fails0 (up_same _ _ _ _) 2 (by omega) 1 (Or.inr rfl), if_neg (by decide), ob_some]
      exact Ev.neg (by decide) (Ev.ret (RfQ_no h 2 0 _ (by decide)))
theorem rf_failed {S : St} {w : WS} (hW : WF S) (h : JM S w) {a : Int} (ha : IR a) : Ev (f_X9_failed a w) (RfQ (tq_c S.2.2.2.2.1.2.2.2.2.2.2 a S) w) := by
  have hc := hW.cnt.2.2
  unfold IR at ha
  unfold f_X9_failed tq_c
  rw [rf_noRun hW h, ob_some]
  by_cases c : S.2.2.2.2.1.1 = 0
  · rw [if_pos c, if_pos c, if_pos c]
    exact Ev.neg (by decide) (Ev.ret (RfQ_no h 1 0 _ (by decide)))
  · rw [if_neg c, if_neg c, if_neg c]
    refine Ev.pos rfl ?_
    rw [show (up w 85 0 0) 85 51 = sC S.2.2.1 from (up_slot _ _ _ _ (by omega)).trans h.cnt.2.2, wr_eq (a := a) (by omega), wr_eq (a := sC S.2.2.1 - 1) (by omega), f_in (by omega) (by omega) (by omega), ob_some]
    unfold f_X9_failed_34
    by_cases c2 : 0 ≤ a ∧ a < sC S.2.2.1
    · rw [if_pos (show 0 ≤ a ∧ a ≤ sC S.2.2.1 - 1 by omega), if_pos c2]
      refine Ev.neg (by decide) ?_
      rw [f_fails0 (up_same _ _ _ _) 2 (by omega) 0 (Or.inl rfl), if_pos rfl, ob_some]
      refine Ev.pos rfl ?_
      rw [wr_eq (a := a) (by omega)]
      refine Ev.pos (by omega) ?_
      rw [show (up w 85 0 0) 126 = S.2.2.2.2.1.2.2.2.2.2.2 from (up_row _ _ _ (by omega)).trans h.r.2.2.2.2.2.2]
      exact Ev.ret (RfQ_ok h _)
    · rw [if_neg (show ¬ (0 ≤ a ∧ a ≤ sC S.2.2.1 - 1) by omega), if_neg c2]
      refine Ev.pos rfl ?_
      rw [f_fails0 (up_same _ _ _ _) 2 (by omega) 1 (Or.inr rfl), if_neg (by decide), ob_some]
      exact Ev.neg (by decide) (Ev.ret (RfQ_no h 2 0 _ (by decide)))
