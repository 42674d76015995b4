theorem x_needMatch {w : WS} (h : w 0 13 = 0 ∨ w 0 13 = 1) : f_X8_needMatch w = some (if w 0 13 = 0 then 2 else 0, 0, w) := by
  unfold f_X8_needMatch
  rcases h with h | h
  · rw [h]; rfl
  · rw [h]; rfl
theorem x_needMatched {w : WS} (h : w 0 14 = 0 ∨ w 0 14 = 1) : f_X8_needMatched w = some (if w 0 14 = 0 then 5 else 0, 0, w) := by
  unfold f_X8_needMatched
  rcases h with h | h
  · rw [h]; rfl
  · rw [h]; rfl
def tq_m (x : Int) (S : St) : TQ := if S.2.2.2.2.2.1 = 0 then (1, 0, S) else if S.2.2.2.2.2.2.1 = 0 then (2, 0, S) else (0, x, S)
def tq_begun (S : St) : TQ := if S.2.2.2.2.2.1 = 0 then (1, 0, S) else (0, S.2.2.2.2.2.2.2.2.2.1, S)
theorem cl_match {S : St} {w : WS} (hW : WF S) (h : JC S w) {K : Int → WS → Option (Nat × Int × WS)} {Q : Nat → Int → WS → Prop} (k1 : S.2.2.2.2.2.1 = 0 → Q 2 0 w) (k2 : ¬ S.2.2.2.2.2.1 = 0 → Ex (K 0 w) Q) : Ex (ox (f_X8_needMatch w) K) Q := by
  have hr := hW.2.2.2.2.2.1
  have e := h.m.1
  by_cases c : S.2.2.2.2.2.1 = 0
  · exact Ex.no (t := 2) (by rw [x_needMatch (by omega), e, if_pos c]) (by decide) (k1 c)
  · exact Ex.ok (by rw [x_needMatch (by omega), e, if_neg c]) (k2 c)
theorem cl_matched {S : St} {w : WS} (hW : WF S) (h : JC S w) {K : Int → WS → Option (Nat × Int × WS)} {Q : Nat → Int → WS → Prop} (k1 : S.2.2.2.2.2.2.1 = 0 → Q 5 0 w) (k2 : ¬ S.2.2.2.2.2.2.1 = 0 → Ex (K 0 w) Q) : Ex (ox (f_X8_needMatched w) K) Q := by
  have hr := hW.2.2.2.2.2.2.1
  have e := h.m.2.1
  by_cases c : S.2.2.2.2.2.2.1 = 0
  · exact Ex.no (t := 5) (by rw [x_needMatched (by omega), e, if_pos c]) (by decide) (k1 c)
  · exact Ex.ok (by rw [x_needMatched (by omega), e, if_neg c]) (k2 c)
theorem cl_from {S : St} {w : WS} (hW : WF S) (h : JC S w) : Ev (f_L_from w) (ClQ (tq_m S.2.2.2.2.2.2.2.1 S) w) := by
  unfold f_L_from tq_m
  refine Ev.ocX ?_
  unfold f_X8_from
  refine cl_match hW h (fun c => ?_) (fun c => ?_)
  · rw [if_pos c]
    exact Ev.neg (by decide) (Ev.pos rfl (Ev.ret (ClQ_no h 1 0 (by decide))))
  · rw [if_neg c]
    refine cl_matched hW h (fun c2 => ?_) (fun c2 => ?_)
    · rw [if_pos c2]
      exact Ev.neg (by decide) (Ev.neg (by decide) (Ev.pos rfl (Ev.ret (ClQ_no h 2 0 (by decide)))))
    · rw [if_neg c2, (h.m.2.2.2 (by have := hW.2.2.2.2.2.2.1; omega)).1]
      exact Ex.ret (Ev.pos rfl (ClQ_put (q := (0, S.2.2.2.2.2.2.2.1, S)) rfl h (fun _ _ => rfl)))
theorem cl_to {S : St} {w : WS} (hW : WF S) (h : JC S w) : Ev (f_L_to w) (ClQ (tq_m S.2.2.2.2.2.2.2.2.1 S) w) := by
  unfold f_L_to tq_m
  refine Ev.ocX ?_
  unfold f_X8_to
  refine cl_match hW h (fun c => ?_) (fun c => ?_)
  · rw [if_pos c]
    exact Ev.neg (by decide) (Ev.pos rfl (Ev.ret (ClQ_no h 1 0 (by decide))))
  · rw [if_neg c]
    refine cl_matched hW h (fun c2 => ?_) (fun c2 => ?_)
    · rw [if_pos c2]
      exact Ev.neg (by decide) (Ev.neg (by decide) (Ev.pos rfl (Ev.ret (ClQ_no h 2 0 (by decide)))))
    · rw [if_neg c2, (h.m.2.2.2 (by have := hW.2.2.2.2.2.2.1; omega)).2.1]
      exact Ex.ret (Ev.pos rfl (ClQ_put (q := (0, S.2.2.2.2.2.2.2.2.1, S)) rfl h (fun _ _ => rfl)))
theorem cl_begun {S : St} {w : WS} (hW : WF S) (h : JC S w) : Ev (f_L_begun w) (ClQ (tq_begun S) w) := by
  unfold f_L_begun tq_begun
  refine Ev.ocX ?_
  unfold f_X8_begun
  refine cl_match hW h (fun c => ?_) (fun c => ?_)
  · rw [if_pos c]
    exact Ev.neg (by decide) (Ev.pos rfl (Ev.ret (ClQ_no h 1 0 (by decide))))
  · rw [if_neg c, h.m.2.2.1]
    exact Ex.ret (Ev.pos rfl (ClQ_put (q := (0, S.2.2.2.2.2.2.2.2.2.1, S)) rfl h (fun _ _ => rfl)))
theorem rf_from {S : St} {w : WS} (hW : WF S) (h : JM S w) : Ev (f_X9_from w) (RfQ (tq_m S.2.2.2.2.2.2.2.1 S) w) := by
  have h1 := hW.2.2.2.2.2.1
  have h2 := hW.2.2.2.2.2.2.1
  have e72 : (up w 85 0 0) 85 72 = S.2.2.2.2.2.1 := (up_slot _ _ _ _ (by omega)).trans h.m.1
  have e73 : (up w 85 0 0) 85 73 = S.2.2.2.2.2.2.1 := (up_slot _ _ _ _ (by omega)).trans h.m.2.1
  unfold f_X9_from tq_m f_X9_from_18
  rw [e72]
  by_cases c : S.2.2.2.2.2.1 = 0
  · rw [if_pos c]
    refine Ev.pos (by first | (simp (disch := omega) only [wr_eq] <;> omega) | omega) ?_
    rw [f_fails0 (up_same _ _ _ _) 1 (by omega) 1 (Or.inr rfl), if_neg (by decide), ob_some]
    exact Ev.neg (by decide) (Ev.ret (RfQ_no h 1 0 _ (by decide)))
  · rw [if_neg c]
    refine Ev.neg (by first | (simp (disch := omega) only [wr_eq] <;> omega) | omega) ?_
    rw [f_fails0 (up_same _ _ _ _) 1 (by omega) 0 (Or.inl rfl), if_pos rfl, ob_some, e73]
    refine Ev.pos rfl ?_
    unfold f_X9_from_38
    by_cases c2 : S.2.2.2.2.2.2.1 = 0
    · rw [if_pos c2]
      refine Ev.pos (by first | (simp (disch := omega) only [wr_eq] <;> omega) | omega) ?_
      rw [f_fails0 (up_same _ _ _ _) 2 (by omega) 1 (Or.inr rfl), if_neg (by decide), ob_some]
      exact Ev.neg (by decide) (Ev.ret (RfQ_no h 2 0 _ (by decide)))
    · rw [if_neg c2]
      refine Ev.neg (by first | (simp (disch := omega) only [wr_eq] <;> omega) | omega) ?_
      rw [f_fails0 (up_same _ _ _ _) 2 (by omega) 0 (Or.inl rfl), if_pos rfl, ob_some]
      refine Ev.pos rfl ?_
      rw [show (up w 85 0 0) 85 74 = S.2.2.2.2.2.2.2.1 from (up_slot _ _ _ _ (by omega)).trans (h.m.2.2.2 (by omega)).1]
      exact Ev.ret (RfQ_ok h _)
theorem rf_to {S : St} {w : WS} (hW : WF S) (h : JM S w) : Ev (f_X9_to w) (RfQ (tq_m S.2.2.2.2.2.2.2.2.1 S) w) := by
  have h1 := hW.2.2.2.2.2.1
  have h2 := hW.2.2.2.2.2.2.1
  have e72 : (up w 85 0 0) 85 72 = S.2.2.2.2.2.1 := (up_slot _ _ _ _ (by omega)).trans h.m.1
  have e73 : (up w 85 0 0) 85 73 = S.2.2.2.2.2.2.1 := (up_slot _ _ _ _ (by omega)).trans h.m.2.1
  unfold f_X9_to tq_m f_X9_to_18
  rw [e72]
  by_cases c : S.2.2.2.2.2.1 = 0
  · rw [if_pos c]
    refine Ev.pos (by first | (simp (disch := omega) only [wr_eq] <;> omega) | omega) ?_
    rw [f_fails0 (up_same _ _ _ _) 1 (by omega) 1 (Or.inr rfl), if_neg (by decide), ob_some]
    exact Ev.neg (by decide) (Ev.ret (RfQ_no h 1 0 _ (by decide)))
  · rw [if_neg c]
    refine Ev.neg (by first | (simp (disch := omega) only [wr_eq] <;> omega) | omega) ?_
    rw [f_fails0 (up_same _ _ _ _) 1 (by omega) 0 (Or.inl rfl), if_pos rfl, ob_some, e73]
    refine Ev.pos rfl ?_
    unfold f_X9_to_38
    by_cases c2 : S.2.2.2.2.2.2.1 = 0
    · rw [if_pos c2]
      refine Ev.pos (by first | (simp (disch := omega) only [wr_eq] <;> omega) | omega) ?_
      rw [f_fails0 (up_same _ _ _ _) 2 (by omega) 1 (Or.inr rfl), if_neg (by decide), ob_some]
      exact Ev.neg (by decide) (Ev.ret (RfQ_no h 2 0 _ (by decide)))
    · rw [if_neg c2]
      refine Ev.neg (by first | (simp (disch := omega) only [wr_eq] <;> omega) | omega) ?_
      rw [f_fails0 (up_same _ _ _ _) 2 (by omega) 0 (Or.inl rfl), if_pos rfl, ob_some]
      refine Ev.pos rfl ?_
      rw [show (up w 85 0 0) 85 75 = S.2.2.2.2.2.2.2.2.1 from (up_slot _ _ _ _ (by omega)).trans (h.m.2.2.2 (by omega)).2]
      exact Ev.ret (RfQ_ok h _)
theorem rf_begun {S : St} {w : WS} (hW : WF S) (h : JM S w) : Ev (f_X9_begun w) (RfQ (tq_begun S) w) := by
  have h1 := hW.2.2.2.2.2.1
  have e72 : (up w 85 0 0) 85 72 = S.2.2.2.2.2.1 := (up_slot _ _ _ _ (by omega)).trans h.m.1
  unfold f_X9_begun tq_begun f_X9_begun_18
  rw [e72]
  by_cases c : S.2.2.2.2.2.1 = 0
  · rw [if_pos c]
    refine Ev.pos (by first | (simp (disch := omega) only [wr_eq] <;> omega) | omega) ?_
    rw [f_fails0 (up_same _ _ _ _) 1 (by omega) 1 (Or.inr rfl), if_neg (by decide), ob_some]
    exact Ev.neg (by decide) (Ev.ret (RfQ_no h 1 0 _ (by decide)))
  · rw [if_neg c]
    refine Ev.neg (by first | (simp (disch := omega) only [wr_eq] <;> omega) | omega) ?_
    rw [f_fails0 (up_same _ _ _ _) 1 (by omega) 0 (Or.inl rfl), if_pos rfl, ob_some]
    refine Ev.pos rfl ?_
    rw [show (up w 85 0 0) 85 76 = S.2.2.2.2.2.2.2.2.2.1 from (up_slot _ _ _ _ (by omega)).trans h.m.2.2.1]
    exact Ev.ret (RfQ_ok h _)
theorem cl_statements {S : St} {w : WS} (h : JC S w) : Ev (f_X8_statements w) (DQ (sC S.2.2.1, S) w) := by
  unfold f_X8_statements
  exact Ev.ret ⟨h.cnt.2.2, h, fun _ _ => rfl⟩
theorem rf_statements {S : St} {w : WS} (h : JM S w) : Ev (f_X9_statements w) (RfQ (0, sC S.2.2.1, S) w) := by
  unfold f_X9_statements
  rw [show (up w 85 0 0) 85 51 = sC S.2.2.1 from (up_slot _ _ _ _ (by omega)).trans h.cnt.2.2]
  exact Ev.ret (RfQ_ok h _)
/-- a program with another anchoring -/
def setA (P : PV) (a : Int) : PV := (fun i => if 15 ≤ i then (fun j => if j = 0 then a else P.1 i j) else P.1 i, P.2)
theorem pvC_anchor (w : WS) (a : Int) {w' : WS} (e : ∀ c, c ∈ LPc → w' c = w c) (an : Int) : pvC w' a = setA (pvC w an) a := by
  rw [pvC_eq e]
  unfold setA
  refine Prod.ext ?_ rfl
  funext i
  by_cases h : 15 ≤ i
  · show (pvC w a).1 i = if 15 ≤ i then _ else _
    rw [if_pos h]
    obtain ⟨k, rfl⟩ : ∃ k, i = k + 15 := ⟨i - 15, by omega⟩
    funext j
    have hj : j = 0 ∨ j = 1 ∨ j = 2 ∨ ∃ q, j = q + 3 := by
      by_cases q : j < 3
      · omega
      · exact Or.inr (Or.inr (Or.inr ⟨j - 3, by omega⟩))
    rcases hj with rfl | rfl | rfl | ⟨q, rfl⟩ <;> rfl
  · show (pvC w a).1 i = if 15 ≤ i then _ else _
    rw [if_neg h]
    have hh : i = 0 ∨ i = 1 ∨ i = 2 ∨ i = 3 ∨ i = 4 ∨ i = 5 ∨ i = 6 ∨ i = 7 ∨ i = 8 ∨ i = 9 ∨ i = 10 ∨ i = 11 ∨ i = 12 ∨ i = 13 ∨ i = 14 := by omega
    rcases hh with rfl | rfl | rfl | rfl | rfl | rfl | rfl | rfl | rfl | rfl | rfl | rfl | rfl | rfl | rfl <;> rfl
theorem pvR_anchor {w w' : WS} (a : Int) (e : ∀ c, c ∈ LPr → w' c = w c) (s : ∀ k, k ∈ [11, 15, 51] → w' 85 k = w 85 k) (h21 : w' 85 21 = a) : pvR w' = setA (pvR w) a := by
  have en : nmR w' = nmR w := by
    funext k
    unfold nmR
    rw [e 122 (by decide), e 123 (by decide), e 124 (by decide)]
  unfold setA
  refine Prod.ext ?_ (by show rM w' 87 88 20 = _; rw [rM_fr (e 87 (by decide)) (e 88 (by decide))]; rfl)
  funext i
  by_cases h : 15 ≤ i
  · show (pvR w').1 i = if 15 ≤ i then _ else _
    rw [if_pos h]
    obtain ⟨k, rfl⟩ : ∃ k, i = k + 15 := ⟨i - 15, by omega⟩
    funext j
    have e0 : ∀ x : WS, (pvR x).1 (k + 15) = fun j => match j with
      | 0 => x 85 21
      | 1 => x 85 11
      | 2 => x 85 15
      | _ => x 85 51 := fun _ => rfl
    rw [e0, e0]
    have hj : j = 0 ∨ j = 1 ∨ j = 2 ∨ ∃ q, j = q + 3 := by
      by_cases q : j < 3
      · omega
      · exact Or.inr (Or.inr (Or.inr ⟨j - 3, by omega⟩))
    rcases hj with rfl | rfl | rfl | ⟨q, rfl⟩
    · exact h21
    · exact s 11 (by simp)
    · exact s 15 (by simp)
    · exact s 51 (by simp)
  · show (pvR w').1 i = if 15 ≤ i then _ else _
    rw [if_neg h]
    have hh : i = 0 ∨ i = 1 ∨ i = 2 ∨ i = 3 ∨ i = 4 ∨ i = 5 ∨ i = 6 ∨ i = 7 ∨ i = 8 ∨ i = 9 ∨ i = 10 ∨ i = 11 ∨ i = 12 ∨ i = 13 ∨ i = 14 := by omega
    rcases hh with rfl | rfl | rfl | rfl | rfl | rfl | rfl | rfl | rfl | rfl | rfl | rfl | rfl | rfl | rfl
    · exact e 91 (by decide)
    · exact e 92 (by decide)
    · exact e 93 (by decide)
    · exact e 94 (by decide)
    · exact e 95 (by decide)
    · exact e 96 (by decide)
    · exact e 114 (by decide)
    · exact e 115 (by decide)
    · exact e 116 (by decide)
    · exact e 117 (by decide)
    · exact e 118 (by decide)
    · exact e 119 (by decide)
    · exact e 120 (by decide)
    · exact e 121 (by decide)
    · exact en
def stP (S : St) (P : PV) : St := (S.1, S.2.1, P, S.2.2.2)
theorem setA_ok {P : PV} (h : POK P) {a : Int} (ha : a = 0 ∨ a = 1) : POK (setA P a) := by
  obtain ⟨p1, p2, p3, p4, p5, p6, p7, p8, p9⟩ := h
  exact ⟨p1, p2, p3, p4, p5, ha, p7, p8, p9⟩
theorem cl_anchor {S : St} {w : WS} (hW : WF S) (h : JC S w) {a : Int} (ha : a = 0 ∨ a = 1) : Ev (f_X8_anchor a w) (DQ (S.2.2.1.1 15 0, stP S (setA S.2.2.1 a)) w) := by
  have hA := hW.2.2.1.2.2.2.2.2.1
  have e12 : w 0 12 = S.2.2.1.1 15 0 := congrFun (congrFun (congrArg Prod.fst h.2.2.1) 15) 0
  unfold f_X8_anchor
  rw [if_pos ha, e12, if_pos hA]
  have F : Fr [0] w (up w 0 12 a) := Fr.rf.up (by simp)
  have s : ∀ k, k ≠ 12 → (up w 0 12 a) 0 k = w 0 k := fun k hk => up_slot _ _ _ _ hk
  have e' : (up w 0 12 a) 0 12 = a := up_same _ _ _ _
  generalize up w 0 12 a = w1 at F s e' ⊢
  obtain ⟨⟨a1, a2⟩, a3, a4, a5, ⟨b1, b2, b3, b4, b5, b6⟩, a7⟩ := h
  have e : ∀ c, c ≠ 0 → w1 c = w c := fun c h1 => F c (by simp; omega)
  refine Ev.ret ⟨rfl, ⟨⟨(congrFun (rC_fr (e 2 (by omega)) (e 3 (by omega))) 0).trans a1, RO_fr (e 3 (by omega)) a2⟩, (s 2 (by omega)).trans a3, ?_, a5.fr (e 8 (by omega)) (e 9 (by omega)), ⟨RO_fr (e 6 (by omega)) b1, RO_fr (e 12 (by omega)) b2, RO_fr (e 15 (by omega)) b3, RO_fr (e 18 (by omega)) b4, RO_fr (e 21 (by omega)) b5, RO_fr (e 24 (by omega)) b6⟩, ?_⟩, fun c hc => e c (by omega)⟩
  · rw [e', pvC_anchor w a (w' := w1) (fun c hc => e c (by intro q; rw [q] at hc; exact absurd hc (by decide))) (w 0 12), a4]
    rfl
  · unfold cSt
    rw [e 76 (by omega), e 80 (by omega), e 82 (by omega), s 13 (by omega), s 14 (by omega), s 15 (by omega), s 16 (by omega), s 17 (by omega), s 18 (by omega)]
    exact a7
theorem rf_anchor {S : St} {w : WS} (hW : WF S) (h : JM S w) {a : Int} (ha : a = 0 ∨ a = 1) : Ev (f_X9_anchor a w) (RfQ (0, S.2.2.1.1 15 0, stP S (setA S.2.2.1 a)) w) := by
  have hA := hW.2.2.1.2.2.2.2.2.1
  have e12 : (up w 85 0 0) 85 21 = S.2.2.1.1 15 0 := (up_slot _ _ _ _ (by omega)).trans (congrFun (congrFun (congrArg Prod.fst h.2.2.1) 15) 0)
  unfold f_X9_anchor
  rw [if_pos ha, e12, if_pos hA]
  have F : FX [85] [0, 21] w (up (up w 85 0 0) 85 21 a) := (FX.rf.put 0 _ (by simp) (by simp)).put 21 _ (by simp) (by simp)
  have e' : (up (up w 85 0 0) 85 21 a) 85 21 = a := up_same _ _ _ _
  have z0 : (up (up w 85 0 0) 85 21 a) 85 0 = 0 := by rw [up_slot _ _ _ _ (by omega), up_same]
  generalize up (up w 85 0 0) 85 21 a = w1 at F e' z0 ⊢
  obtain ⟨⟨a1, a2⟩, a3, a4, a5, ⟨b1, b2, b3⟩, a7, a8⟩ := h
  have e : ∀ c, c ≠ 85 → w1 c = w c := fun c h1 => F.1 c (by simp; omega)
  have s : ∀ k, k ≠ 0 → k ≠ 21 → w1 85 k = w 85 k := fun k h1 h2 => F.2 k (by simp; omega)
  refine Ev.ret ⟨z0, fun _ => rfl, ⟨⟨(s 2 (by omega) (by omega)).trans a1, by show sg (w1 86) _ _ = _; rw [e 86 (by omega)]; exact a2⟩, (s 5 (by omega) (by omega)).trans a3, ?_, a5.fr (e 89 (by omega)) (e 90 (by omega)), ⟨RM_fr (e 88 (by omega)) b1, RM_fr (e 99 (by omega)) b2, RM_fr (e 130 (by omega)) b3⟩, ?_, ?_⟩, fun c hc => e c (by omega)⟩
  · rw [pvR_anchor a (w := w) (fun c hc => e c (by intro q; rw [q] at hc; exact absurd hc (by decide))) (fun k hk => s k (by simp at hk; omega) (by simp at hk; omega)) e', a4]
    rfl
  · rw [s 59 (by omega) (by omega), s 61 (by omega) (by omega), s 62 (by omega) (by omega), s 60 (by omega) (by omega), s 63 (by omega) (by omega), e 125 (by omega), e 126 (by omega)]
    exact a7
  · rw [s 72 (by omega) (by omega), s 73 (by omega) (by omega), s 74 (by omega) (by omega), s 75 (by omega) (by omega), s 76 (by omega) (by omega)]
    exact a8
theorem setA_WF {S : St} (h : WF S) {a : Int} (ha : a = 0 ∨ a = 1) : WF (stP S (setA S.2.2.1 a)) := ⟨h.1, h.2.1, setA_ok h.2.2.1 ha, h.2.2.2.1, h.2.2.2.2.1, h.2.2.2.2.2⟩
