/-! a pattern's parts -/
def isPK (k : Int) : Prop := k = 108 ∨ k = 124 ∨ k = 38 ∨ k = 110 ∨ k = 111 ∨ k = 115 ∨ k = 107 ∨ k = 35 ∨ k = 116 ∨ k = 114 ∨ k = 112 ∨ k = 113 ∨ k = 109 ∨ k = 42 ∨ k = 103 ∨ k = 120 ∨ k = 102 ∨ k = 122 ∨ k = 105 ∨ k = 36 ∨ k = 46 ∨ k = 64 ∨ k = 118
def ptOK (k a b N n : Int) : Prop := ((k = 108 ∨ k = 110 ∨ k = 111 ∨ k = 115 ∨ k = 107) ∧ 0 ≤ a ∧ a < N) ∨ ((k = 124 ∨ k = 38) ∧ 0 ≤ a ∧ a < n ∧ 0 ≤ b ∧ b < n) ∨ (k = 103 ∧ 0 ≤ a ∧ a < n) ∨ ((k = 36 ∨ k = 46) ∧ 0 ≤ a ∧ a < n ∧ 0 ≤ b ∧ b < 26) ∨ ((k = 64 ∨ k = 118) ∧ 0 ≤ a ∧ a < 26) ∨ ((k = 35 ∨ k = 116 ∨ k = 114 ∨ k = 112 ∨ k = 113) ∧ 0 ≤ a ∧ a ≤ 60) ∨ (k = 109 ∨ k = 42 ∨ k = 120 ∨ k = 102 ∨ k = 122 ∨ k = 105)
theorem pb0 {a : Int} (w : WS) : (if a < 0 then some ((0 : Int), w) else if 60 < a then some (0, w) else some (1, w)) = some (if 0 ≤ a ∧ a ≤ 60 then 1 else 0, w) := by
  by_cases c1 : a < 0
  · rw [if_pos c1, if_neg (by omega)]
  · rw [if_neg c1]
    by_cases c2 : 60 < a
    · rw [if_pos c2, if_neg (by omega)]
    · rw [if_neg c2, if_pos (by omega)]
theorem pb1 {a n : Int} (ha : IR a) (hn : IR n) (w : WS) : (ob (f_X8_isBelow a n w) fun r w1 => if r = 0 ∨ r = 1 then some (r, w1) else none) = some (if 0 ≤ a ∧ a < n then 1 else 0, w) := by
  unfold IR at ha hn
  rw [f_isBelow ha hn, ob_some]
  by_cases c : 0 ≤ a ∧ a < n
  · rw [if_pos c]; exact if_pos (Or.inr rfl)
  · rw [if_neg c]; exact if_pos (Or.inl rfl)
theorem pb2 {a b n : Int} (ha : IR a) (hb : IR b) (hn : IR n) {w : WS} {m : WS → Int} (hm : IR (m w)) : (ob (f_X8_isBelow a n w) fun r w1 => if wr r = 0 then some ((0 : Int), w1) else ob (f_X8_isBelow b (m w1) w1) fun r2 w2 => if wr r2 = 0 then some (0, w2) else some (1, w2)) = some (if (0 ≤ a ∧ a < n) ∧ (0 ≤ b ∧ b < m w) then 1 else 0, w) := by
  unfold IR at ha hb hn hm
  rw [f_isBelow ha hn, ob_some]
  by_cases c : 0 ≤ a ∧ a < n
  · rw [if_pos c, if_neg (by decide), f_isBelow hb hm, ob_some]
    by_cases d : 0 ≤ b ∧ b < m w
    · rw [if_pos d, if_neg (by decide), if_pos ⟨c, d⟩]
    · rw [if_neg d, if_pos (by rfl), if_neg (fun q => d q.2)]
  · rw [if_neg c, if_pos (by rfl), if_neg (fun q => c q.1)]
theorem itc {c d : Prop} {hc : Decidable c} {hd : Decidable d} (h : c ↔ d) : (@ite Int c hc 1 0) = @ite Int d hd 1 0 := by
  by_cases q : c
  · rw [if_pos q, if_pos (h.mp q)]
  · rw [if_neg q, if_neg (fun z => q (h.mpr z))]
theorem x_parts {k a b : Int} (hk : isPK k) (ha : IR a) (hb : IR b) {w : WS} {N n : Int} (h2 : w 0 2 = N) (h25 : w 25 4 = n) (hN : IR N) (hn : IR n) : f_X8_patternPartsExist k a b w = some (@ite Int (ptOK k a b N n) (Classical.propDecidable _) 1 0, w) := by
  have ha' := ha
  unfold IR at ha'
  have h26 : IR 26 := by unfold IR; omega
  unfold f_X8_patternPartsExist
  rw [h2, h25]
  rcases hk with rfl | rfl | rfl | rfl | rfl | rfl | rfl | rfl | rfl | rfl | rfl | rfl | rfl | rfl | rfl | rfl | rfl | rfl | rfl | rfl | rfl | rfl | rfl
  all_goals simp (disch := omega) only [wr_eq, Int.reduceEq, ↓reduceIte]
  · rw [pb1 ha hN]; exact congrArg (fun x => some (x, w)) (itc (by unfold ptOK; omega))
  · refine (pb2 ha hb hn (m := fun w1 => w1 25 4) (by show IR (w 25 4); rw [h25]; exact hn)).trans ?_
    rw [h25]; exact congrArg (fun x => some (x, w)) (itc (by unfold ptOK; omega))
  · refine (pb2 ha hb hn (m := fun w1 => w1 25 4) (by show IR (w 25 4); rw [h25]; exact hn)).trans ?_
    rw [h25]; exact congrArg (fun x => some (x, w)) (itc (by unfold ptOK; omega))
  · rw [pb1 ha hN]; exact congrArg (fun x => some (x, w)) (itc (by unfold ptOK; omega))
  · rw [pb1 ha hN]; exact congrArg (fun x => some (x, w)) (itc (by unfold ptOK; omega))
  · rw [pb1 ha hN]; exact congrArg (fun x => some (x, w)) (itc (by unfold ptOK; omega))
  · rw [pb1 ha hN]; exact congrArg (fun x => some (x, w)) (itc (by unfold ptOK; omega))
  · rw [pb0]; exact congrArg (fun x => some (x, w)) (itc (by unfold ptOK; omega))
  · rw [pb0]; exact congrArg (fun x => some (x, w)) (itc (by unfold ptOK; omega))
  · rw [pb0]; exact congrArg (fun x => some (x, w)) (itc (by unfold ptOK; omega))
  · rw [pb0]; exact congrArg (fun x => some (x, w)) (itc (by unfold ptOK; omega))
  · rw [pb0]; exact congrArg (fun x => some (x, w)) (itc (by unfold ptOK; omega))
  · rw [if_pos (show ptOK 109 a b N n by unfold ptOK; omega)]
  · rw [if_pos (show ptOK 42 a b N n by unfold ptOK; omega)]
  · rw [pb1 ha hn]; exact congrArg (fun x => some (x, w)) (itc (by unfold ptOK; omega))
  · rw [if_pos (show ptOK 120 a b N n by unfold ptOK; omega)]
  · rw [if_pos (show ptOK 102 a b N n by unfold ptOK; omega)]
  · rw [if_pos (show ptOK 122 a b N n by unfold ptOK; omega)]
  · rw [if_pos (show ptOK 105 a b N n by unfold ptOK; omega)]
  · refine (pb2 ha hb hn (m := fun _ => 26) h26).trans ?_
    exact congrArg (fun x => some (x, w)) (itc (by unfold ptOK; omega))
  · refine (pb2 ha hb hn (m := fun _ => 26) h26).trans ?_
    exact congrArg (fun x => some (x, w)) (itc (by unfold ptOK; omega))
  · rw [pb1 ha h26]; exact congrArg (fun x => some (x, w)) (itc (by unfold ptOK; omega))
  · rw [pb1 ha h26]; exact congrArg (fun x => some (x, w)) (itc (by unfold ptOK; omega))
