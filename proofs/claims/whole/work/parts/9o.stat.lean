/-! assign, scan and call -/
abbrev isW (a : Int) : Prop := -4 ≤ a ∧ a ≤ 39
theorem x_isWayC {a : Int} (ha : IR a) (w : WS) : f_X4_isWay a w = some (if isW a then 1 else 0, w) := by
  unfold IR at ha
  unfold f_X4_isWay
  rw [wr_eq (a := a) (by omega), wr_eq (a := -4) (by omega), wr_eq (a := 40) (by omega)]
  by_cases c : isW a
  · have c' : -4 ≤ a ∧ a ≤ 39 := c
    rw [if_pos c, if_neg (by omega), if_pos (by omega)]
  · have c' : ¬ (-4 ≤ a ∧ a ≤ 39) := c
    rw [if_neg c]
    by_cases q : a < -4
    · rw [if_pos q]
    · rw [if_neg q, if_neg (by omega)]
theorem x_needWays {y n : Int} (hy : IR y) (hn : IR n) (w : WS) : f_X8_needWays y n w = some (if isW y ∧ isW n then 0 else 1, 0, w) := by
  unfold f_X8_needWays f_X8_needWays_14
  rw [x_isWayC hy, ob_some]
  by_cases c : isW y
  · rw [if_pos c, if_neg (by decide), x_isWayC hn, ob_some]
    by_cases d : isW n
    · rw [if_pos d, if_neg (by decide), if_pos ⟨c, d⟩]
    · rw [if_neg d, if_pos (by rfl), if_neg (fun q => d q.2)]
  · rw [if_neg c, if_pos (by rfl), if_neg (fun q => c q.1)]
theorem x_needRoom {w : WS} (h : 0 ≤ w 57 6 ∧ w 57 6 ≤ 40) : f_X8_needRoomForStatement w = some (if w 57 6 < 40 then 0 else 2, 0, w) := by
  unfold f_X8_needRoomForStatement
  rw [wr_eq (a := w 57 6) (by omega), wr_eq (a := 40) (by omega)]
  by_cases c : w 57 6 < 40
  · rw [if_pos c, if_pos c]
  · rw [if_neg c, if_neg c]
theorem x_isWayR {a : Int} (ha : IR a) (w : WS) : f_X9_isWay a w = some (if isW a then 1 else 0, w) := by
  unfold IR at ha
  unfold f_X9_isWay
  rw [wr_eq (a := a) (by omega), f_in (by omega) (by omega) (by omega), ob_some]
  by_cases c : isW a
  · rw [if_pos c]
    exact if_pos (Or.inr rfl)
  · rw [if_neg c]
    exact if_pos (Or.inl rfl)
/-- a statement that is asked for: what must hold of it first and second -/
noncomputable def tq_stat (o1 o2 : Prop) (K v p t y n : Int) (S : St) : TQ := @ite TQ o1 (Classical.propDecidable _) (@ite TQ o2 (Classical.propDecidable _) (if sC S.2.2.1 < 40 then (0, sC S.2.2.1, stP S (addS S.2.2.1 K v p t y n)) else (3, 0, S)) (2, 0, S)) (1, 0, S)
theorem tq_s1 {o1 o2 : Prop} {K v p t y n : Int} {S : St} (h : ¬ o1) : tq_stat o1 o2 K v p t y n S = (1, 0, S) := if_neg h
theorem tq_s2 {o1 o2 : Prop} {K v p t y n : Int} {S : St} (h : o1) (h2 : ¬ o2) : tq_stat o1 o2 K v p t y n S = (2, 0, S) := (if_pos h).trans (if_neg h2)
theorem tq_s3 {o1 o2 : Prop} {K v p t y n : Int} {S : St} (h : o1) (h2 : o2) (h3 : ¬ sC S.2.2.1 < 40) : tq_stat o1 o2 K v p t y n S = (3, 0, S) := (if_pos h).trans ((if_pos h2).trans (if_neg h3))
theorem tq_s0 {o1 o2 : Prop} {K v p t y n : Int} {S : St} (h : o1) (h2 : o2) (h3 : sC S.2.2.1 < 40) : tq_stat o1 o2 K v p t y n S = (0, sC S.2.2.1, stP S (addS S.2.2.1 K v p t y n)) := (if_pos h).trans ((if_pos h2).trans (if_pos h3))
theorem tq_stat_WF {o1 o2 : Prop} {K v p t y n : Int} {S : St} (hW : WF S) (ok : o1 → o2 → sC S.2.2.1 < 40 → POK (addS S.2.2.1 K v p t y n)) : WF (tq_stat o1 o2 K v p t y n S).2.2 := by
  by_cases h1 : o1
  · by_cases h2 : o2
    · by_cases h3 : sC S.2.2.1 < 40
      · rw [tq_s0 h1 h2 h3]
        obtain ⟨k1, k2, k3, k4, k5, k6⟩ := hW
        obtain ⟨r1, r2, r3, r4, r5, r6, r7, r8, r9⟩ := k5
        exact ⟨k1, k2, ok h1 h2 h3, k4, ⟨r1, r2, r3, r4, r5, r6, r7, r8, r9⟩, k6⟩
      · rw [tq_s3 h1 h2 h3]; exact hW
    · rw [tq_s2 h1 h2]; exact hW
  · rw [tq_s1 h1]; exact hW
/-- the class's last part of it -/
theorem cl_tail {S : St} {w : WS} (hW : WF S) (h : JC S w) {o1 o2 : Prop} (h1 : o1) {K v p t y n : Int} (hy : IR y) (hn : IR n) (ho2 : o2 ↔ (isW y ∧ isW n)) {H : Nat → WS → Option (Int × WS)} (H1 : H 1 w = some (2, w)) (H2 : H 2 w = some (3, w)) : Ex (ox (f_X8_needWays y n w) fun _ w3 => ox (f_X8_needRoomForStatement w3) fun _ w4 => ob (f_X4_add K v p t y n w4) fun r5 w5 => some (0, r5, w5)) (fun tg r w' => Ev (if tg = 0 then (if 0 ≤ wr 0 ∧ wr 0 < 1 then some (0, up w' 135 (wr 0).toNat (wr r)) else none) else H tg w') (ClQ (tq_stat o1 o2 K v p t y n S) w)) := by
  have h0 := hW.cnt.2.2
  have h57 := h.cnt.2.2
  by_cases c : isW y ∧ isW n
  · refine Ex.ok (by rw [x_needWays hy hn, if_pos c]) ?_
    by_cases d : sC S.2.2.1 < 40
    · refine Ex.ok (by rw [x_needRoom (by omega), h57, if_pos d]) ?_
      rw [tq_s0 h1 (ho2.mpr c) d]
      refine Ex.bd (cl_add hW h d K v p t y n) ?_
      rintro r w1 ⟨rfl, q1, q2⟩
      refine Ex.ret (Ev.pos rfl ?_)
      exact ClQ_put (q := (0, sC S.2.2.1, stP S (addS S.2.2.1 K v p t y n))) rfl q1 q2
    · rw [tq_s3 h1 (ho2.mpr c) d]
      refine Ex.no (t := 2) (by rw [x_needRoom (by omega), h57, if_neg d]) (by decide) ?_
      refine Ev.neg (by decide) ?_
      rw [H2]
      exact Ev.ret (ClQ_no h 3 0 (by decide))
  · rw [tq_s2 h1 (fun q => c (ho2.mp q))]
    refine Ex.no (t := 1) (by rw [x_needWays hy hn, if_neg c]) (by decide) ?_
    refine Ev.neg (by decide) ?_
    rw [H1]
    exact Ev.ret (ClQ_no h 2 0 (by decide))
/-- the reference's last part of it -/
theorem rf_tail {S : St} {w0 w : WS} (hW : WF S) (h : JM S w) (z0 : w 85 0 = 0) (hF : ∀ c, c < 85 ∨ 135 ≤ c → w c = w0 c) {o1 o2 : Prop} (h1 : o1) (h2 : o2) {K v p t y n : Int} (hK : 0 ≤ K ∧ K < 65536) : Ev (ob (f_X9_add K v p t y n w) fun r5 w5 => some (r5, w5)) (RfQ (tq_stat o1 o2 K v p t y n S) w0) := by
  refine Ev.bd (rf_add hW h z0 K v p t y n hK) ?_
  rintro r w1 ⟨q1, q2⟩
  have F : ∀ c, c < 85 ∨ 135 ≤ c → w1 c = w0 c := fun c hc => (q2 c hc).trans (hF c hc)
  rcases q1 with ⟨d, rfl, e0, e1⟩ | ⟨d, e0, e1⟩
  · rw [tq_s0 h1 h2 d]
    exact Ev.ret ⟨e0, fun _ => rfl, e1, F⟩
  · rw [tq_s3 h1 h2 (by omega)]
    exact Ev.ret ⟨e0, fun q => absurd (show (3 : Int) = 0 from q) (by decide), e1, F⟩
noncomputable def tq_assign (v t y n : Int) (S : St) : TQ := tq_stat ((0 ≤ v ∧ v < 26) ∧ (0 ≤ t ∧ t < tN S.2.2.1)) (isW y ∧ isW n) 97 v (-1) t y n S
noncomputable def tq_scan (v p t y n : Int) (S : St) : TQ := tq_stat ((0 ≤ v ∧ v < 26) ∧ (0 ≤ p ∧ p < pN S.2.2.1) ∧ (t = -1 ∨ (0 ≤ t ∧ t < tN S.2.2.1))) (isW y ∧ isW n) 115 v p t y n S
noncomputable def tq_call (v f t y n : Int) (S : St) : TQ := tq_stat ((0 ≤ v ∧ v < 26) ∧ (0 ≤ t ∧ t < tN S.2.2.1)) ((0 ≤ f ∧ f < 5) ∧ isW y ∧ isW n) 99 v f t y n S
theorem tq_assign_WF {v t y n : Int} {S : St} (hW : WF S) : WF (tq_assign v t y n S).2.2 := tq_stat_WF hW (fun a b c => addS_ok hW.2.2.1 c (Or.inl rfl) a.1 b.1 b.2 (fun _ => a.2) (fun q => absurd q (by decide)) (fun q => absurd q (by decide)))
theorem tq_scan_WF {v p t y n : Int} {S : St} (hW : WF S) : WF (tq_scan v p t y n S).2.2 := tq_stat_WF hW (fun a b c => addS_ok hW.2.2.1 c (Or.inr (Or.inl rfl)) a.1 b.1 b.2 (fun q => absurd rfl q) (fun _ => a.2) (fun q => absurd q (by decide)))
theorem tq_call_WF {v f t y n : Int} {S : St} (hW : WF S) : WF (tq_call v f t y n S).2.2 := tq_stat_WF hW (fun a b c => addS_ok hW.2.2.1 c (Or.inr (Or.inr rfl)) a.1 b.2.1 b.2.2 (fun _ => a.2) (fun q => absurd q (by decide)) (fun _ => b.1))
theorem cl_assign {S : St} {w : WS} (hW : WF S) (h : JC S w) {v t y n : Int} (hv : IR v) (ht : IR t) (hy : IR y) (hn : IR n) : Ev (f_L_assign v t y n w) (ClQ (tq_assign v t y n S) w) := by
  have hc := hW.cnt.2.1
  have h32 := h.cnt.2.1
  unfold f_L_assign tq_assign
  refine Ev.ocX ?_
  unfold f_X8_assign
  by_cases c1 : 0 ≤ v ∧ v < 26
  · refine Ex.ok (by rw [x_needVariable hv, if_pos c1]) ?_
    by_cases c2 : 0 ≤ t ∧ t < tN S.2.2.1
    · refine Ex.ok (by rw [x_needTerm ht (by unfold IR; omega), h32, if_pos c2]) ?_
      exact cl_tail hW h ⟨c1, c2⟩ hy hn Iff.rfl (H := fun t w2 => if t = 3 then some (1, w2) else if t = 1 then some (2, w2) else if t = 2 then some (3, w2) else none) rfl rfl
    · rw [tq_s1 (fun q => c2 q.2)]
      refine Ex.no (t := 3) (by rw [x_needTerm ht (by unfold IR; omega), h32, if_neg c2]) (by decide) ?_
      exact Ev.neg (by decide) (Ev.pos rfl (Ev.ret (ClQ_no h 1 0 (by decide))))
  · rw [tq_s1 (fun q => c1 q.1)]
    refine Ex.no (t := 3) (by rw [x_needVariable hv, if_neg c1]) (by decide) ?_
    exact Ev.neg (by decide) (Ev.pos rfl (Ev.ret (ClQ_no h 1 0 (by decide))))
theorem cl_scan {S : St} {w : WS} (hW : WF S) (h : JC S w) {v p t y n : Int} (hv : IR v) (hp : IR p) (ht : IR t) (hy : IR y) (hn : IR n) : Ev (f_L_scan v p t y n w) (ClQ (tq_scan v p t y n S) w) := by
  have hc := hW.cnt
  have hk := h.cnt
  have ht' := ht
  unfold IR at ht'
  unfold f_L_scan tq_scan
  refine Ev.ocX ?_
  unfold f_X8_scan f_X8_scan_19
  by_cases c1 : 0 ≤ v ∧ v < 26
  · refine Ex.ok (by rw [x_needVariable hv, if_pos c1]) ?_
    by_cases c2 : 0 ≤ p ∧ p < pN S.2.2.1
    · refine Ex.ok (by rw [x_needPattern hp (by unfold IR; omega), hk.1, if_pos c2]) ?_
      by_cases c3 : t = -1
      · refine Ex.pos (by rw [c3]) ?_
        exact cl_tail hW h ⟨c1, c2, Or.inl c3⟩ hy hn Iff.rfl (H := fun t w2 => if t = 3 then some (1, w2) else if t = 1 then some (2, w2) else if t = 2 then some (3, w2) else none) rfl rfl
      · refine Ex.neg (by first | (simp (disch := omega) only [wr_eq] <;> omega) | omega) ?_
        by_cases c4 : 0 ≤ t ∧ t < tN S.2.2.1
        · refine Ex.ok (by rw [x_needTerm ht (by unfold IR; omega), hk.2.1, if_pos c4]) ?_
          exact cl_tail hW h ⟨c1, c2, Or.inr c4⟩ hy hn Iff.rfl (H := fun t w2 => if t = 3 then some (1, w2) else if t = 1 then some (2, w2) else if t = 2 then some (3, w2) else none) rfl rfl
        · rw [tq_s1 (fun q => q.2.2.elim c3 c4)]
          refine Ex.no (t := 3) (by rw [x_needTerm ht (by unfold IR; omega), hk.2.1, if_neg c4]) (by decide) ?_
          exact Ev.neg (by decide) (Ev.pos rfl (Ev.ret (ClQ_no h 1 0 (by decide))))
    · rw [tq_s1 (fun q => c2 q.2.1)]
      refine Ex.no (t := 3) (by rw [x_needPattern hp (by unfold IR; omega), hk.1, if_neg c2]) (by decide) ?_
      exact Ev.neg (by decide) (Ev.pos rfl (Ev.ret (ClQ_no h 1 0 (by decide))))
  · rw [tq_s1 (fun q => c1 q.1)]
    refine Ex.no (t := 3) (by rw [x_needVariable hv, if_neg c1]) (by decide) ?_
    exact Ev.neg (by decide) (Ev.pos rfl (Ev.ret (ClQ_no h 1 0 (by decide))))
theorem cl_call {S : St} {w : WS} (hW : WF S) (h : JC S w) {v f t y n : Int} (hv : IR v) (hf : IR f) (ht : IR t) (hy : IR y) (hn : IR n) : Ev (f_L_call v f t y n w) (ClQ (tq_call v f t y n S) w) := by
  have hc := hW.cnt
  have hk := h.cnt
  have hf' := hf
  unfold IR at hf'
  unfold f_L_call tq_call
  refine Ev.ocX ?_
  unfold f_X8_call
  by_cases c1 : 0 ≤ v ∧ v < 26
  · refine Ex.ok (by rw [x_needVariable hv, if_pos c1]) ?_
    by_cases c2 : 0 ≤ t ∧ t < tN S.2.2.1
    · refine Ex.ok (by rw [x_needTerm ht (by unfold IR; omega), hk.2.1, if_pos c2]) ?_
      refine Ex.obe (f_isBelow (by omega) (by omega) w) ?_
      by_cases c3 : 0 ≤ f ∧ f < 5
      · rw [if_pos c3]
        refine Ex.neg (by decide) ?_
        exact cl_tail hW h ⟨c1, c2⟩ hy hn ⟨fun q => q.2, fun q => ⟨c3, q⟩⟩ (H := fun t w2 => if t = 3 then some (1, w2) else if t = 1 then some (2, w2) else if t = 2 then some (3, w2) else none) rfl rfl
      · rw [if_neg c3, tq_s2 ⟨c1, c2⟩ (fun q => c3 q.1)]
        refine Ex.pos rfl (Ex.ret ?_)
        exact Ev.neg (by decide) (Ev.neg (by decide) (Ev.pos rfl (Ev.ret (ClQ_no h 2 0 (by decide)))))
    · rw [tq_s1 (fun q => c2 q.2)]
      refine Ex.no (t := 3) (by rw [x_needTerm ht (by unfold IR; omega), hk.2.1, if_neg c2]) (by decide) ?_
      exact Ev.neg (by decide) (Ev.pos rfl (Ev.ret (ClQ_no h 1 0 (by decide))))
  · rw [tq_s1 (fun q => c1 q.1)]
    refine Ex.no (t := 3) (by rw [x_needVariable hv, if_neg c1]) (by decide) ?_
    exact Ev.neg (by decide) (Ev.pos rfl (Ev.ret (ClQ_no h 1 0 (by decide))))
