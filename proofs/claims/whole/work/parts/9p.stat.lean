/-! the reference's assign, scan and call -/
theorem rf_assign {S : St} {w : WS} (hW : WF S) (h : JM S w) {v t y n : Int} (hv : IR v) (ht : IR t) (hy : IR y) (hn : IR n) : Ev (f_X9_assign_ v t y n w) (RfQ (tq_assign v t y n S) w) := by
  have hc := hW.cnt.2.1
  have z0 : (up w 85 0 0) 85 0 = 0 := up_same _ _ _ _
  have z15 : (up w 85 0 0) 85 15 = tN S.2.2.1 := (up_slot _ _ _ _ (by omega)).trans h.cnt.2.1
  have F0 : ∀ c, c < 85 ∨ 135 ≤ c → (up w 85 0 0) c = w c := fun c hc => up_row _ _ _ (by omega)
  have bad1 : ¬ ((0 ≤ v ∧ v < 26) ∧ (0 ≤ t ∧ t < tN S.2.2.1)) → Ev (f_X9_assign__21 v t y n (up w 85 0 0)) (RfQ (tq_assign v t y n S) w) := by
    intro c
    unfold f_X9_assign__21 f_X9_assign__26 tq_assign
    rw [tq_s1 c, f_fails0 z0 1 (by omega) 1 (Or.inr rfl), if_neg (by decide), ob_some]
    exact Ev.neg (by decide) (Ev.ret (RfQ_no h 1 0 _ (by decide)))
  unfold f_X9_assign_
  rw [x_isVariable hv, ob_some]
  by_cases c1 : 0 ≤ v ∧ v < 26
  · rw [if_pos c1]
    refine Ev.neg (by decide) ?_
    rw [x_isTerm ht z15 hc, ob_some]
    by_cases c2 : 0 ≤ t ∧ t < tN S.2.2.1
    · rw [if_pos c2]
      refine Ev.neg (by decide) ?_
      unfold f_X9_assign__26
      rw [f_fails0 z0 1 (by omega) 0 (Or.inl rfl), if_pos rfl, ob_some]
      refine Ev.pos rfl ?_
      have bad2 : ¬ (isW y ∧ isW n) → Ev (f_X9_assign__49 v t y n (up w 85 0 0)) (RfQ (tq_assign v t y n S) w) := by
        intro c
        unfold f_X9_assign__49 f_X9_assign__54 tq_assign
        rw [tq_s2 ⟨c1, c2⟩ c, f_fails0 z0 2 (by omega) 1 (Or.inr rfl), if_neg (by decide), ob_some]
        exact Ev.neg (by decide) (Ev.ret (RfQ_no h 2 0 _ (by decide)))
      rw [x_isWayR hy, ob_some]
      by_cases c3 : isW y
      · rw [if_pos c3]
        refine Ev.neg (by decide) ?_
        rw [x_isWayR hn, ob_some]
        by_cases c4 : isW n
        · rw [if_pos c4]
          refine Ev.neg (by decide) ?_
          unfold f_X9_assign__54
          rw [f_fails0 z0 2 (by omega) 0 (Or.inl rfl), if_pos rfl, ob_some]
          exact Ev.pos rfl (rf_tail hW (h.z 0) z0 F0 ⟨c1, c2⟩ ⟨c3, c4⟩ (by omega))
        · rw [if_neg c4]
          exact Ev.pos rfl (bad2 (fun q => c4 q.2))
      · rw [if_neg c3]
        exact Ev.pos rfl (bad2 (fun q => c3 q.1))
    · rw [if_neg c2]
      exact Ev.pos rfl (bad1 (fun q => c2 q.2))
  · rw [if_neg c1]
    exact Ev.pos rfl (bad1 (fun q => c1 q.1))
theorem rf_scan {S : St} {w : WS} (hW : WF S) (h : JM S w) {v p t y n : Int} (hv : IR v) (hp : IR p) (ht : IR t) (hy : IR y) (hn : IR n) : Ev (f_X9_scan v p t y n w) (RfQ (tq_scan v p t y n S) w) := by
  have hc := hW.cnt
  have ht' := ht
  unfold IR at ht'
  have z0 : (up w 85 0 0) 85 0 = 0 := up_same _ _ _ _
  have z15 : (up w 85 0 0) 85 15 = tN S.2.2.1 := (up_slot _ _ _ _ (by omega)).trans h.cnt.2.1
  have z11 : (up w 85 0 0) 85 11 = pN S.2.2.1 := (up_slot _ _ _ _ (by omega)).trans h.cnt.1
  have F0 : ∀ c, c < 85 ∨ 135 ≤ c → (up w 85 0 0) c = w c := fun c hc => up_row _ _ _ (by omega)
  have bad1 : ¬ ((0 ≤ v ∧ v < 26) ∧ (0 ≤ p ∧ p < pN S.2.2.1) ∧ (t = -1 ∨ (0 ≤ t ∧ t < tN S.2.2.1))) → Ev (f_X9_scan_34 v p t y n (up w 85 0 0)) (RfQ (tq_scan v p t y n S) w) := by
    intro c
    unfold f_X9_scan_34 f_X9_scan_39 tq_scan
    rw [tq_s1 c, f_fails0 z0 1 (by omega) 1 (Or.inr rfl), if_neg (by decide), ob_some]
    exact Ev.neg (by decide) (Ev.ret (RfQ_no h 1 0 _ (by decide)))
  have good : ((0 ≤ v ∧ v < 26) ∧ (0 ≤ p ∧ p < pN S.2.2.1) ∧ (t = -1 ∨ (0 ≤ t ∧ t < tN S.2.2.1))) → Ev (f_X9_scan_38 v p t y n (up w 85 0 0)) (RfQ (tq_scan v p t y n S) w) := by
    intro o1
    unfold f_X9_scan_38 f_X9_scan_39
    rw [f_fails0 z0 1 (by omega) 0 (Or.inl rfl), if_pos rfl, ob_some]
    refine Ev.pos rfl ?_
    have bad2 : ¬ (isW y ∧ isW n) → Ev (f_X9_scan_63 v p t y n (up w 85 0 0)) (RfQ (tq_scan v p t y n S) w) := by
      intro c
      unfold f_X9_scan_63 f_X9_scan_68 tq_scan
      rw [tq_s2 o1 c, f_fails0 z0 2 (by omega) 1 (Or.inr rfl), if_neg (by decide), ob_some]
      exact Ev.neg (by decide) (Ev.ret (RfQ_no h 2 0 _ (by decide)))
    rw [x_isWayR hy, ob_some]
    by_cases c3 : isW y
    · rw [if_pos c3]
      refine Ev.neg (by decide) ?_
      rw [x_isWayR hn, ob_some]
      by_cases c4 : isW n
      · rw [if_pos c4]
        refine Ev.neg (by decide) ?_
        unfold f_X9_scan_68
        rw [f_fails0 z0 2 (by omega) 0 (Or.inl rfl), if_pos rfl, ob_some]
        exact Ev.pos rfl (rf_tail hW (h.z 0) z0 F0 o1 ⟨c3, c4⟩ (by omega))
      · rw [if_neg c4]
        exact Ev.pos rfl (bad2 (fun q => c4 q.2))
    · rw [if_neg c3]
      exact Ev.pos rfl (bad2 (fun q => c3 q.1))
  unfold f_X9_scan
  rw [x_isVariable hv, ob_some]
  by_cases c1 : 0 ≤ v ∧ v < 26
  · rw [if_pos c1]
    refine Ev.neg (by decide) ?_
    rw [x_isPattern hp z11 hc.1, ob_some]
    by_cases c2 : 0 ≤ p ∧ p < pN S.2.2.1
    · rw [if_pos c2]
      refine Ev.neg (by decide) ?_
      by_cases c3 : t = -1
      · exact Ev.pos (by rw [c3]) (good ⟨c1, c2, Or.inl c3⟩)
      · refine Ev.neg (by first | (simp (disch := omega) only [wr_eq] <;> omega) | omega) ?_
        rw [x_isTerm ht z15 hc.2.1, ob_some]
        by_cases c4 : 0 ≤ t ∧ t < tN S.2.2.1
        · rw [if_pos c4]
          exact Ev.neg (by decide) (good ⟨c1, c2, Or.inr c4⟩)
        · rw [if_neg c4]
          exact Ev.pos rfl (bad1 (fun q => q.2.2.elim c3 c4))
    · rw [if_neg c2]
      exact Ev.pos rfl (bad1 (fun q => c2 q.2.1))
  · rw [if_neg c1]
    exact Ev.pos rfl (bad1 (fun q => c1 q.1))
theorem rf_call {S : St} {w : WS} (hW : WF S) (h : JM S w) {v f t y n : Int} (hv : IR v) (hf : IR f) (ht : IR t) (hy : IR y) (hn : IR n) : Ev (f_X9_call v f t y n w) (RfQ (tq_call v f t y n S) w) := by
  have hc := hW.cnt
  have hf' := hf
  unfold IR at hf'
  have z0 : (up w 85 0 0) 85 0 = 0 := up_same _ _ _ _
  have z15 : (up w 85 0 0) 85 15 = tN S.2.2.1 := (up_slot _ _ _ _ (by omega)).trans h.cnt.2.1
  have F0 : ∀ c, c < 85 ∨ 135 ≤ c → (up w 85 0 0) c = w c := fun c hc => up_row _ _ _ (by omega)
  have bad1 : ¬ ((0 ≤ v ∧ v < 26) ∧ (0 ≤ t ∧ t < tN S.2.2.1)) → Ev (f_X9_call_21 v f t y n (up w 85 0 0)) (RfQ (tq_call v f t y n S) w) := by
    intro c
    unfold f_X9_call_21 f_X9_call_26 tq_call
    rw [tq_s1 c, f_fails0 z0 1 (by omega) 1 (Or.inr rfl), if_neg (by decide), ob_some]
    exact Ev.neg (by decide) (Ev.ret (RfQ_no h 1 0 _ (by decide)))
  unfold f_X9_call
  rw [x_isVariable hv, ob_some]
  by_cases c1 : 0 ≤ v ∧ v < 26
  · rw [if_pos c1]
    refine Ev.neg (by decide) ?_
    rw [x_isTerm ht z15 hc.2.1, ob_some]
    by_cases c2 : 0 ≤ t ∧ t < tN S.2.2.1
    · rw [if_pos c2]
      refine Ev.neg (by decide) ?_
      unfold f_X9_call_26
      rw [f_fails0 z0 1 (by omega) 0 (Or.inl rfl), if_pos rfl, ob_some]
      refine Ev.pos rfl ?_
      have bad2 : ¬ ((0 ≤ f ∧ f < 5) ∧ isW y ∧ isW n) → Ev (f_X9_call_62 v f t y n (up w 85 0 0)) (RfQ (tq_call v f t y n S) w) := by
        intro c
        unfold f_X9_call_62 f_X9_call_67 tq_call
        rw [tq_s2 ⟨c1, c2⟩ c, f_fails0 z0 2 (by omega) 1 (Or.inr rfl), if_neg (by decide), ob_some]
        exact Ev.neg (by decide) (Ev.ret (RfQ_no h 2 0 _ (by decide)))
      rw [wr_eq (a := f) (by omega), f_in (by omega) (by omega) (by omega), ob_some]
      by_cases c5 : 0 ≤ f ∧ f < 5
      · rw [if_pos (show 0 ≤ f ∧ f ≤ 4 by omega)]
        refine Ev.neg (by decide) ?_
        rw [x_isWayR hy, ob_some]
        by_cases c3 : isW y
        · rw [if_pos c3]
          refine Ev.neg (by decide) ?_
          rw [x_isWayR hn, ob_some]
          by_cases c4 : isW n
          · rw [if_pos c4]
            refine Ev.neg (by decide) ?_
            unfold f_X9_call_67
            rw [f_fails0 z0 2 (by omega) 0 (Or.inl rfl), if_pos rfl, ob_some]
            exact Ev.pos rfl (rf_tail hW (h.z 0) z0 F0 ⟨c1, c2⟩ ⟨c5, c3, c4⟩ (by omega))
          · rw [if_neg c4]
            exact Ev.pos rfl (bad2 (fun q => c4 q.2.2))
        · rw [if_neg c3]
          exact Ev.pos rfl (bad2 (fun q => c3 q.2.1))
      · rw [if_neg (show ¬ (0 ≤ f ∧ f ≤ 4) by omega)]
        exact Ev.pos rfl (bad2 (fun q => c5 q.1))
    · rw [if_neg c2]
      exact Ev.pos rfl (bad1 (fun q => c2 q.2))
  · rw [if_neg c1]
    exact Ev.pos rfl (bad1 (fun q => c1 q.1))
