/-! the reference: variables, typed -/
theorem x_isVariable {a : Int} (ha : IR a) (w : WS) : f_X9_isVariable a w = some (if 0 ≤ a ∧ a < 26 then 1 else 0, w) := by
  unfold IR at ha
  unfold f_X9_isVariable
  rw [wr_eq (a := a) (by omega), f_in (by omega) (by omega) (by omega), ob_some]
  by_cases c : 0 ≤ a ∧ a < 26
  · rw [if_pos (show 0 ≤ a ∧ a ≤ 25 by omega), if_pos c]; exact if_pos (Or.inr rfl)
  · rw [if_neg (show ¬ (0 ≤ a ∧ a ≤ 25) by omega), if_neg c]; exact if_pos (Or.inl rfl)
theorem rf_set {S : St} {w : WS} (hW : WF S) (h : JM S w) {a : Int} (ha : IR a) : Ev (f_X9_set a w) (RfQ (tq_set a S) w) := by
  have hl := hW.1.2
  have z0 : (up w 85 0 0) 85 0 = 0 := up_same _ _ _ _
  have z2 : (up w 85 0 0) 85 2 = S.1.length := (up_slot _ _ _ _ (by omega)).trans h.1.1
  have lV := h.lnV a.toNat
  unfold f_X9_set tq_set
  rw [x_isVariable ha, ob_some]
  by_cases c : 0 ≤ a ∧ a < 26
  · rw [if_pos c, if_pos c]
    refine Ev.neg (by decide) ?_
    unfold f_X9_set_18
    rw [f_fails0 z0 1 (by omega) 0 (Or.inl rfl), if_pos rfl, ob_some]
    refine Ev.pos rfl ?_
    obtain ⟨n, hn⟩ : ∃ n : Nat, a = n := ⟨a.toNat, by omega⟩
    subst hn
    rw [Int.toNat_natCast] at lV ⊢
    rw [ixn (k := n) (by omega), Int.toNat_natCast]
    have F0 : FX [85] [0] w (up w 85 0 0) := FX.rf.put 0 _ (by simp) (by simp)
    have J0 := h.z 0
    have z90 : (up w 85 0 0) 90 n = (S.2.2.2.1 n).length := (congrFun (F0.1 90 (by simp)) n).trans lV.1
    rw [z90]
    refine Ev.pos (by first | (simp (disch := omega) only [wr_eq] <;> omega) | omega) ?_
    have r0 : rM (up w 85 0 0) 89 90 60 = S.2.2.2.1 := J0.2.2.2.1.1
    have hT0 : sg ((up w 85 0 0) 86) 0 S.1.length = S.1 := J0.1.2
    generalize up w 85 0 0 = w0 at F0 J0 z0 z2 r0 hT0 z90 ⊢
    have key := rM_ww (w := w0) (s := 89) (z := 90) (st := 60) (n := 26) (a := n) (c := S.1.length) (g := fun k => w0 86 (0 + k)) (zc := (S.1.length : Int)) (by omega) J0.2.2.2.1.2 (by omega) (by omega) rfl
    rw [show (List.range S.1.length).map (fun k => w0 86 (0 + k)) = S.1 from hT0, r0] at key
    have hl2 : f_X9_set_36 FU n ((S.2.2.2.1 n).length : Nat) 0 w0 = some (((S.2.2.2.1 n).length : Int), up (ww (up w0 90 n (S.1.length : Int)) 89 (n * 60) (fun k => w0 86 (0 + k)) S.1.length) 85 2 0) := by
      refine ww_loop (L := fun m k w => f_X9_set_36 m n ((S.2.2.2.1 n).length : Nat) k w) (w0 := w0) (c := 89) (o := n * 60) (g := fun k => w0 86 (0 + k)) (n := S.1.length) (fun m k hk => ?_) (fun m => ?_) FU (by unfold FU; omega)
      · show f_X9_set_36 (m + 1) n _ k _ = _
        rw [f_X9_set_36_s, ww_c _ _ _ _ (by omega : (85 : Nat) ≠ 89), ww_c _ _ _ _ (by omega : (86 : Nat) ≠ 89), z2]
        simp (disch := omega) only [ixn, ix60, Int.toNat_natCast]
        rw [Nat.zero_add]
        exact (if_pos (by first | (simp (disch := omega) only [wr_eq] <;> omega) | omega)).trans ((if_pos (by first | (simp (disch := omega) only [wr_eq] <;> omega) | omega)).trans ((if_pos (by first | (simp (disch := omega) only [wr_eq] <;> omega) | omega)).trans rfl))
      · show f_X9_set_36 (m + 1) n _ ((S.1.length : Nat) : Int) _ = _
        have y85 : (ww w0 89 (n * 60) (fun k => w0 86 (0 + k)) S.1.length) 85 = w0 85 := ww_c _ _ _ _ (by omega)
        rw [f_X9_set_36_s, y85, z2, ixn (k := n) (by omega), Int.toNat_natCast, ww_up _ _ _ _ _ _ (by omega : (90 : Nat) ≠ 89)]
        exact (if_neg (Int.lt_irrefl _)).trans (if_pos (by first | (simp (disch := omega) only [wr_eq] <;> omega) | omega))
    rw [hl2]
    obtain ⟨k1, k2, k3⟩ := key
    generalize ww (up w0 90 n (S.1.length : Int)) 89 (n * 60) (fun k => w0 86 (0 + k)) S.1.length = w1 at k1 k2 k3
    have J1 : JM (S.1, S.2.1, S.2.2.1, vs S.2.2.2.1 n S.1, S.2.2.2.2) w1 := by
      obtain ⟨⟨a1, a2⟩, a3, a4, a5, ⟨b1, b2, b3⟩, a7, a8⟩ := J0
      have e : ∀ c, c ≠ 89 → c ≠ 90 → w1 c = w0 c := fun c h1 h2 => k3 c (by simp; omega)
      have e85 := e 85 (by omega) (by omega)
      have F : FX [89, 90] [] w0 w1 := FX.of k3 (by simp) (by simp)
      refine ⟨⟨by rw [e85]; exact a1, by rw [e 86 (by omega) (by omega)]; exact a2⟩, by rw [e85]; exact a3, by rw [pvR.fr F (by decide) (by simp)]; exact a4, ⟨k1, k2⟩, ⟨RM_fr (e 88 (by omega) (by omega)) b1, RM_fr (e 99 (by omega) (by omega)) b2, RM_fr (e 130 (by omega) (by omega)) b3⟩, ?_, ?_⟩
      · rw [e85, e 125 (by omega) (by omega), e 126 (by omega) (by omega)]
        exact a7
      · rw [e85]
        exact a8
    have F2 : FX [85, 86] [0, 2] w1 (up w1 85 2 0) := FX.rf.put 2 _ (by simp) (by simp)
    refine Ev.ret ⟨?_, fun _ => rfl, J1.typed F2 (up_same _ _ _ _) rfl, fun c hc => ?_⟩
    · rw [up_slot _ _ _ _ (by omega), k3 85 (by simp)]; exact z0
    · rw [F2.1 c (by simp; omega), k3 c (by simp; omega), F0.1 c (by simp; omega)]
  · rw [if_neg c, if_neg c]
    refine Ev.pos rfl ?_
    unfold f_X9_set_18
    rw [f_fails0 z0 1 (by omega) 1 (Or.inr rfl), if_neg (by decide), ob_some]
    exact Ev.neg (by decide) (Ev.ret (RfQ_no h 1 0 _ (by decide)))
/-- a call that says something and changes nothing -/
theorem RfQ_ok {w : WS} {S : St} (hJ : JM S w) (r : Int) : RfQ (0, r, S) w r (up w 85 0 0) := ⟨up_same _ _ _ _, fun _ => rfl, hJ.z 0, fun c hc => up_row _ _ _ (by omega)⟩
theorem rf_size {S : St} {w : WS} (h : JM S w) {a : Int} (ha : IR a) : Ev (f_X9_size a w) (RfQ (tq_size a S) w) := by
  have z0 : (up w 85 0 0) 85 0 = 0 := up_same _ _ _ _
  have lV := h.lnV a.toNat
  unfold f_X9_size tq_size f_X9_size_18
  rw [x_isVariable ha, ob_some]
  by_cases c : 0 ≤ a ∧ a < 26
  · rw [if_pos c, if_pos c]
    refine Ev.neg (by decide) ?_
    rw [f_fails0 z0 1 (by omega) 0 (Or.inl rfl), if_pos rfl, ob_some]
    refine Ev.pos rfl ?_
    rw [wr_eq (a := a) (by omega)]
    refine Ev.pos (by omega) ?_
    rw [show (up w 85 0 0) 90 a.toNat = ((S.2.2.2.1 a.toNat).length : Int) from (congrFun (up_row _ _ _ (by omega)) _).trans lV.1]
    exact Ev.ret (RfQ_ok h _)
  · rw [if_neg c, if_neg c]
    refine Ev.pos rfl ?_
    rw [f_fails0 z0 1 (by omega) 1 (Or.inr rfl), if_neg (by decide), ob_some]
    exact Ev.neg (by decide) (Ev.ret (RfQ_no h 1 0 _ (by decide)))
theorem rf_at {S : St} {w : WS} (h : JM S w) {a b : Int} (ha : IR a) (hb : IR b) : Ev (f_X9_at a b w) (RfQ (tq_at a b S) w) := by
  have hb' := hb
  unfold IR at hb'
  have z0 : (up w 85 0 0) 85 0 = 0 := up_same _ _ _ _
  have lV := h.lnV a.toNat
  unfold f_X9_at tq_at f_X9_at_18
  rw [x_isVariable ha, ob_some]
  by_cases c : 0 ≤ a ∧ a < 26
  · rw [if_pos c, if_pos c]
    refine Ev.neg (by decide) ?_
    rw [f_fails0 z0 1 (by omega) 0 (Or.inl rfl), if_pos rfl, ob_some]
    refine Ev.pos rfl ?_
    rw [wr_eq (a := a) (by omega), wr_eq (a := b) hb', show (up w 85 0 0) 90 a.toNat = ((S.2.2.2.1 a.toNat).length : Int) from (congrFun (up_row _ _ _ (by omega)) _).trans lV.1]
    refine Ev.pos (by omega) ?_
    rw [wr_eq (a := ((S.2.2.2.1 a.toNat).length : Int) - 1) (by omega), f_in (by omega) (by omega) (by omega), ob_some]
    unfold f_X9_at_49
    by_cases c2 : 0 ≤ b ∧ b < ((S.2.2.2.1 a.toNat).length : Int)
    · rw [if_pos (show 0 ≤ b ∧ b ≤ ((S.2.2.2.1 a.toNat).length : Int) - 1 by omega), if_pos c2]
      refine Ev.neg (by decide) ?_
      rw [f_fails0 z0 2 (by omega) 0 (Or.inl rfl), if_pos rfl, ob_some]
      refine Ev.pos rfl ?_
      obtain ⟨n, rfl⟩ : ∃ n : Nat, a = n := ⟨a.toNat, by omega⟩
      obtain ⟨k, rfl⟩ : ∃ n : Nat, b = n := ⟨b.toNat, by omega⟩
      rw [Int.toNat_natCast] at lV c2 ⊢
      rw [ix60 (by omega), Int.toNat_natCast]
      refine Ev.pos (by first | (simp (disch := omega) only [wr_eq] <;> omega) | omega) ?_
      have e : (up w 85 0 0) 89 (n * 60 + k) = gt (S.2.2.2.1 n) k := by
        rw [up_row _ _ _ (by omega)]
        have r := congrFun h.2.2.2.1.1 n
        have e1 : (w 90 n).toNat = (S.2.2.2.1 n).length := by rw [lV.1]; exact Int.toNat_natCast _
        unfold rM at r
        rw [← r, gt_sg ⟨by omega, by rw [e1]; omega⟩, Int.toNat_natCast]
      rw [e]
      exact Ev.ret (RfQ_ok h _)
    · rw [if_neg (show ¬ (0 ≤ b ∧ b ≤ ((S.2.2.2.1 a.toNat).length : Int) - 1) by omega), if_neg c2]
      refine Ev.pos rfl ?_
      rw [f_fails0 z0 2 (by omega) 1 (Or.inr rfl), if_neg (by decide), ob_some]
      exact Ev.neg (by decide) (Ev.ret (RfQ_no h 2 0 _ (by decide)))
  · rw [if_neg c, if_neg c]
    refine Ev.pos rfl ?_
    rw [f_fails0 z0 1 (by omega) 1 (Or.inr rfl), if_neg (by decide), ob_some]
    exact Ev.neg (by decide) (Ev.ret (RfQ_no h 1 0 _ (by decide)))
theorem rf_typed {S : St} {w : WS} (hW : WF S) (h : JM S w) {a : Int} (ha : IR a) : Ev (f_X9_typed a w) (RfQ (tq_typed a S) w) := by
  unfold IR at ha
  have hl := hW.1.2
  have z0 : (up w 85 0 0) 85 0 = 0 := up_same _ _ _ _
  have z2 : (up w 85 0 0) 85 2 = S.1.length := (up_slot _ _ _ _ (by omega)).trans h.1.1
  unfold f_X9_typed tq_typed f_X9_typed_27
  rw [z2, wr_eq (a := a) (by omega), wr_eq (a := (S.1.length : Int) - 1) (by omega), f_in (by omega) (by omega) (by omega), ob_some]
  by_cases c : 0 ≤ a ∧ a < (S.1.length : Int)
  · rw [if_pos (show 0 ≤ a ∧ a ≤ (S.1.length : Int) - 1 by omega), if_pos c]
    refine Ev.neg (by decide) ?_
    rw [f_fails0 z0 1 (by omega) 0 (Or.inl rfl), if_pos rfl, ob_some]
    refine Ev.pos rfl ?_
    refine Ev.pos (by first | (simp (disch := omega) only [wr_eq] <;> omega) | omega) ?_
    have e : (up w 85 0 0) 86 a.toNat = gt S.1 a := by
      rw [up_row _ _ _ (by omega), ← h.1.2, h.1.2]
      have g := gt_sg (a := w 86) (o := 0) (n := S.1.length) (y := a) (by omega)
      rw [h.1.2, Nat.zero_add] at g
      exact g.symm
    rw [e]
    exact Ev.ret (RfQ_ok h _)
  · rw [if_neg (show ¬ (0 ≤ a ∧ a ≤ (S.1.length : Int) - 1) by omega), if_neg c]
    refine Ev.pos rfl ?_
    rw [f_fails0 z0 1 (by omega) 1 (Or.inr rfl), if_neg (by decide), ob_some]
    exact Ev.neg (by decide) (Ev.ret (RfQ_no h 1 0 _ (by decide)))
