/-! typed signs -/
def IR (a : Int) : Prop := -2147483648 ≤ a ∧ a < 2147483648
abbrev isSg (a : Int) : Prop := (32 ≤ a ∧ a ≤ 126) ∨ (128512 ≤ a ∧ a ≤ 128591)
theorem f_isSign {a : Int} (ha : IR a) (w : WS) : f_X8_isSign a w = some (if isSg a then 1 else 0, w) := by
  unfold IR at ha
  refine Ev.toEq ?_
  unfold f_X8_isSign f_X8_isSign_12 isSg
  have hi : ∀ {c : Prop} {d : Decidable c} (h : c), (@ite Int c d 1 0) = 1 := fun h => if_pos h
  have lo : ∀ {c : Prop} {d : Decidable c} (h : ¬ c), (@ite Int c d 1 0) = 0 := fun h => if_neg h
  rw [wr_eq (a := a) (by omega), wr_eq (a := 32) (by omega), wr_eq (a := 126) (by omega), wr_eq (a := 128512) (by omega), wr_eq (a := 128591) (by omega)]
  have two : ¬ (32 ≤ a ∧ a ≤ 126) → Ev (if a < 128512 then some ((0 : Int), w) else if 128591 < a then some (0, w) else some (1, w)) (fun v1 w1 => v1 = (if (32 ≤ a ∧ a ≤ 126) ∨ (128512 ≤ a ∧ a ≤ 128591) then 1 else 0) ∧ w1 = w) := by
    intro n
    refine Ev.ite (fun c => Ev.ret ⟨(lo (by omega)).symm, rfl⟩) (fun c => Ev.ite (fun c2 => Ev.ret ⟨(lo (by omega)).symm, rfl⟩) (fun c2 => Ev.ret ⟨(hi (by omega)).symm, rfl⟩))
  refine Ev.ite (fun c => two (by omega)) (fun c => Ev.ite (fun c2 => two (by omega)) (fun c2 => Ev.ret ⟨(hi (by omega)).symm, rfl⟩))
theorem ClQ_no {w : WS} {S : St} (hJ : JC S w) (k r : Int) (hk : k ≠ 0) : ClQ (k, r, S) w k w := ⟨rfl, fun e => absurd e hk, hJ, fun _ _ _ => rfl⟩
theorem JC.typed {S : St} {w w' : WS} (h : JC S w) (F : Fr [2, 3] w w') (o : RO w' 1 60 1) {T : List Int} (hT : rC w' 1 60 0 = T) : JC (T, S.2) w' := by
  obtain ⟨⟨a1, a2⟩, a3, a4, a5, ⟨b1, b2, b3, b4, b5, b6⟩, a7⟩ := h
  have e : ∀ c, c ≠ 2 → c ≠ 3 → w' c = w c := fun c h1 h2 => F c (by simp; omega)
  have e0 := e 0 (by omega) (by omega)
  refine ⟨⟨hT, o⟩, by rw [e0]; exact a3, by rw [e0, pvC.fr F (by decide)]; exact a4, a5.fr (e 8 (by omega) (by omega)) (e 9 (by omega) (by omega)), ⟨RO_fr (e 6 (by omega) (by omega)) b1, RO_fr (e 12 (by omega) (by omega)) b2, RO_fr (e 15 (by omega) (by omega)) b3, RO_fr (e 18 (by omega) (by omega)) b4, RO_fr (e 21 (by omega) (by omega)) b5, RO_fr (e 24 (by omega) (by omega)) b6⟩, ?_⟩
  unfold cSt
  rw [e 76 (by omega) (by omega), e0, e 80 (by omega) (by omega), e 82 (by omega) (by omega)]
  exact a7
theorem JM.typed {S : St} {w w' : WS} (h : JM S w) (F : FX [85, 86] [0, 2] w w') {T : List Int} (h2 : w' 85 2 = T.length) (hT : sg (w' 86) 0 T.length = T) : JM (T, S.2) w' := by
  obtain ⟨⟨a1, a2⟩, a3, a4, a5, ⟨b1, b2, b3⟩, a7, a8⟩ := h
  have e : ∀ c, c ≠ 85 → c ≠ 86 → w' c = w c := fun c h1 h2 => F.1 c (by simp; omega)
  have s : ∀ k, k ≠ 0 → k ≠ 2 → w' 85 k = w 85 k := fun k h1 h2 => F.2 k (by simp; omega)
  refine ⟨⟨h2, hT⟩, by rw [s 5 (by omega) (by omega)]; exact a3, by rw [pvR.fr F (by decide) (by simp)]; exact a4, a5.fr (e 89 (by omega) (by omega)) (e 90 (by omega) (by omega)), ⟨RM_fr (e 88 (by omega) (by omega)) b1, RM_fr (e 99 (by omega) (by omega)) b2, RM_fr (e 130 (by omega) (by omega)) b3⟩, ?_, ?_⟩
  · rw [s 59 (by omega) (by omega), s 61 (by omega) (by omega), s 62 (by omega) (by omega), s 60 (by omega) (by omega), s 63 (by omega) (by omega), e 125 (by omega) (by omega), e 126 (by omega) (by omega)]
    exact a7
  · rw [s 72 (by omega) (by omega), s 73 (by omega) (by omega), s 74 (by omega) (by omega), s 75 (by omega) (by omega), s 76 (by omega) (by omega)]
    exact a8
def tq_type (a : Int) (S : St) : TQ := if ¬ isSg a then (1, 0, S) else if S.1.length < 60 then (0, (S.1.length : Int) + 1, (S.1 ++ [a], S.2)) else (2, 0, S)
theorem tq_type_WF {a : Int} {S : St} (h : WF S) : WF (tq_type a S).2.2 := by
  unfold tq_type
  by_cases c : ¬ isSg a
  · rw [if_pos c]; exact h
  rw [if_neg c]
  by_cases c2 : S.1.length < 60
  · rw [if_pos c2]
    refine ⟨⟨?_, ?_⟩, h.2⟩
    · intro x hx
      rcases List.mem_append.mp hx with hx | hx
      · exact h.1.1 x hx
      · rw [List.mem_singleton.mp hx]
        have c : isSg a := Decidable.not_not.mp c
        unfold isSg at c
        omega
    · rw [List.length_append, List.length_singleton]; omega
  · rw [if_neg c2]; exact h
theorem cl_type {S : St} {w : WS} (hW : WF S) (h : JC S w) {a : Int} (ha : IR a) : Ev (f_L_type a w) (ClQ (tq_type a S) w) := by
  have hl := ln (z := 3) (w := w) rfl h.1.2 0
  rw [h.1.1] at hl
  unfold f_L_type
  refine Ev.ocX ?_
  unfold f_X8_type tq_type
  refine Ex.obe (f_isSign ha w) ?_
  by_cases c : isSg a
  · rw [if_pos c, if_neg (not_not_intro c)]
    refine Ex.neg (by decide) ?_
    refine Ex.obe (f_length RI_1 (a := 0) (by omega)) ?_
    rw [show w (1 + 2) (0 : Int).toNat = (S.1.length : Int) from hl.1.symm]
    by_cases c2 : S.1.length < 60
    · rw [if_pos c2]
      refine Ex.pos (by first | (simp (disch := omega) only [wr_eq] <;> omega) | omega) ?_
      refine Ex.bd (f_add RI_1 h.1.2 (a := 0) (s := a) (by omega) (by rw [show w (1 + 2) (0 : Int).toNat = (S.1.length : Int) from hl.1.symm]; omega)) ?_
      rintro v w1 ⟨-, q1, q2, q3⟩
      have q1 : Fr [2, 3] w w1 := q1
      have e1 : rC w1 1 60 0 = S.1 ++ [a] := by rw [q3]; exact (vs_same _ _ _).trans (by rw [Int.toNat_zero, h.1.1])
      have hl1 := ln (z := 3) (w := w1) rfl q2 0
      rw [e1, List.length_append, List.length_singleton] at hl1
      refine Ex.obe (f_length RI_1 (a := 0) (by omega)) ?_
      rw [show w1 (1 + 2) (0 : Int).toNat = (S.1.length : Int) + 1 from by have := hl1.1; show w1 3 0 = _; omega]
      refine Ex.ret (Ev.pos rfl ?_)
      exact ClQ_put (q := (0, (S.1.length : Int) + 1, (S.1 ++ [a], S.2))) rfl (h.typed q1 q2 e1) (fun c hc => q1 c (by simp; omega))
    · rw [if_neg c2]
      refine Ex.neg (by first | (simp (disch := omega) only [wr_eq] <;> omega) | omega) (Ex.ret ?_)
      exact Ev.neg (by decide) (Ev.neg (by decide) (Ev.pos rfl (Ev.ret (ClQ_no h 2 0 (by decide)))))
  · rw [if_neg c, if_pos c]
    refine Ex.pos rfl (Ex.ret ?_)
    exact Ev.neg (by decide) (Ev.pos rfl (Ev.ret (ClQ_no h 1 0 (by decide))))
theorem rf_type {S : St} {w : WS} (hW : WF S) (h : JM S w) {a : Int} (ha : IR a) : Ev (f_X9_type a w) (RfQ (tq_type a S) w) := by
  have ha' := ha
  unfold IR at ha
  have h2 := h.1.1
  have hl := hW.1.2
  have z0 : (up w 85 0 0) 85 0 = 0 := up_same _ _ _ _
  have z2 : (up w 85 0 0) 85 2 = S.1.length := (up_slot _ _ _ _ (by omega)).trans h2
  unfold f_X9_type
  rw [f_in (by rw [wr_eq (by omega)]; omega) (by omega) (by omega), wr_eq (a := a) (by omega), ob_some]
  have yes : isSg a → Ev (f_X9_type_38 a (up w 85 0 0)) (RfQ (tq_type a S) w) := by
    intro c
    unfold f_X9_type_38 f_X9_type_39 tq_type
    rw [if_neg (not_not_intro c), f_fails0 z0 1 (by omega) 0 (Or.inl rfl), if_pos rfl, ob_some]
    refine Ev.pos rfl ?_
    rw [z2]
    unfold f_X9_type_61
    by_cases c2 : S.1.length < 60
    · rw [if_pos c2]
      refine Ev.neg (by first | (simp (disch := omega) only [wr_eq] <;> omega) | omega) ?_
      rw [f_fails0 z0 2 (by omega) 0 (Or.inl rfl), if_pos rfl, ob_some, z2, ixn (by omega), Int.toNat_natCast]
      refine Ev.pos rfl ?_
      refine Ev.pos (by first | (simp (disch := omega) only [wr_eq] <;> omega) | omega) ?_
      rw [up_same, show (up (up w 85 0 0) 86 S.1.length a) 85 2 = S.1.length from (congrFun (up_row _ _ _ (by omega)) 2).trans z2]
      have F : FX [85, 86] [0, 2] w (up (up (up w 85 0 0) 86 S.1.length a) 85 2 ((S.1.length : Int) + 1)) := ((FX.rf.put 0 _ (by simp) (by simp)).oth 86 _ _ (by simp) (by omega)).put 2 _ (by simp) (by simp)
      refine Ev.ret ⟨?_, fun _ => rfl, h.typed F ?_ ?_, fun c hc => F.1 c (by simp; omega)⟩
      · rw [up_slot _ _ _ _ (by omega), up_row _ _ _ (by omega)]; exact z0
      · rw [up_same, List.length_append, List.length_singleton]; rfl
      · rw [up_row _ _ _ (by omega), List.length_append, List.length_singleton]
        exact sg_push (up w 85 0 0) 86 (by rw [up_row _ _ _ (by omega)]; exact h.1.2) a
    · rw [if_neg c2]
      refine Ev.pos (by first | (simp (disch := omega) only [wr_eq] <;> omega) | omega) ?_
      rw [f_fails0 z0 2 (by omega) 1 (Or.inr rfl), if_neg (by decide), ob_some]
      refine Ev.neg (by decide) (Ev.ret (RfQ_no h 2 0 _ (by decide)))
  by_cases c1 : 32 ≤ a ∧ a ≤ 126
  · rw [if_pos c1]
    exact Ev.neg (by decide) (yes (Or.inl c1))
  · rw [if_neg c1]
    refine Ev.pos rfl ?_
    rw [f_in (by omega) (by omega) (by omega), ob_some]
    by_cases c2 : 128512 ≤ a ∧ a ≤ 128591
    · rw [if_pos c2]
      exact Ev.neg (by decide) (yes (Or.inr c2))
    · rw [if_neg c2]
      refine Ev.pos rfl ?_
      have c : ¬ isSg a := by unfold isSg; omega
      unfold f_X9_type_39 tq_type
      rw [if_pos c, f_fails0 z0 1 (by omega) 1 (Or.inr rfl), if_neg (by decide), ob_some]
      exact Ev.neg (by decide) (Ev.ret (RfQ_no h 1 0 _ (by decide)))
