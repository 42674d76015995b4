theorem m_one {w : WS} {k : Nat} {A B : List Int} (h : CK2 w k A B) : Ev (f_X9_workOne k w) (P2 w k (ev1 (w 94 k) (w 95 k) (rM w 87 88 20) (rM w 89 90 60) A B)) := by
  obtain ⟨ho0, hT, hV, hk, ht, hA, hB, sA, sB⟩ := h
  obtain ⟨z1, ho⟩ := rM_zero ho0 hk
  unfold f_X9_workOne
  rw [wr_eq (a := (k : Int)) (by omega), Int.toNat_natCast]
  refine Ev.pos (by first | (simp (disch := omega) only [wr_eq] <;> omega) | omega) ?_; refine Ev.pos (by first | (simp (disch := omega) only [wr_eq] <;> omega) | omega) ?_; refine Ev.pos (by first | (simp (disch := omega) only [wr_eq] <;> omega) | omega) ?_; refine Ev.pos (by first | (simp (disch := omega) only [wr_eq] <;> omega) | omega) ?_
  have F1 : Fr [98, 99] w (up w 99 k 0) := Fr.rf.up (by simp)
  have z2 : ∀ r, r ≠ k → rM (up w 99 k 0) 98 99 60 r = rM w 98 99 60 r := fun r hr => by rw [z1, vs_ne _ _ hr]
  have z3 : rM (up w 99 k 0) 98 99 60 k = [] := by rw [z1, vs_same]
  have z4 : ∀ r, r ≠ k → (up w 99 k 0) 99 r = w 99 r := fun r hr => by rw [up_slot _ _ _ _ hr]
  have z5 : (up w 99 k 0) 88 = w 88 := up_row _ _ _ (by omega)
  have eT : rM (up w 99 k 0) 87 88 20 = rM w 87 88 20 := rM_fr (F1 87 (by simp)) (F1 88 (by simp))
  have eV : rM (up w 99 k 0) 89 90 60 = rM w 89 90 60 := rM_fr (F1 89 (by simp)) (F1 90 (by simp))
  have hT1 : RM (up w 99 k 0) 88 20 30 := RM_fr (F1 88 (by simp)) hT
  have hV1 : RM (up w 99 k 0) 90 60 26 := RM_fr (F1 90 (by simp)) hV
  refine Ev.mono (A := P2 (up w 99 k 0) k (ev1 (w 94 k) (w 95 k) (rM w 87 88 20) (rM w 89 90 60) A B)) ?_ (fun v w2 h => P2.pre F1 z2 h)
  rw [← eT, ← eV]
  generalize hw1 : up w 99 k 0 = w1 at ho z2 z3 z4 z5 eT eV hT1 hV1 F1 ⊢
  unfold TK1 at ht
  have lA : ∀ x : Int, 0 ≤ x ∧ x < k → ((rM w1 98 99 60 x.toNat).length : Int) = w1 99 x.toNat ∧ 0 ≤ w1 99 x.toNat ∧ w1 99 x.toNat ≤ 60 := fun x _ => lnM ho x.toNat
  rcases ht with ⟨e, hx⟩ | ⟨e, hx⟩ | ⟨e | e | e, hx⟩ | ⟨e, hx⟩
  · rw [e]
    refine Ev.neg (by first | (simp (disch := omega) only [wr_eq] <;> omega) | omega) ?_; refine Ev.neg (by first | (simp (disch := omega) only [wr_eq] <;> omega) | omega) ?_; refine Ev.neg (by first | (simp (disch := omega) only [wr_eq] <;> omega) | omega) ?_; refine Ev.neg (by first | (simp (disch := omega) only [wr_eq] <;> omega) | omega) ?_; refine Ev.neg (by first | (simp (disch := omega) only [wr_eq] <;> omega) | omega) ?_; refine Ev.pos (by first | (simp (disch := omega) only [wr_eq] <;> omega) | omega) ?_
    obtain ⟨a, ha⟩ : ∃ a : Nat, w 95 k = a := ⟨(w 95 k).toNat, by omega⟩
    rw [ha, wr_eq (a := (a : Int)) (by omega), Int.toNat_natCast]
    refine Ev.pos (by first | (simp (disch := omega) only [wr_eq] <;> omega) | omega) ?_; refine Ev.pos (by first | (simp (disch := omega) only [wr_eq] <;> omega) | omega) ?_
    exact m_copyT ho hT1 hk (by omega)
  · rw [e]
    refine Ev.neg (by first | (simp (disch := omega) only [wr_eq] <;> omega) | omega) ?_; refine Ev.neg (by first | (simp (disch := omega) only [wr_eq] <;> omega) | omega) ?_; refine Ev.neg (by first | (simp (disch := omega) only [wr_eq] <;> omega) | omega) ?_; refine Ev.neg (by first | (simp (disch := omega) only [wr_eq] <;> omega) | omega) ?_; refine Ev.neg (by first | (simp (disch := omega) only [wr_eq] <;> omega) | omega) ?_; refine Ev.neg (by first | (simp (disch := omega) only [wr_eq] <;> omega) | omega) ?_; refine Ev.pos (by first | (simp (disch := omega) only [wr_eq] <;> omega) | omega) ?_
    refine Ev.bd (m_takeVariable ho hV1 (v := w 95 k) hk (by omega)) ?_
    intro v w2 h
    have h0 := h.1
    exact Ev.ret ⟨rfl, h.2⟩
  · have hA := hA (by omega) (by omega)
    rw [← z2 _ (by omega)] at hA
    have lA := lA (w 95 k) hx
    rw [hA] at lA
    rw [e]
    refine Ev.neg (by first | (simp (disch := omega) only [wr_eq] <;> omega) | omega) ?_; refine Ev.neg (by first | (simp (disch := omega) only [wr_eq] <;> omega) | omega) ?_; refine Ev.neg (by first | (simp (disch := omega) only [wr_eq] <;> omega) | omega) ?_; refine Ev.neg (by first | (simp (disch := omega) only [wr_eq] <;> omega) | omega) ?_; refine Ev.neg (by first | (simp (disch := omega) only [wr_eq] <;> omega) | omega) ?_; refine Ev.neg (by first | (simp (disch := omega) only [wr_eq] <;> omega) | omega) ?_; refine Ev.neg (by first | (simp (disch := omega) only [wr_eq] <;> omega) | omega) ?_; refine Ev.pos (by first | (simp (disch := omega) only [wr_eq] <;> omega) | omega) ?_
    obtain ⟨a, ha⟩ : ∃ a : Nat, w 95 k = a := ⟨(w 95 k).toNat, by omega⟩
    rw [ha, Int.toNat_natCast] at hA lA
    rw [ha]
    have hgx : ∀ y : Int, 0 ≤ y ∧ y < w1 99 a → gt (rM w1 98 99 60 a) y = w1 98 (a * 60 + y.toNat) := fun y hy => gt_rM (s := 98) (r := a) ho hy
    have ee : ∀ x : Int, ev1 119 x (rM w1 87 88 20) (rM w1 89 90 60) A B = (if A.length = 1 ∧ 97 ≤ gt A 0 ∧ gt A 0 ≤ 122 then (0, (rM w1 89 90 60) (gt A 0 - 97).toNat) else (8, [])) := fun x => by simp [ev1]
    rw [ee, wr_eq (a := (a : Int)) (by omega), Int.toNat_natCast]
    refine Ev.pos (by first | (simp (disch := omega) only [wr_eq] <;> omega) | omega) ?_
    by_cases c1 : A.length = 1
    · refine Ev.pos (by first | (simp (disch := omega) only [wr_eq] <;> omega) | omega) ?_
      rw [show wr (60 * (a : Int)) = ((a * 60 : Nat) : Int) from by rw [wr_eq (by omega)]; omega, Int.toNat_natCast]
      refine Ev.pos (by first | (simp (disch := omega) only [wr_eq] <;> omega) | omega) ?_
      have hg := hgx 0 (by omega)
      rw [Int.toNat_zero, Nat.add_zero, hA] at hg
      rw [← hg]
      have r1 := gt_in sA (y := 0) (by omega)
      rw [wr_eq (a := gt A 0) (by omega)]
      refine Ev.obe (f_in (by omega) (by omega) (by omega)) ?_
      by_cases c2 : 97 ≤ gt A 0 ∧ gt A 0 ≤ 122
      · have hq : A.length = 1 ∧ 97 ≤ gt A 0 ∧ gt A 0 ≤ 122 := ⟨c1, c2⟩
        rw [if_pos c2, if_pos hq]
        refine Ev.neg (by decide) ?_
        refine Ev.pos (by first | (simp (disch := omega) only [wr_eq] <;> omega) | omega) ?_
        rw [← hg]
        refine Ev.bd (m_takeVariable ho hV1 (v := gt A 0 - 97) hk (by omega)) ?_
        intro v w2 h
        exact Ev.ret ⟨rfl, h.2⟩
      · have hq : ¬ (A.length = 1 ∧ 97 ≤ gt A 0 ∧ gt A 0 ≤ 122) := fun h => c2 h.2
        rw [if_neg c2, if_neg hq]
        refine Ev.pos rfl ?_
        exact Ev.ret (P2.none ho (by omega))
    · refine Ev.neg (by first | (simp (disch := omega) only [wr_eq] <;> omega) | omega) ?_
      rw [if_neg (fun h => c1 h.1)]
      exact Ev.ret (P2.none ho (by omega))
  · have hA := hA (by omega) (by omega)
    rw [← z2 _ (by omega)] at hA
    have lA := lA (w 95 k) hx
    rw [hA] at lA
    rw [e]
    refine Ev.pos (by first | (simp (disch := omega) only [wr_eq] <;> omega) | omega) ?_; refine Ev.pos (by first | (simp (disch := omega) only [wr_eq] <;> omega) | omega) ?_
    rw [wr_eq (a := w 95 k) (by omega), wr_eq (a := w1 99 (w 95 k).toNat) (by omega), ← lA.1]
    have := m_putNumber ho hk (x := A.length) (by omega)
    have ee : ev1 35 (w 95 k) (rM w1 87 88 20) (rM w1 89 90 60) A B = (0, decS A.length) := by simp [ev1]
    rw [if_neg (by omega)] at this
    rw [ee]
    refine Ev.bd this ?_
    intro v w2 h
    have h0 := h.1
    exact Ev.ret h
  · have hA := hA (by omega) (by omega)
    rw [← z2 _ (by omega)] at hA
    have lA := lA (w 95 k) hx
    rw [hA] at lA
    rw [e]
    refine Ev.neg (by first | (simp (disch := omega) only [wr_eq] <;> omega) | omega) ?_; refine Ev.neg (by first | (simp (disch := omega) only [wr_eq] <;> omega) | omega) ?_; refine Ev.neg (by first | (simp (disch := omega) only [wr_eq] <;> omega) | omega) ?_; refine Ev.neg (by first | (simp (disch := omega) only [wr_eq] <;> omega) | omega) ?_; refine Ev.pos (by first | (simp (disch := omega) only [wr_eq] <;> omega) | omega) ?_
    obtain ⟨a, ha⟩ : ∃ a : Nat, w 95 k = a := ⟨(w 95 k).toNat, by omega⟩
    rw [ha, Int.toNat_natCast] at hA
    rw [ha, wr_eq (a := (a : Int)) (by omega), Int.toNat_natCast]
    refine Ev.pos (by first | (simp (disch := omega) only [wr_eq] <;> omega) | omega) ?_; refine Ev.pos (by first | (simp (disch := omega) only [wr_eq] <;> omega) | omega) ?_
    have := m_copyR ho (t := k) (a := a) hk (by omega)
    rw [hA] at this
    have ee : ev1 114 (a : Int) (rM w1 87 88 20) (rM w1 89 90 60) A B = (0, A.reverse) := by simp [ev1]
    rw [ee]
    exact this
  · have hA := hA (by omega) (by omega)
    rw [← z2 _ (by omega)] at hA
    have hB := hB (by omega) (by omega) (by omega) (by omega) (by omega)
    rw [← z2 _ (by omega)] at hB
    have lB := lA (w 96 k) ⟨hx.2.2.1, hx.2.2.2⟩
    have lA := lA (w 95 k) ⟨hx.1, hx.2.1⟩
    rw [hA] at lA
    rw [hB] at lB
    have sA1 : SO (rM w1 98 99 60 (w 95 k).toNat) := by rw [hA]; exact sA
    have sB1 : SO (rM w1 98 99 60 (w 96 k).toNat) := by rw [hB]; exact sB
    have isB := m_isNumber ho (a := w 96 k) (by omega) sB1
    have isA := m_isNumber ho (a := w 95 k) (by omega) sA1
    have nuB := m_numberOf ho (a := w 96 k) (by omega) sB1
    have nuA := m_numberOf ho (a := w 95 k) (by omega) sA1
    rw [hB] at isB nuB
    rw [hA] at isA nuA
    have nA := numS_rng A
    have nB := numS_rng B
    have eN := NON_eq
    by_cases e38 : w 94 k = 38
    · rw [e38]
      refine Ev.neg (by first | (simp (disch := omega) only [wr_eq] <;> omega) | omega) ?_; refine Ev.pos (by first | (simp (disch := omega) only [wr_eq] <;> omega) | omega) ?_
      rw [wr_eq (a := w 95 k) (by omega), wr_eq (a := w 96 k) (by omega)]
      have ee : ev1 38 (w 95 k) (rM w1 87 88 20) (rM w1 89 90 60) A B = (if 60 < A.length + B.length then (4, []) else (0, A ++ B)) := by simp [ev1]
      rw [ee]
      refine Ev.pos (by first | (simp (disch := omega) only [wr_eq] <;> omega) | omega) ?_; refine Ev.pos (by first | (simp (disch := omega) only [wr_eq] <;> omega) | omega) ?_
      by_cases c1 : 60 < A.length + B.length
      · rw [if_pos c1]
        refine Ev.pos (by first | (simp (disch := omega) only [wr_eq] <;> omega) | omega) ?_
        exact Ev.ret (P2.none ho (by omega))
      · rw [if_neg c1]
        refine Ev.neg (by first | (simp (disch := omega) only [wr_eq] <;> omega) | omega) ?_
        refine Ev.bd (m_append ho hk (o := w 95 k) (by omega) (by omega) (by rw [z3, hA]; simp; omega)) ?_
        rintro v w2 ⟨-, q1, q2, q3⟩
        rw [z3, List.nil_append, hA] at q3
        have eB : rM w2 98 99 60 (w 96 k).toNat = B := by rw [q3, vs_ne _ _ (by omega), hB]
        have eA : rM w2 98 99 60 k = A := by rw [q3, vs_same]
        refine Ev.bd (m_append q2 hk (o := w 96 k) (by omega) (by omega) (by rw [eA, eB]; omega)) ?_
        rintro v w3 ⟨-, p1, p2, p3⟩
        rw [eA, eB, q3, vs_vs] at p3
        exact Ev.ret (P2.vs (q1.tr p1) p2 p3)
    by_cases e61 : w 94 k = 61
    · rw [e61]
      refine Ev.neg (by first | (simp (disch := omega) only [wr_eq] <;> omega) | omega) ?_; refine Ev.neg (by first | (simp (disch := omega) only [wr_eq] <;> omega) | omega) ?_; refine Ev.pos (by first | (simp (disch := omega) only [wr_eq] <;> omega) | omega) ?_
      have ee : ev1 61 (w 95 k) (rM w1 87 88 20) (rM w1 89 90 60) A B = (if A = B then (0, []) else (-1, [])) := by simp [ev1]
      rw [ee]
      have := m_isSame ho (a := w 95 k) (b := w 96 k) (by omega) (by omega) sA1 sB1
      rw [hA, hB] at this
      refine Ev.obe this ?_
      by_cases c1 : A = B
      · rw [if_pos c1, if_pos c1]
        refine Ev.neg (by decide) (Ev.ret (P2.nil ho z3))
      · rw [if_neg c1, if_neg c1]
        refine Ev.pos rfl (Ev.ret (P2.none ho (by omega)))
    by_cases e100 : w 94 k = 100
    · rw [e100]
      refine Ev.neg (by first | (simp (disch := omega) only [wr_eq] <;> omega) | omega) ?_; refine Ev.neg (by first | (simp (disch := omega) only [wr_eq] <;> omega) | omega) ?_; refine Ev.neg (by first | (simp (disch := omega) only [wr_eq] <;> omega) | omega) ?_; refine Ev.pos (by first | (simp (disch := omega) only [wr_eq] <;> omega) | omega) ?_
      have ee : ev1 100 (w 95 k) (rM w1 87 88 20) (rM w1 89 90 60) A B = (if numS B = NON ∨ numS B < 0 ∨ 60 < numS B then (1, []) else if 60 < A.length * numS B then (4, []) else (0, repL A (numS B).toNat)) := by simp [ev1]
      rw [ee]
      refine Ev.obe isB ?_
      by_cases q1 : numS B = NON
      · rw [if_pos (Or.inl q1), if_neg (show ¬ (numS B ≠ NON) from fun h => h q1)]
        exact Ev.pos rfl (Ev.ret (P2.none ho (by omega)))
      · rw [if_pos (show numS B ≠ NON from q1)]
        refine Ev.neg (by decide) ?_
        refine Ev.obe (nuB q1) ?_
        refine Ev.obe (f_in (by omega) (by omega) (by omega)) ?_
        by_cases q2 : 0 ≤ numS B ∧ numS B ≤ 60
        · have q3 : ¬ (numS B = NON ∨ numS B < 0 ∨ 60 < numS B) := by omega
          rw [if_pos q2, if_neg q3]
          refine Ev.neg (by decide) ?_
          rw [wr_eq (a := w 95 k) (by omega)]
          refine Ev.pos (by first | (simp (disch := omega) only [wr_eq] <;> omega) | omega) ?_
          refine Ev.obe (nuB q1) ?_
          rw [wr_eq (a := w1 99 (w 95 k).toNat) (by omega), ← lA.1]
          have mb : 0 ≤ (A.length : Int) * numS B ∧ (A.length : Int) * numS B ≤ 3600 := by
            have m1 : 0 ≤ (A.length : Int) * numS B := Int.mul_nonneg (by omega) (by omega)
            have m2 : (A.length : Int) * numS B ≤ 60 * numS B := Int.mul_le_mul_of_nonneg_right (by omega) (by omega)
            omega
          by_cases q4 : 60 < (A.length : Int) * numS B
          · rw [if_pos q4]
            refine Ev.pos (by first | (simp (disch := omega) only [wr_eq, wl_eq] <;> omega) | omega) ?_
            exact Ev.ret (P2.none ho (by omega))
          · rw [if_neg q4]
            refine Ev.neg (by first | (simp (disch := omega) only [wr_eq, wl_eq] <;> omega) | omega) ?_
            refine Ev.obe (nuB q1) ?_
            have en : numS B = ((numS B).toNat : Int) := by omega
            generalize (numS B).toNat = n at en ⊢
            rw [en] at q4 ⊢
            have := m_rep_loop hk (x := w 95 k) ⟨hx.1, hx.2.1⟩ (A := A) (n := n) (by omega) (by omega) FU 0 w1 (by unfold FU; omega) (by omega) ho hA z3
            rw [show (n : Int) - ((0 : Nat) : Int) = n from by omega] at this
            exact this
        · have q3 : (numS B = NON ∨ numS B < 0 ∨ 60 < numS B) := by omega
          rw [if_neg q2, if_pos q3]
          exact Ev.pos rfl (Ev.ret (P2.none ho (by omega)))
    refine Ev.neg (by first | (simp (disch := omega) only [wr_eq] <;> omega) | omega) ?_; refine Ev.neg (by first | (simp (disch := omega) only [wr_eq] <;> omega) | omega) ?_; refine Ev.neg (by first | (simp (disch := omega) only [wr_eq] <;> omega) | omega) ?_; refine Ev.neg (by first | (simp (disch := omega) only [wr_eq] <;> omega) | omega) ?_; refine Ev.neg (by first | (simp (disch := omega) only [wr_eq] <;> omega) | omega) ?_; refine Ev.neg (by first | (simp (disch := omega) only [wr_eq] <;> omega) | omega) ?_; refine Ev.neg (by first | (simp (disch := omega) only [wr_eq] <;> omega) | omega) ?_; refine Ev.neg (by first | (simp (disch := omega) only [wr_eq] <;> omega) | omega) ?_
    have ee : ev1 (w 94 k) (w 95 k) (rM w1 87 88 20) (rM w1 89 90 60) A B = (if numS A = NON ∨ numS B = NON then (1, []) else if w 94 k = 60 then (if numS A < numS B then (0, []) else (-1, [])) else if w 94 k = 47 ∧ numS B = 0 then (2, []) else if 999999999 < calc1 (w 94 k) (numS A) (numS B) ∨ calc1 (w 94 k) (numS A) (numS B) < -999999999 then (1, []) else (0, decS (calc1 (w 94 k) (numS A) (numS B)))) := by
      unfold ev1
      rw [if_neg (by omega), if_neg (by omega), if_neg (by omega), if_neg (by omega), if_neg (by omega), if_neg (by omega), if_neg (by omega), if_neg (by omega)]
    rw [ee]
    have fin : Ev (f_X9_reckon k (w 94 k) (w 95 k) (w 96 k) w1) (P2 w1 k (if numS A = NON ∨ numS B = NON then (1, []) else if w 94 k = 60 then (if numS A < numS B then (0, []) else (-1, [])) else if w 94 k = 47 ∧ numS B = 0 then (2, []) else if 999999999 < calc1 (w 94 k) (numS A) (numS B) ∨ calc1 (w 94 k) (numS A) (numS B) < -999999999 then (1, []) else (0, decS (calc1 (w 94 k) (numS A) (numS B))))) := by
      unfold f_X9_reckon
      refine Ev.obe isA ?_
      by_cases q1 : numS A = NON
      · rw [if_pos (Or.inl q1), if_neg (show ¬ (numS A ≠ NON) from fun h => h q1)]
        exact Ev.pos rfl (Ev.ret (P2.none ho (by omega)))
      · rw [if_pos (show numS A ≠ NON from q1)]
        refine Ev.neg (by decide) ?_
        refine Ev.obe isB ?_
        by_cases q2 : numS B = NON
        · rw [if_pos (Or.inr q2), if_neg (show ¬ (numS B ≠ NON) from fun h => h q2)]
          exact Ev.pos rfl (Ev.ret (P2.none ho (by omega)))
        · rw [if_pos (show numS B ≠ NON from q2)]
          refine Ev.neg (by decide) ?_
          refine Ev.obe (nuA q1) ?_
          refine Ev.obe (nuB q2) ?_
          rw [if_neg (fun h : numS A = NON ∨ numS B = NON => h.elim q1 q2)]
          have m1 := mul_rng (a := numS A) (b := numS B) (by omega) (by omega)
          have m2 := div_rng (a := numS A) (numS B) (by omega)
          have last : ∀ x : Int, -1000000000000000000 ≤ x ∧ x ≤ 1000000000000000000 → Ev (f_X9_reckon_125 x k w1) (P2 w1 k (if 999999999 < x ∨ x < -999999999 then (1, []) else (0, decS x))) := by
            intro x hx
            unfold f_X9_reckon_125
            refine Ev.bd (m_putNumber ho hk hx) ?_
            intro v w2 h
            exact Ev.ret h
          have ek : w 94 k = 43 ∨ w 94 k = 45 ∨ w 94 k = 42 ∨ w 94 k = 47 ∨ w 94 k = 60 := by omega
          unfold f_X9_reckon_76
          rcases ek with e | e | e | e | e
          · rw [e, if_neg (by omega : ¬ ((43 : Int) = 60)), if_neg (by omega : ¬ ((43 : Int) = 47 ∧ numS B = 0)), show calc1 43 (numS A) (numS B) = numS A + numS B from by simp [calc1]]
            refine Ev.neg (by first | (simp (disch := omega) only [wr_eq] <;> omega) | omega) ?_; refine Ev.neg (by first | (simp (disch := omega) only [wr_eq] <;> omega) | omega) ?_; refine Ev.pos (by first | (simp (disch := omega) only [wr_eq] <;> omega) | omega) ?_
            exact last _ (by omega)
          · rw [e, if_neg (by omega : ¬ ((45 : Int) = 60)), if_neg (by omega : ¬ ((45 : Int) = 47 ∧ numS B = 0)), show calc1 45 (numS A) (numS B) = numS A - numS B from by simp [calc1]]
            refine Ev.neg (by first | (simp (disch := omega) only [wr_eq] <;> omega) | omega) ?_; refine Ev.neg (by first | (simp (disch := omega) only [wr_eq] <;> omega) | omega) ?_; refine Ev.neg (by first | (simp (disch := omega) only [wr_eq] <;> omega) | omega) ?_; refine Ev.pos (by first | (simp (disch := omega) only [wr_eq] <;> omega) | omega) ?_
            exact last _ (by omega)
          · rw [e, if_neg (by omega : ¬ ((42 : Int) = 60)), if_neg (by omega : ¬ ((42 : Int) = 47 ∧ numS B = 0)), show calc1 42 (numS A) (numS B) = numS A * numS B from by simp [calc1]]
            refine Ev.neg (by first | (simp (disch := omega) only [wr_eq] <;> omega) | omega) ?_; refine Ev.neg (by first | (simp (disch := omega) only [wr_eq] <;> omega) | omega) ?_; refine Ev.neg (by first | (simp (disch := omega) only [wr_eq] <;> omega) | omega) ?_; refine Ev.neg (by first | (simp (disch := omega) only [wr_eq] <;> omega) | omega) ?_; refine Ev.pos (by first | (simp (disch := omega) only [wr_eq] <;> omega) | omega) ?_
            exact last _ (by omega)
          · rw [e, if_neg (by omega : ¬ ((47 : Int) = 60)), show calc1 47 (numS A) (numS B) = Int.tdiv (numS A) (numS B) from by simp [calc1]]
            refine Ev.neg (by first | (simp (disch := omega) only [wr_eq] <;> omega) | omega) ?_; refine Ev.pos (by first | (simp (disch := omega) only [wr_eq] <;> omega) | omega) ?_
            by_cases q3 : numS B = 0
            · have hq : (47 : Int) = 47 ∧ numS B = 0 := ⟨rfl, q3⟩
              rw [if_pos hq, q3]
              refine Ev.pos rfl ?_
              exact Ev.ret (P2.none ho (by omega))
            · rw [if_neg (by omega : ¬ ((47 : Int) = 47 ∧ numS B = 0))]
              refine Ev.neg (by first | (simp (disch := omega) only [wr_eq, wl_eq] <;> omega) | omega) ?_; refine Ev.neg (by first | (simp (disch := omega) only [wr_eq] <;> omega) | omega) ?_; refine Ev.neg (by first | (simp (disch := omega) only [wr_eq] <;> omega) | omega) ?_; refine Ev.neg (by first | (simp (disch := omega) only [wr_eq] <;> omega) | omega) ?_; refine Ev.pos (by first | (simp (disch := omega) only [wr_eq, wl_eq] <;> omega) | omega) ?_
              rw [wl_eq (by omega), wl_eq (by omega)]
              exact last _ (by omega)
          · rw [e, wr_eq (a := (k : Int)) (by omega), Int.toNat_natCast]
            refine Ev.pos rfl ?_
            refine Ev.pos (by first | (simp (disch := omega) only [wr_eq] <;> omega) | omega) ?_
            rw [if_pos (rfl : (60 : Int) = 60)]
            have F9 : Fr [98, 99] w1 (up w1 99 k 0) := Fr.rf.up (by simp)
            obtain ⟨y1, y2⟩ := rM_zero ho hk
            by_cases q3 : numS A < numS B
            · rw [if_pos q3]
              refine Ev.pos (by first | (simp (disch := omega) only [wr_eq, wl_eq] <;> omega) | omega) ?_
              exact Ev.ret (P2.vs F9 y2 y1)
            · rw [if_neg q3]
              refine Ev.neg (by first | (simp (disch := omega) only [wr_eq, wl_eq] <;> omega) | omega) ?_
              exact Ev.ret ⟨rfl, F9, y2, fun h => absurd (h : (-1 : Int) = 0) (by decide), fun r hr => by rw [y1, vs_ne _ _ hr]⟩
    refine Ev.bd fin ?_
    intro v w2 h
    exact Ev.ret h
