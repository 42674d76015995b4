/-! the reference goes on behind a statement -/
def SGo : List Nat := [61, 63, 69, 70, 71]
/-- the reference's way to go on says what the value says -/
def RsR (P : PV) (R : Rs) (w' : WS) : Prop := (R.1 = 0 ∧ w' 85 70 = R.2.1 ∧ (0 ≤ R.2.1 ∧ R.2.1 < sC P) ∧ w' 85 61 = 0 ∧ w' 85 71 = 0) ∨ (R.1 = 1 ∧ w' 85 61 = 0 ∧ w' 85 71 = 1) ∨ (R.1 = 2 ∧ w' 85 61 = R.2.1 ∧ (0 < R.2.1 ∧ R.2.1 ≤ 8) ∧ w' 85 71 = 0)
theorem RRn.put {P : PV} {w : WS} {V : Nat → List Int} {D : List Frm} (h : RRn P w V D) {w' : WS} {S : List Nat} (F : FX [85] S w w') (hS : ∀ k ∈ [21, 11, 15, 51, 63], k ∉ S) : RRn P w' V D := by
  obtain ⟨hB, h63, h10, hst, hDK⟩ := h
  refine ⟨hB.oth F (by decide) (fun k hk => hS k (by simp at hk ⊢; omega)) (by decide), (F.2 63 (hS 63 (by simp))).trans h63, h10, ?_, hDK⟩
  exact hst.mono (fun k _ => by rw [F.1 127 (by simp)]) (fun k _ => by rw [F.1 128 (by simp)]) (fun k _ => by rw [rM_fr (F.1 129 (by simp)) (F.1 130 (by simp))])
theorem m_goOn_end {P : PV} {w : WS} {V : Nat → List Int} {D : List Frm} (h : RRn P w V D) (h51 : w 85 51 = sC P) (hc : 0 ≤ sC P ∧ sC P ≤ 40) {x : Int} (hx : 0 ≤ x ∧ x ≤ 40) {fl : Nat → Int} (h126 : w 126 = fl) {s : Int} (hs : s = 0 ∨ s = 1) : Ev (f_X9_goOn_123 x s w) (fun v w' => FX [85] [61, 70, 71] w w' ∧ RsR P (if s = 1 then (1, 0, D, V, fl) else if x < sC P then (0, x, D, V, fl) else (2, 7, D, V, fl)) w' ∧ w' 126 = fl ∧ RRn P w' V D) := by
  have gen : ∀ e : Int, FX [85] [61, 70, 71] w (up (up (up w 85 71 s) 85 61 e) 85 70 x) ∧ (up (up (up w 85 71 s) 85 61 e) 85 70 x) 85 70 = x ∧ (up (up (up w 85 71 s) 85 61 e) 85 70 x) 85 61 = e ∧ (up (up (up w 85 71 s) 85 61 e) 85 70 x) 85 71 = s ∧ (up (up (up w 85 71 s) 85 61 e) 85 70 x) 126 = fl ∧ RRn P (up (up (up w 85 71 s) 85 61 e) 85 70 x) V D := by
    intro e
    have F : FX [85] [61, 70, 71] w (up (up (up w 85 71 s) 85 61 e) 85 70 x) := ((FX.rf.put 71 _ (by simp) (by simp)).put 61 _ (by simp) (by simp)).put 70 _ (by simp) (by simp)
    exact ⟨F, up_same _ _ _ _, by rw [up_slot _ _ _ _ (by omega), up_same], by rw [up_slot _ _ _ _ (by omega), up_slot _ _ _ _ (by omega), up_same], (F.1 126 (by simp)).trans h126, h.put F (by decide)⟩
  unfold f_X9_goOn_123
  rw [if_pos hs, up_same, show (up w 85 71 s) 85 51 = w 85 51 from up_slot _ _ _ _ (by omega), h51]
  rcases hs with rfl | rfl
  · refine Ev.pos rfl ?_
    rw [if_neg (by decide : ¬ (0 : Int) = 1)]
    by_cases c : x < sC P
    · rw [if_pos c]
      refine Ev.pos (by first | (simp (disch := omega) only [wr_eq] <;> omega) | omega) ?_
      obtain ⟨g1, g2, g3, g4, g5, g6⟩ := gen 0
      exact Ev.ret ⟨g1, Or.inl ⟨rfl, g2, ⟨hx.1, c⟩, g3, g4⟩, g5, g6⟩
    · rw [if_neg c]
      refine Ev.neg (by first | (simp (disch := omega) only [wr_eq] <;> omega) | omega) ?_
      obtain ⟨g1, g2, g3, g4, g5, g6⟩ := gen 7
      exact Ev.ret ⟨g1, Or.inr (Or.inr ⟨rfl, g3, ⟨by show (0 : Int) < 7; omega, by show (7 : Int) ≤ 8; omega⟩, g4⟩), g5, g6⟩
  · refine Ev.neg (by decide) ?_
    rw [if_pos rfl]
    obtain ⟨g1, g2, g3, g4, g5, g6⟩ := gen 0
    exact Ev.ret ⟨g1, Or.inr (Or.inl ⟨rfl, g3, g4⟩), g5, g6⟩
theorem m_goOn_loop {P : PV} (hP : POK P) : ∀ (D : List Frm) (m : Nat) (p : Int) (s : Bool) (w : WS) (V : Nat → List Int) (fl : Nat → Int), D.length < m → (0 ≤ p ∧ p < sC P) → RRn P w V D → w 126 = aFl p s fl → w 85 71 = 0 → Ev (f_X9_goOn_5 m p (aWay P p s) w) (fun _ w' => FX LBm SGo w w' ∧ RsR P (aLv P D p s V fl) w' ∧ w' 126 = (aLv P D p s V fl).2.2.2.2 ∧ RRn P w' (aLv P D p s V fl).2.2.2.1 (aLv P D p s V fl).2.2.1) := by
  have hc40 := hP.2.2.2.2.2.2.1
  -- what needs no call
  have one : ∀ (D : List Frm) (p : Int) (s : Bool) (w : WS) (V : Nat → List Int) (fl : Nat → Int) (R : Rs), (0 ≤ p ∧ p < sC P) → RRn P w V D → w 126 = aFl p s fl → R = (if aWay P p s = -4 ∨ (aWay P p s = -1 ∧ p + 1 = sC P) then (1, 0, D, V, aFl p s fl) else if aWay P p s = -1 then (0, p + 1, D, V, aFl p s fl) else if 0 ≤ aWay P p s then (if aWay P p s < sC P then (0, aWay P p s, D, V, aFl p s fl) else (2, 7, D, V, aFl p s fl)) else R) → ¬ aWay P p s = -2 → ¬ aWay P p s = -3 → Ev (if wr (aWay P p s) = wr (-1) then f_X9_goOn_93 (aWay P p s) (p + 1) w else f_X9_goOn_93 (aWay P p s) (aWay P p s) w) (fun _ w' => FX LBm SGo w w' ∧ RsR P R w' ∧ w' 126 = R.2.2.2.2 ∧ RRn P w' R.2.2.2.1 R.2.2.1) := by
    intro D p s w V fl R hp h h126 hR n2 n3
    have h51 : w 85 51 = sC P := congrFun (h.1.row 15) 3
    obtain ⟨s1, s2, s3, s4, s5, s6, s7⟩ := hP.2.2.2.2.2.2.2.1 p hp.1 hp.2
    have hw : -4 ≤ aWay P p s ∧ aWay P p s ≤ 39 := by
      unfold aWay
      split
      · exact s3
      · exact s4
    generalize aWay P p s = way at *
    by_cases c4 : way = -4
    · rw [if_pos (Or.inl c4)] at hR
      refine Ev.neg (by first | (simp (disch := omega) only [wr_eq] <;> omega) | omega) ?_
      unfold f_X9_goOn_93 f_X9_goOn_118
      refine Ev.pos (by first | (simp (disch := omega) only [wr_eq] <;> omega) | omega) ?_
      have hx : Ev (f_X9_goOn_123 way 1 w) (fun v w' => FX [85] [61, 70, 71] w w' ∧ RsR P (1, 0, D, V, aFl p s fl) w' ∧ w' 126 = aFl p s fl ∧ RRn P w' V D) := by
        have F : ∀ x : Int, FX [85] [61, 70, 71] w (up (up (up w 85 71 1) 85 61 0) 85 70 x) := fun x => ((FX.rf.put 71 _ (by simp) (by simp)).put 61 _ (by simp) (by simp)).put 70 _ (by simp) (by simp)
        unfold f_X9_goOn_123
        rw [if_pos (Or.inr rfl), up_same]
        exact Ev.neg (by decide) (Ev.ret ⟨F way, Or.inr (Or.inl ⟨rfl, by rw [up_slot _ _ _ _ (by omega), up_same], by rw [up_slot _ _ _ _ (by omega), up_slot _ _ _ _ (by omega), up_same]⟩), ((F way).1 126 (by simp)).trans h126, h.put (F way) (by decide)⟩)
      rw [hR]
      refine hx.mono ?_
      rintro v w' ⟨q1, q2, q3, q4⟩
      exact ⟨q1.sub (by decide) (by decide), q2, q3, q4⟩
    · by_cases c1 : way = -1
      · refine Ev.pos (by first | (simp (disch := omega) only [wr_eq] <;> omega) | omega) ?_
        unfold f_X9_goOn_93 f_X9_goOn_118 f_X9_goOn_122
        refine Ev.neg (by first | (simp (disch := omega) only [wr_eq] <;> omega) | omega) ?_; refine Ev.pos (by first | (simp (disch := omega) only [wr_eq] <;> omega) | omega) ?_
        rw [h51]
        by_cases c5 : p + 1 = sC P
        · rw [if_pos (Or.inr ⟨c1, c5⟩)] at hR
          refine Ev.neg (by first | (simp (disch := omega) only [wr_eq] <;> omega) | omega) ?_
          rw [hR]
          refine (m_goOn_end h h51 hc40 (x := p + 1) (by omega) h126 (Or.inr rfl)).mono ?_
          rintro v w' ⟨q1, q2, q3, q4⟩
          exact ⟨q1.sub (by decide) (by decide), q2, q3, q4⟩
        · have hq : ¬ (way = -4 ∨ (way = -1 ∧ p + 1 = sC P)) := by omega
          rw [if_neg hq, if_pos c1] at hR
          refine Ev.pos (by first | (simp (disch := omega) only [wr_eq] <;> omega) | omega) ?_
          rw [hR]
          refine (m_goOn_end h h51 hc40 (x := p + 1) (by omega) h126 (Or.inl rfl)).mono ?_
          rintro v w' ⟨q1, q2, q3, q4⟩
          rw [if_neg (by decide : ¬ (0 : Int) = 1), if_pos (by omega)] at q2
          exact ⟨q1.sub (by decide) (by decide), q2, q3, q4⟩
      · have hq : ¬ (way = -4 ∨ (way = -1 ∧ p + 1 = sC P)) := by omega
        rw [if_neg hq, if_neg c1, if_pos (by omega)] at hR
        refine Ev.neg (by first | (simp (disch := omega) only [wr_eq] <;> omega) | omega) ?_
        unfold f_X9_goOn_93 f_X9_goOn_122
        refine Ev.neg (by first | (simp (disch := omega) only [wr_eq] <;> omega) | omega) ?_; refine Ev.neg (by first | (simp (disch := omega) only [wr_eq] <;> omega) | omega) ?_
        refine (m_goOn_end h h51 hc40 (x := way) (by omega) h126 (Or.inl rfl)).mono ?_
        rintro v w' ⟨q1, q2, q3, q4⟩
        rw [if_neg (by decide : ¬ (0 : Int) = 1)] at q2
        by_cases c6 : way < sC P
        · rw [if_pos c6] at hR q2
          rw [hR]
          exact ⟨q1.sub (by decide) (by decide), q2, q3, q4⟩
        · rw [if_neg c6] at hR q2
          rw [hR]
          exact ⟨q1.sub (by decide) (by decide), q2, q3, q4⟩
  intro D
  induction D with
  | nil =>
    intro m p s w V fl h1 hp h h126 h71
    obtain ⟨m, rfl⟩ : ∃ j, m = j + 1 := ⟨m - 1, by simp at h1; omega⟩
    rw [f_X9_goOn_5_s]
    have h63 : w 85 63 = 0 := h.2.1
    have none_ : (aWay P p s = -2 ∨ aWay P p s = -3) → Ev (f_X9_goOn_19 (fun x0 x1 x => f_X9_goOn_5 m x0 x1 x) (aWay P p s) w) (fun _ w' => FX LBm SGo w w' ∧ RsR P (aLv P [] p s V fl) w' ∧ w' 126 = (aLv P [] p s V fl).2.2.2.2 ∧ RRn P w' (aLv P [] p s V fl).2.2.2.1 (aLv P [] p s V fl).2.2.1) := by
      intro c
      unfold f_X9_goOn_19 aLv
      rw [h63, if_neg (by omega : ¬ (aWay P p s = -4 ∨ (aWay P p s = -1 ∧ p + 1 = sC P))), if_neg (by omega : ¬ aWay P p s = -1), if_neg (by omega : ¬ 0 ≤ aWay P p s)]
      have F : FX [85] [61] w (up w 85 61 6) := FX.rf.put 61 _ (by simp) (by simp)
      refine Ev.pos rfl (Ev.ret ⟨F.sub (by decide) (by decide), Or.inr (Or.inr ⟨rfl, up_same _ _ _ _, ⟨by show (0 : Int) < 6; omega, by show (6 : Int) ≤ 8; omega⟩, (F.2 71 (by simp)).trans h71⟩), (F.1 126 (by simp)).trans h126, h.put F (by decide)⟩)
    by_cases c2 : aWay P p s = -2
    · refine Ev.pos (by rw [c2]) (none_ (Or.inl c2))
    · refine Ev.neg ?_ ?_
      · obtain ⟨s1, s2, s3, s4, s5, s6, s7⟩ := hP.2.2.2.2.2.2.2.1 p hp.1 hp.2
        have hw : -4 ≤ aWay P p s ∧ aWay P p s ≤ 39 := by
          unfold aWay
          split
          · exact s3
          · exact s4
        exact (by first | (simp (disch := omega) only [wr_eq] <;> omega) | omega)
      by_cases c3 : aWay P p s = -3
      · refine Ev.pos (by rw [c3]) (none_ (Or.inr c3))
      · refine Ev.neg ?_ ?_
        · obtain ⟨s1, s2, s3, s4, s5, s6, s7⟩ := hP.2.2.2.2.2.2.2.1 p hp.1 hp.2
          have hw : -4 ≤ aWay P p s ∧ aWay P p s ≤ 39 := by
            unfold aWay
            split
            · exact s3
            · exact s4
          exact (by first | (simp (disch := omega) only [wr_eq] <;> omega) | omega)
        refine one [] p s w V fl _ hp h h126 ?_ c2 c3
        by_cases q1 : aWay P p s = -4 ∨ (aWay P p s = -1 ∧ p + 1 = sC P)
        · rw [if_pos q1]; exact if_pos q1
        · rw [if_neg q1]
          by_cases q2 : aWay P p s = -1
          · rw [if_pos q2]; exact (if_neg q1).trans (if_pos q2)
          · rw [if_neg q2]
            by_cases q3 : 0 ≤ aWay P p s
            · rw [if_pos q3]; exact (if_neg q1).trans ((if_neg q2).trans (if_pos q3))
            · rw [if_neg q3]
  | cons x D ih =>
    intro m p s w V fl h1 hp h h126 h71
    rw [List.length_cons] at h1
    obtain ⟨m, rfl⟩ : ∃ j, m = j + 1 := ⟨m - 1, by omega⟩
    rw [f_X9_goOn_5_s]
    have hw : -4 ≤ aWay P p s ∧ aWay P p s ≤ 39 := by
      obtain ⟨s1, s2, s3, s4, s5, s6, s7⟩ := hP.2.2.2.2.2.2.2.1 p hp.1 hp.2
      unfold aWay
      split
      · exact s3
      · exact s4
    have h63 : w 85 63 = D.length + 1 := h.2.1
    have h10 := h.2.2.1
    rw [List.length_cons] at h10
    obtain ⟨xp, xk, xt, xa, xb, xc⟩ := h.2.2.2.2 x List.mem_cons_self
    have back : ∀ (a : Int), (a = 0 ∨ a = 1) → (aWay P p s = -2 ∧ a = 1 ∨ aWay P p s = -3 ∧ a = 0) → Ev (f_X9_goOn_45 (fun x0 x1 x => f_X9_goOn_5 m x0 x1 x) a w) (fun _ w' => FX LBm SGo w w' ∧ RsR P (aLv P (x :: D) p s V fl) w' ∧ w' 126 = (aLv P (x :: D) p s V fl).2.2.2.2 ∧ RRn P w' (aLv P (x :: D) p s V fl).2.2.2.1 (aLv P (x :: D) p s V fl).2.2.1) := by
      intro a ha c
      have eR : aLv P (x :: D) p s V fl = aLv P D x.1 (decide (a = 1)) (backV P x (decide (a = 1)) V) (aFl p s fl) := by
        have e : decide (aWay P p s = -2) = decide (a = 1) := by
          rcases c with ⟨c, rfl⟩ | ⟨c, rfl⟩
          · rw [c]; rfl
          · rw [c]; rfl
        have : aLv P (x :: D) p s V fl = if aWay P p s = -4 ∨ (aWay P p s = -1 ∧ p + 1 = sC P) then (1, 0, x :: D, V, aFl p s fl) else if aWay P p s = -1 then (0, p + 1, x :: D, V, aFl p s fl) else if 0 ≤ aWay P p s then (if aWay P p s < sC P then (0, aWay P p s, x :: D, V, aFl p s fl) else (2, 7, x :: D, V, aFl p s fl)) else aLv P D x.1 (decide (aWay P p s = -2)) (backV P x (decide (aWay P p s = -2)) V) (aFl p s fl) := rfl
        rw [this, if_neg (by omega : ¬ (aWay P p s = -4 ∨ (aWay P p s = -1 ∧ p + 1 = sC P))), if_neg (by omega : ¬ aWay P p s = -1), if_neg (by omega : ¬ 0 ≤ aWay P p s), e]
      rw [eR]
      unfold f_X9_goOn_45
      refine Ev.bd (m_comeBack hP h ha) ?_
      rintro v w1 ⟨rfl, q1, q2, q3⟩
      have e71 : w1 85 71 = 0 := (q1.2 71 (by decide)).trans h71
      have fin : Ev (f_X9_goOn_5 m x.1 (aWay P x.1 (decide (a = 1))) w1) (fun _ w' => FX LBm SGo w w' ∧ RsR P (aLv P D x.1 (decide (a = 1)) (backV P x (decide (a = 1)) V) (aFl p s fl)) w' ∧ w' 126 = (aLv P D x.1 (decide (a = 1)) (backV P x (decide (a = 1)) V) (aFl p s fl)).2.2.2.2 ∧ RRn P w' (aLv P D x.1 (decide (a = 1)) (backV P x (decide (a = 1)) V) (aFl p s fl)).2.2.2.1 (aLv P D x.1 (decide (a = 1)) (backV P x (decide (a = 1)) V) (aFl p s fl)).2.2.1) := by
        refine (ih m x.1 (decide (a = 1)) w1 _ (aFl p s fl) (by omega) xp q3 (by rw [q2, h126]) e71).mono ?_
        rintro v w' ⟨z1, z2⟩
        exact ⟨(q1.sub (by decide) (by decide)).tr z1, z2⟩
      have eY : w1 118 x.1.toNat = sY P x.1 := congrFun (q3.1.row 10) _
      have eN : w1 119 x.1.toNat = sN P x.1 := congrFun (q3.1.row 11) _
      have hc := hc40
      rw [wr_eq (a := x.1) (by omega), eY, eN]
      rcases ha with rfl | rfl
      · refine Ev.pos rfl ?_
        have e : aWay P x.1 (decide ((0 : Int) = 1)) = sN P x.1 := if_neg (by decide)
        rw [e] at fin
        refine Ev.pos (by first | (simp (disch := omega) only [wr_eq] <;> omega) | omega) ?_
        exact fin
      · refine Ev.neg (by decide) ?_
        have e : aWay P x.1 (decide ((1 : Int) = 1)) = sY P x.1 := if_pos (by decide)
        rw [e] at fin
        refine Ev.pos (by first | (simp (disch := omega) only [wr_eq] <;> omega) | omega) ?_
        exact fin
    by_cases c2 : aWay P p s = -2
    · refine Ev.pos (by rw [c2]) ?_
      unfold f_X9_goOn_19
      refine Ev.neg (by first | (simp (disch := omega) only [wr_eq] <;> omega) | omega) ?_
      exact Ev.pos (by rw [c2]) (back 1 (Or.inr rfl) (Or.inl ⟨c2, rfl⟩))
    · refine Ev.neg (by first | (simp (disch := omega) only [wr_eq] <;> omega) | omega) ?_
      by_cases c3 : aWay P p s = -3
      · refine Ev.pos (by rw [c3]) ?_
        unfold f_X9_goOn_19
        refine Ev.neg (by first | (simp (disch := omega) only [wr_eq] <;> omega) | omega) ?_
        refine Ev.neg ?_ (back 0 (Or.inl rfl) (Or.inr ⟨c3, rfl⟩))
        rw [c3]
        decide
      · refine Ev.neg (by first | (simp (disch := omega) only [wr_eq] <;> omega) | omega) ?_
        refine one (x :: D) p s w V fl _ hp h h126 ?_ c2 c3
        by_cases q1 : aWay P p s = -4 ∨ (aWay P p s = -1 ∧ p + 1 = sC P)
        · rw [if_pos q1]; exact if_pos q1
        · rw [if_neg q1]
          by_cases q2 : aWay P p s = -1
          · rw [if_pos q2]; exact (if_neg q1).trans (if_pos q2)
          · rw [if_neg q2]
            by_cases q3 : 0 ≤ aWay P p s
            · rw [if_pos q3]; exact (if_neg q1).trans ((if_neg q2).trans (if_pos q3))
            · rw [if_neg q3]
