/-! ways and terms, between calls -/
theorem aW_ok {E : EV} (hE : EOK E) (n : Nat) : ∀ (st : MS) (L : List Int), AOK E st → st.1 ≤ 6 → VOK (vOf (aW E n st L).2.2) ∧ ((aW E n st L).1 = -1 ∨ (aW E n st L).1 = ((aW E n st L).2.1.length : Int)) ∧ (aW E n st L).2.1.length ≤ n + L.length := by
  induction n with
  | zero => intro st L hA _; exact ⟨hA.vok, Or.inr rfl, by show L.length ≤ 0 + L.length; omega⟩
  | succ n ih =>
    intro st L hA hm
    obtain ⟨h1, h2, h3⟩ := AOK.end_ hE hA hm
    rw [aW_s]
    generalize aEnd E st = e at *
    by_cases c6 : e.1 = 6
    · rw [if_pos c6]; exact ⟨h1.vok, Or.inl rfl, by show L.length ≤ n + 1 + L.length; omega⟩
    rw [if_neg c6]
    by_cases c4 : e.1 = 4
    · rw [if_pos c4]
      obtain ⟨k1, k2, k3⟩ := ih (aAgain e) (L ++ [100 * sOf e + cOf e]) (h1.again c4) (by rw [(aAgain_v e).2.1]; omega)
      refine ⟨k1, k2, ?_⟩
      rw [List.length_append, List.length_singleton] at k3
      omega
    · rw [if_neg c4]; exact ⟨h1.vok, Or.inr rfl, by show L.length ≤ n + 1 + L.length; omega⟩
noncomputable def wyX (a : Int) (S : St) : Int × List Int × MS := aWays (pE S.2.2.1 S.1 a) S.2.2.2.1
theorem wyX_ok {a : Int} {S : St} (hW : WF S) (ha : 0 ≤ a ∧ a < pN S.2.2.1) : EOK (pE S.2.2.1 S.1 a) ∧ VOK (vOf (wyX a S).2.2) ∧ ((wyX a S).1 = -1 ∨ (wyX a S).1 = ((wyX a S).2.1.length : Int)) ∧ (wyX a S).2.1.length ≤ 200 := by
  have hE := hW.2.2.1.E hW.1 ha
  have := aW_ok hE 200 (aSt0 S.2.2.2.1) [] (aSt0_ok hW.2.2.2.1) (by show 3 ≤ 6; omega)
  exact ⟨hE, this⟩
noncomputable def tq_ways (a : Int) (S : St) : TQ := if 0 ≤ a ∧ a < pN S.2.2.1 then (if (wyX a S).1 = -1 then (2, 0, S) else (0, (wyX a S).1, stV S (vOf (wyX a S).2.2))) else (1, 0, S)
noncomputable def tq_way (a b : Int) (S : St) : TQ := if 0 ≤ a ∧ a < pN S.2.2.1 then (if (wyX a S).1 = -1 then (2, 0, S) else if 0 ≤ b ∧ b < (wyX a S).1 then (0, gt (wyX a S).2.1 b, stV S (vOf (wyX a S).2.2)) else (3, 0, S)) else (1, 0, S)
theorem tq_ways_WF {a : Int} {S : St} (hW : WF S) : WF (tq_ways a S).2.2 := by
  unfold tq_ways
  by_cases c : 0 ≤ a ∧ a < pN S.2.2.1
  · rw [if_pos c]
    by_cases c6 : (wyX a S).1 = -1
    · rw [if_pos c6]; exact hW
    · rw [if_neg c6]; exact ⟨hW.1, hW.2.1, hW.2.2.1, (wyX_ok hW c).2.1, hW.2.2.2.2⟩
  · rw [if_neg c]; exact hW
theorem tq_way_WF {a b : Int} {S : St} (hW : WF S) : WF (tq_way a b S).2.2 := by
  unfold tq_way
  by_cases c : 0 ≤ a ∧ a < pN S.2.2.1
  · rw [if_pos c]
    by_cases c6 : (wyX a S).1 = -1
    · rw [if_pos c6]; exact hW
    · rw [if_neg c6]
      by_cases c7 : 0 ≤ b ∧ b < (wyX a S).1
      · rw [if_pos c7]; exact ⟨hW.1, hW.2.1, hW.2.2.1, (wyX_ok hW c).2.1, hW.2.2.2.2⟩
      · rw [if_neg c7]; exact hW
  · rw [if_neg c]; exact hW
/-- what the class's finding leaves -/
theorem cl_find {S : St} {w : WS} (hW : WF S) (h : JC S w) {a : Int} (c : 0 ≤ a ∧ a < pN S.2.2.1) : Ev (f_X8_findWays a w) (fun v w' => v = (wyX a S).1 ∧ JC (stV S (vOf (wyX a S).2.2)) w' ∧ rC w' 10 60 = S.2.2.2.1 ∧ sg (w' 84) 0 (wyX a S).2.1.length = (wyX a S).2.1 ∧ ∀ c, 85 ≤ c → w' c = w c) := by
  obtain ⟨hE, -⟩ := wyX_ok hW c
  have o := h.2.2.2.2.1
  have key := c_findWays h.1.2 o.1 h.2.2.2.1.2 o.2.1 o.2.2.1 h.2.2.2.1.1 hW.2.2.2.1 (a := a) (pN S.2.2.1) (by rw [h.E a]; exact hE)
  rw [h.E a] at key
  refine key.mono ?_
  rintro v w' ⟨q1, q2, q3, q4, q5, q6, q7⟩
  exact ⟨q1, h.via (q2.sub (by decide)) q3 q5 (RO_fr (q2 18 (by decide)) o.2.2.2.1) (RO_fr (q2 21 (by decide)) o.2.2.2.2.1) (RO_fr (q2 24 (by decide)) o.2.2.2.2.2) q6, q4, q7, fun c hc => q2 c (by simp; omega)⟩
/-- the variables put back -/
theorem cl_unkeep {S : St} {w : WS} (h : JC S w) {V0 : Nat → List Int} (h10 : rC w 10 60 = V0) : Ev (f_X6_copyAll 7 10 w) (fun _ w' => JC (stV S V0) w' ∧ ∀ c, 85 ≤ c → w' c = w c) := by
  have o := h.2.2.2.2.1
  refine Ev.mono (f_copyAll RI_7 RI_10 (by omega) h.2.2.2.1.2 o.2.1) ?_
  rintro v w' ⟨-, t1, t2, t3⟩
  have t1 : Fr [8, 9] w w' := t1
  rw [h10] at t3
  exact ⟨h.via (t1.sub (by decide)) (RO_fr (t1 12 (by simp)) o.2.1) (RO_fr (t1 15 (by simp)) o.2.2.1) (RO_fr (t1 18 (by simp)) o.2.2.2.1) (RO_fr (t1 21 (by simp)) o.2.2.2.2.1) (RO_fr (t1 24 (by simp)) o.2.2.2.2.2) ⟨t3, t2⟩, fun c hc => t1 c (by simp; omega)⟩
theorem cl_ways {S : St} {w : WS} (hW : WF S) (h : JC S w) {a : Int} (ha : IR a) : Ev (f_L_ways a w) (ClQ (tq_ways a S) w) := by
  have hc := hW.cnt.1
  have h25 := h.cnt.1
  unfold f_L_ways tq_ways
  refine Ev.ocX ?_
  unfold f_X8_ways
  by_cases c : 0 ≤ a ∧ a < pN S.2.2.1
  · rw [if_pos c]
    refine Ex.ok (by rw [x_needPattern ha (by unfold IR; omega), h25, if_pos c]) ?_
    refine Ex.bd (cl_find hW h c) ?_
    rintro v w1 ⟨rfl, q1, q2, q3, q4⟩
    obtain ⟨-, -, x1, x2⟩ := wyX_ok hW c
    by_cases c6 : (wyX a S).1 = -1
    · rw [if_pos c6, c6]
      refine Ex.pos (by decide) ?_
      refine Ex.bd (cl_unkeep q1 q2) ?_
      rintro v w2 ⟨t1, t2⟩
      exact Ex.ret (Ev.neg (by decide) (Ev.neg (by decide) (Ev.pos rfl (Ev.ret ⟨rfl, fun q => absurd (show (2 : Int) = 0 from q) (by decide), t1, fun c hc _ => (t2 c hc).trans (q4 c hc)⟩))))
    · rw [if_neg c6]
      refine Ex.neg (by first | (simp (disch := omega) only [wr_eq] <;> omega) | omega) (Ex.ret (Ev.pos rfl ?_))
      exact ClQ_put (q := (0, (wyX a S).1, stV S (vOf (wyX a S).2.2))) rfl q1 q4
  · rw [if_neg c]
    refine Ex.no (t := 3) (by rw [x_needPattern ha (by unfold IR; omega), h25, if_neg c]) (by decide) ?_
    exact Ev.neg (by decide) (Ev.pos rfl (Ev.ret (ClQ_no h 1 0 (by decide))))
theorem cl_way {S : St} {w : WS} (hW : WF S) (h : JC S w) {a b : Int} (ha : IR a) (hb : IR b) : Ev (f_L_way a b w) (ClQ (tq_way a b S) w) := by
  have hc := hW.cnt.1
  have h25 := h.cnt.1
  have hb' := hb
  unfold IR at hb'
  unfold f_L_way tq_way
  refine Ev.ocX ?_
  unfold f_X8_way
  by_cases c : 0 ≤ a ∧ a < pN S.2.2.1
  · rw [if_pos c]
    refine Ex.ok (by rw [x_needPattern ha (by unfold IR; omega), h25, if_pos c]) ?_
    refine Ex.bd (cl_find hW h c) ?_
    rintro v w1 ⟨rfl, q1, q2, q3, q4⟩
    obtain ⟨-, -, x1, x2⟩ := wyX_ok hW c
    by_cases c6 : (wyX a S).1 = -1
    · rw [if_pos c6, c6]
      refine Ex.pos (by decide) ?_
      refine Ex.bd (cl_unkeep q1 q2) ?_
      rintro v w2 ⟨t1, t2⟩
      exact Ex.ret (Ev.neg (by decide) (Ev.neg (by decide) (Ev.pos rfl (Ev.ret ⟨rfl, fun q => absurd (show (2 : Int) = 0 from q) (by decide), t1, fun c hc _ => (t2 c hc).trans (q4 c hc)⟩))))
    · rw [if_neg c6]
      refine Ex.neg (by first | (simp (disch := omega) only [wr_eq] <;> omega) | omega) ?_
      refine Ex.obe (f_isBelow hb' (by omega) w1) ?_
      by_cases c7 : 0 ≤ b ∧ b < (wyX a S).1
      · rw [if_pos c7, if_pos c7]
        refine Ex.neg (by decide) ?_
        refine Ex.obe (f_get (i := 83) (n := 200) rfl (by omega) (by omega)) ?_
        have g := gt_sg (a := w1 84) (o := 0) (n := (wyX a S).2.1.length) (y := b) (by omega)
        rw [q3, Nat.zero_add] at g
        rw [show w1 (83 + 1) b.toNat = gt (wyX a S).2.1 b from g.symm]
        refine Ex.ret (Ev.pos rfl ?_)
        exact ClQ_put (q := (0, gt (wyX a S).2.1 b, stV S (vOf (wyX a S).2.2))) rfl q1 q4
      · rw [if_neg c7, if_neg c7]
        refine Ex.pos rfl ?_
        refine Ex.bd (cl_unkeep q1 q2) ?_
        rintro v w2 ⟨t1, t2⟩
        exact Ex.ret (Ev.neg (by decide) (Ev.neg (by decide) (Ev.neg (by decide) (Ev.pos rfl (Ev.ret ⟨rfl, fun q => absurd (show (3 : Int) = 0 from q) (by decide), t1, fun c hc _ => (t2 c hc).trans (q4 c hc)⟩)))))
  · rw [if_neg c]
    refine Ex.no (t := 3) (by rw [x_needPattern ha (by unfold IR; omega), h25, if_neg c]) (by decide) ?_
    exact Ev.neg (by decide) (Ev.pos rfl (Ev.ret (ClQ_no h 1 0 (by decide))))
/-- what the reference's finding leaves -/
theorem LF_KmL : ∀ c ∈ LF, c ∈ KmL := by decide
theorem LPs_SF : ∀ k ∈ LPs, k ∉ SF := by decide
theorem rf_find {S : St} {w : WS} (hW : WF S) (h : JM S w) (z0 : w 85 0 = 0) {a : Int} (c : 0 ≤ a ∧ a < pN S.2.2.1) : Ev (f_X9_findWays a w) (fun v w' => v = (if (wyX a S).1 = -1 then 0 else 1) ∧ w' 85 0 = 0 ∧ w' 85 80 = (wyX a S).2.1.length ∧ sg (w' 134) 0 (wyX a S).2.1.length = (wyX a S).2.1 ∧ JM (stV S (if (wyX a S).1 = -1 then S.2.2.2.1 else vOf (wyX a S).2.2)) w' ∧ SP w' S.2.2.2.1 ∧ ∀ c, c < 85 ∨ 135 ≤ c → w' c = w c) := by
  obtain ⟨hE, -⟩ := wyX_ok hW c
  have key := m_findWays h.2.2.2.1 hW.2.2.2.1 h.2.2.2.2.1.1 h.1.1 hW.1.2 h.1.2 (a := a) (pN S.2.2.1) (by rw [h.E a]; exact hE)
  rw [h.E a] at key
  refine key.mono ?_
  rintro v w' ⟨q1, q2, q3, q4, q5, q6⟩
  exact ⟨q2, (q1.2 0 (by decide)).trans z0, q3, q4, h.via (q1.1.sub LF_KmL) (fun k hk => q1.2 k (LPs_SF k hk)) (RM_fr (q1.1 99 (by decide)) h.2.2.2.2.1.2.1) (RM_fr (q1.1 130 (by decide)) h.2.2.2.2.1.2.2) q5, q6, fun c hc => q1.1 c (fun q => by have := KM_ge c (LF_KmL c q); omega)⟩
theorem RfQ_fail {w w1 : WS} {S : St} (hJ : JM S w1) (hF : ∀ c, c < 85 ∨ 135 ≤ c → w1 c = w c) (k r v : Int) (hk : k ≠ 0) : RfQ (k, r, S) w v (up w1 85 0 k) := ⟨up_same _ _ _ _, fun e => absurd e hk, hJ.z k, fun c hc => by rw [up_row _ _ _ (by omega)]; exact hF c hc⟩
theorem rf_ways {S : St} {w : WS} (hW : WF S) (h : JM S w) {a : Int} (ha : IR a) : Ev (f_X9_ways a w) (RfQ (tq_ways a S) w) := by
  have hc := hW.cnt.1
  have z0 : (up w 85 0 0) 85 0 = 0 := up_same _ _ _ _
  have z11 : (up w 85 0 0) 85 11 = pN S.2.2.1 := (up_slot _ _ _ _ (by omega)).trans h.cnt.1
  unfold f_X9_ways tq_ways f_X9_ways_19
  rw [x_isPattern ha z11 hc, ob_some]
  by_cases c : 0 ≤ a ∧ a < pN S.2.2.1
  · rw [if_pos c, if_pos c]
    refine Ev.neg (by decide) ?_
    rw [f_fails0 z0 1 (by omega) 0 (Or.inl rfl), if_pos rfl, ob_some]
    refine Ev.pos rfl ?_
    refine Ev.bd (rf_find hW (h.z 0) z0 c) ?_
    rintro v w1 ⟨rfl, q1, q2, q3, q4, q5, q6⟩
    have F : ∀ c, c < 85 ∨ 135 ≤ c → w1 c = w c := fun c hc => (q6 c hc).trans (up_row _ _ _ (by omega))
    obtain ⟨-, -, x1, x2⟩ := wyX_ok hW c
    unfold f_X9_ways_40
    by_cases c6 : (wyX a S).1 = -1
    · rw [if_pos c6] at q4 ⊢
      rw [if_pos c6]
      refine Ev.pos rfl ?_
      rw [f_fails0 q1 2 (by omega) 1 (Or.inr rfl), if_neg (by decide), ob_some]
      exact Ev.neg (by decide) (Ev.ret (RfQ_fail q4 F 2 0 _ (by decide)))
    · rw [if_neg c6] at q4 ⊢
      rw [if_neg c6]
      refine Ev.neg (by decide) ?_
      rw [f_fails0 q1 2 (by omega) 0 (Or.inl rfl), if_pos rfl, ob_some]
      refine Ev.pos rfl (Ev.ret ⟨q1, fun _ => ?_, q4, F⟩)
      rw [q2]
      show _ = (wyX a S).1
      omega
  · rw [if_neg c, if_neg c]
    refine Ev.pos rfl ?_
    rw [f_fails0 z0 1 (by omega) 1 (Or.inr rfl), if_neg (by decide), ob_some]
    exact Ev.neg (by decide) (Ev.ret (RfQ_no h 1 0 _ (by decide)))
theorem rf_way {S : St} {w : WS} (hW : WF S) (h : JM S w) {a b : Int} (ha : IR a) (hb : IR b) : Ev (f_X9_way a b w) (RfQ (tq_way a b S) w) := by
  have hc := hW.cnt.1
  unfold IR at hb
  have z0 : (up w 85 0 0) 85 0 = 0 := up_same _ _ _ _
  have z11 : (up w 85 0 0) 85 11 = pN S.2.2.1 := (up_slot _ _ _ _ (by omega)).trans h.cnt.1
  unfold f_X9_way tq_way f_X9_way_19
  rw [x_isPattern ha z11 hc, ob_some]
  by_cases c : 0 ≤ a ∧ a < pN S.2.2.1
  · rw [if_pos c, if_pos c]
    refine Ev.neg (by decide) ?_
    rw [f_fails0 z0 1 (by omega) 0 (Or.inl rfl), if_pos rfl, ob_some]
    refine Ev.pos rfl ?_
    refine Ev.bd (rf_find hW (h.z 0) z0 c) ?_
    rintro v w1 ⟨rfl, q1, q2, q3, q4, q5, q6⟩
    have F : ∀ c, c < 85 ∨ 135 ≤ c → w1 c = w c := fun c hc => (q6 c hc).trans (up_row _ _ _ (by omega))
    obtain ⟨-, -, x1, x2⟩ := wyX_ok hW c
    unfold f_X9_way_40
    by_cases c6 : (wyX a S).1 = -1
    · rw [if_pos c6] at q4 ⊢
      rw [if_pos c6]
      refine Ev.pos rfl ?_
      rw [f_fails0 q1 2 (by omega) 1 (Or.inr rfl), if_neg (by decide), ob_some]
      exact Ev.neg (by decide) (Ev.ret (RfQ_fail q4 F 2 0 _ (by decide)))
    · rw [if_neg c6] at q4 ⊢
      rw [if_neg c6]
      refine Ev.neg (by decide) ?_
      rw [f_fails0 q1 2 (by omega) 0 (Or.inl rfl), if_pos rfl, ob_some, q2, wr_eq (a := b) (by omega), wr_eq (a := ((wyX a S).2.1.length : Int) - 1) (by omega), f_in (by omega) (by omega) (by omega), ob_some]
      refine Ev.pos rfl ?_
      unfold f_X9_way_69
      by_cases c7 : 0 ≤ b ∧ b < (wyX a S).1
      · rw [if_pos (show 0 ≤ b ∧ b ≤ ((wyX a S).2.1.length : Int) - 1 by omega), if_pos c7]
        refine Ev.neg (by decide) ?_
        rw [q2, wr_eq (a := b) (by omega), wr_eq (a := ((wyX a S).2.1.length : Int) - 1) (by omega), f_in (by omega) (by omega) (by omega), if_pos (show 0 ≤ b ∧ b ≤ ((wyX a S).2.1.length : Int) - 1 by omega), ob_some]
        refine Ev.neg (by decide) ?_
        unfold f_X9_way_91
        rw [f_fails0 q1 3 (by omega) 0 (Or.inl rfl), if_pos rfl, ob_some]
        refine Ev.pos rfl ?_
        rw [wr_eq (a := b) (by omega)]
        refine Ev.pos (by omega) ?_
        have g := gt_sg (a := w1 134) (o := 0) (n := (wyX a S).2.1.length) (y := b) (by omega)
        rw [q3, Nat.zero_add] at g
        rw [← g]
        exact Ev.ret ⟨q1, fun _ => rfl, q4, F⟩
      · rw [if_neg (show ¬ (0 ≤ b ∧ b ≤ ((wyX a S).2.1.length : Int) - 1) by omega), if_neg c7]
        refine Ev.pos rfl ?_
        refine Ev.bd (m_unspareV q5 q4.2.2.2.1.2) ?_
        rintro v w2 ⟨t1, t2⟩
        have J2 : JM S w2 := q4.via (t1.sub (by decide)) (fun k _ => by rw [t1 85 (by simp)]) (RM_fr (t1 99 (by simp)) q4.2.2.2.2.1.2.1) (RM_fr (t1 130 (by simp)) q4.2.2.2.2.1.2.2) t2
        have e80 : w2 85 80 = ((wyX a S).2.1.length : Int) := by rw [t1 85 (by simp)]; exact q2
        rw [e80, wr_eq (a := b) (by omega), wr_eq (a := ((wyX a S).2.1.length : Int) - 1) (by omega), f_in (by omega) (by omega) (by omega), if_neg (show ¬ (0 ≤ b ∧ b ≤ ((wyX a S).2.1.length : Int) - 1) by omega), ob_some]
        refine Ev.pos rfl ?_
        unfold f_X9_way_91
        rw [f_fails0 (by rw [t1 85 (by simp)]; exact q1) 3 (by omega) 1 (Or.inr rfl), if_neg (by decide), ob_some]
        exact Ev.neg (by decide) (Ev.ret (RfQ_fail J2 (fun c hc => (t1 c (by simp; omega)).trans (F c hc)) 3 0 _ (by decide)))
  · rw [if_neg c, if_neg c]
    refine Ev.pos rfl ?_
    rw [f_fails0 z0 1 (by omega) 1 (Or.inr rfl), if_neg (by decide), ob_some]
    exact Ev.neg (by decide) (Ev.ret (RfQ_no h 1 0 _ (by decide)))
