theorem aScan_vok {P : PV} (hP : POK P) {p : Int} (hp : 0 ≤ p ∧ p < sC P) (hk : sK P p = 115) {V : Nat → List Int} (hV : VOK V) : VOK (aScan P p V).2 := by
  obtain ⟨q1, q2, q3, q4, q5, q6⟩ := scan_vok hP hp hk hV
  have ok := pTm_ok hP q2 (sT P p)
  unfold aScan
  by_cases c1 : (scanE P p V).1 = 6
  · rw [if_pos c1]; exact q3
  rw [if_neg c1]
  by_cases c2 : (scanE P p V).1 = 5
  · rw [if_pos c2]; exact q3
  rw [if_neg c2]
  by_cases c3 : sT P p = -1
  · rw [if_pos c3]; exact q2
  rw [if_neg c3]
  by_cases c4 : (pTm P (scanV P p V) (sT P p)).1 = 0
  · rw [if_pos c4]
    by_cases c5 : 60 < (scanL P p V).length
    · rw [if_pos c5]; exact q2
    · rw [if_neg c5]
      refine q2.vs ?_ (by omega)
      intro x hx
      unfold scanL aRep at hx
      rcases List.mem_append.mp hx with hx | hx
      · rcases List.mem_append.mp hx with hx | hx
        · exact (hV _).1 x (List.mem_of_mem_take hx)
        · exact ok.2.1 x hx
      · exact (hV _).1 x (List.mem_of_mem_drop hx)
  · rw [if_neg c4]; exact q2
theorem aDo_vok {P : PV} (hP : POK P) {p : Int} (hp : 0 ≤ p ∧ p < sC P) {V : Nat → List Int} (hV : VOK V) (D : List Frm) : VOK (aDo P p V D).2.1 := by
  have ok := pTm_ok hP hV (sT P p)
  unfold aDo
  by_cases c1 : sK P p = 97
  · rw [if_pos c1]
    unfold aAssign
    by_cases c : (pTm P V (sT P p)).1 = 0
    · rw [if_pos c]; exact hV.vs ok.2.1 ok.2.2
    · rw [if_neg c]; exact hV
  rw [if_neg c1]
  by_cases c2 : sK P p = 115
  · rw [if_pos c2]; exact aScan_vok hP hp c2 hV
  rw [if_neg c2]
  unfold aCall
  by_cases c3 : (pTm P V (sT P p)).1 = 0
  · rw [if_pos c3]
    by_cases c4 : fTd P (sP P p) = 1 ∧ D.length < 10
    · rw [if_pos c4]
      exact ((hV.vs ok.2.1 ok.2.2).vs SO_nil (by simp)).vs SO_nil (by simp)
    · rw [if_neg c4]; exact hV
  · rw [if_neg c3]; exact hV
theorem aLv_vok {P : PV} : ∀ (D : List Frm) (p : Int) (s : Bool) (V : Nat → List Int) (fl : Nat → Int), VOK V → DOK P D → VOK (aLv P D p s V fl).2.2.2.1 := by
  intro D
  induction D with
  | nil =>
    intro p s V fl hV hD
    unfold aLv
    split
    · exact hV
    split
    · exact hV
    split
    · split
      · exact hV
      · exact hV
    · exact hV
  | cons x D ih =>
    intro p s V fl hV hD
    unfold aLv
    split
    · exact hV
    split
    · exact hV
    split
    · split
      · exact hV
      · exact hV
    · refine ih _ _ _ _ ?_ (fun y hy => hD y (List.mem_cons_of_mem _ hy))
      obtain ⟨xp, xk, xt, xa, xb, xc⟩ := hD x List.mem_cons_self
      have b3 := ((hV.vs (a := (fN P (sP P x.1) 0).toNat) xa.1 xa.2).vs (a := (fN P (sP P x.1) 1).toNat) xb.1 xb.2).vs (a := (fN P (sP P x.1) 2).toNat) xc.1 xc.2
      unfold backV
      split
      · exact b3.vs (hV _).1 (hV _).2
      · exact b3
theorem aDo_dok {P : PV} (hP : POK P) {p : Int} (hp : 0 ≤ p ∧ p < sC P) {V : Nat → List Int} (hV : VOK V) {D : List Frm} (hD : DOK P D) : DOK P (aDo P p V D).2.2 := by
  have hs := hP.2.2.2.2.2.2.2.1 p hp.1 hp.2
  unfold aDo
  by_cases c1 : sK P p = 97
  · rw [if_pos c1]; exact hD
  rw [if_neg c1]
  by_cases c2 : sK P p = 115
  · rw [if_pos c2]; exact hD
  rw [if_neg c2]
  unfold aCall
  by_cases c3 : (pTm P V (sT P p)).1 = 0
  · rw [if_pos c3]
    by_cases c4 : fTd P (sP P p) = 1 ∧ D.length < 10
    · rw [if_pos c4]
      intro x hx
      rcases List.mem_cons.mp hx with rfl | hx
      · exact ⟨hp, by rcases hs.1 with q | q | q <;> first | exact q | exact absurd q ‹_›, c4.1, hV _, hV _, hV _⟩
      · exact hD x hx
    · rw [if_neg c4]; exact hD
  · rw [if_neg c3]; exact hD
theorem aOut_vok {P : PV} (hP : POK P) (p : Int) (V : Nat → List Int) (D : List Frm) (hp : 0 ≤ p ∧ p < sC P) (hV : VOK V) (hD : DOK P D) (fl : Nat → Int) : VOK (aOut P p V D fl).2.2.2.1 := by
  have v := aDo_vok hP hp hV D
  have d := aDo_dok hP hp hV hD
  unfold aOut aBehind
  split
  · exact v
  split
  · split
    · exact v
    · exact v
  · exact aLv_vok _ _ _ _ _ v d
/-- a run's end -/
noncomputable def runR (a m : Int) (S : St) : RR := aRun S.2.2.1 m.toNat a [] S.2.2.2.1 (fun _ => 0) (fun _ => 0) S.2.2.2.2.1.2.2.1 0
noncomputable def runS (a m : Int) (S : St) : St := (S.1, S.2.1, S.2.2.1, (runR a m S).2.2.2.2.2.1, (1, (runR a m S).2.1, (runR a m S).2.2.1, (runR a m S).2.2.2.1, ((runR a m S).2.2.2.2.1.length : Int), (runR a m S).2.2.2.2.2.2.1, (runR a m S).2.2.2.2.2.2.2), S.2.2.2.2.2)
noncomputable def tq_run (a m : Int) (S : St) : TQ := if m < 1 ∨ 1000 < m then (1, 0, S) else if 0 ≤ a ∧ a < sC S.2.2.1 then (0, (runR a m S).1, runS a m S) else (2, 0, S)
theorem sm_zero (n : Nat) : sm (fun _ => 0) n = 0 := by
  induction n with
  | zero => rfl
  | succ n ih => show sm (fun _ => 0) n + 0 = 0; rw [ih]; rfl
theorem runR_ok {a m : Int} {S : St} (hW : WF S) (hm : ¬ (m < 1 ∨ 1000 < m)) (ha : 0 ≤ a ∧ a < sC S.2.2.1) : (0 ≤ (runR a m S).1 ∧ (runR a m S).1 < 65536) ∧ (0 ≤ (runR a m S).2.1 ∧ (runR a m S).2.1 ≤ 8) ∧ (0 ≤ (runR a m S).2.2.1 ∧ (runR a m S).2.2.1 ≤ 39) ∧ (0 ≤ (runR a m S).2.2.2.1 ∧ (runR a m S).2.2.2.1 ≤ 0 + (m.toNat : Nat)) ∧ (∀ k, 0 ≤ (runR a m S).2.2.2.2.2.2.1 k ∧ (40 ≤ k → (runR a m S).2.2.2.2.2.2.1 k = 0)) ∧ (∀ k, 0 ≤ (runR a m S).2.2.2.2.2.2.2 k ∧ (40 ≤ k → (runR a m S).2.2.2.2.2.2.2 k = 0)) ∧ sm (runR a m S).2.2.2.2.2.2.1 40 = (runR a m S).2.2.2.1 ∧ VOK (runR a m S).2.2.2.2.2.1 := by
  have hP := hW.2.2.1
  exact aRun_ok hP (fun p V D hp hV hD fl => aOut_vok hP p V D hp hV hD fl) _ _ _ _ _ _ _ _ ha hW.2.2.2.1 (fun x hx => absurd hx (by simp)) (fun _ => ⟨Int.le_refl 0, fun _ => rfl⟩) (fun _ => ⟨Int.le_refl 0, fun _ => rfl⟩) hW.2.2.2.2.1.2.2.1 (sm_zero 40) (Int.le_refl 0)
theorem aRun_ge (P : PV) (n : Nat) : ∀ (p : Int) (D : List Frm) (V : Nat → List Int) (dn fl : Nat → Int) (la mkk : Int), mkk ≤ (aRun P n p D V dn fl la mkk).2.2.2.1 ∧ (0 < n → mkk + 1 ≤ (aRun P n p D V dn fl la mkk).2.2.2.1) := by
  induction n with
  | zero => intro p D V dn fl la mkk; exact ⟨Int.le_refl mkk, fun q => absurd q (by omega)⟩
  | succ n ih =>
    intro p D V dn fl la mkk
    rw [aRun_s]
    generalize aOut P p V D fl = R
    have key : mkk + 1 ≤ (if R.1 = 1 then ((100 : Int), (0 : Int), p, mkk + 1, R.2.2.1, R.2.2.2.1, bump dn p.toNat, R.2.2.2.2) else if R.1 = 2 then (120, R.2.1, p, mkk + 1, R.2.2.1, R.2.2.2.1, bump dn p.toNat, R.2.2.2.2) else aRun P n R.2.1 R.2.2.1 R.2.2.2.1 (bump dn p.toNat) R.2.2.2.2 p (mkk + 1) : RR).2.2.2.1 := by
      by_cases c1 : R.1 = 1
      · rw [if_pos c1]; exact Int.le_refl _
      rw [if_neg c1]
      by_cases c2 : R.1 = 2
      · rw [if_pos c2]; exact Int.le_refl _
      rw [if_neg c2]
      exact (ih _ _ _ _ _ _ _).1
    exact ⟨by omega, fun _ => key⟩
theorem runR_ge {a m : Int} {S : St} (hm : ¬ (m < 1 ∨ 1000 < m)) (_ : 0 ≤ a ∧ a < sC S.2.2.1) : 1 ≤ (runR a m S).2.2.2.1 := by
  have := (aRun_ge S.2.2.1 m.toNat a [] S.2.2.2.1 (fun _ => 0) (fun _ => 0) S.2.2.2.2.1.2.2.1 0).2 (by omega)
  rw [Int.zero_add] at this
  exact this
theorem LPc_LRc : ∀ c ∈ LPc, c ∉ LRc := by decide
theorem LRc_lt : ∀ c ∈ LRc, c < 85 := by decide
theorem LGm_ge : ∀ c ∈ (85 :: LGm), 85 ≤ c ∧ c < 135 := by decide
theorem cl_runq {S : St} {w : WS} (hW : WF S) (h : JC S w) {a m : Int} (ha : IR a) (hm : IR m) : Ev (f_L_run a m w) (fun v w' => ClQ (tq_run a m S) w v w' ∧ WF (tq_run a m S).2.2) := by
  have hP := hW.2.2.1
  have hc := hW.cnt.2.2
  have h57 := h.cnt.2.2
  unfold IR at hm
  unfold f_L_run tq_run
  refine Ev.ocX ?_
  unfold f_X8_run f_X8_run_12
  have bad : (m < 1 ∨ 1000 < m) → Ex (some (1, (0 : Int), w)) (fun t v w1 => Ev (if t = 0 then (fun r1 w1 => if 0 ≤ wr 0 ∧ wr 0 < 1 then some (0, up w1 135 (wr 0).toNat (wr r1)) else none) v w1 else (fun t w2 => if t = 1 then some (1, w2) else if t = 3 then some (2, w2) else none) t w1) (fun v w' => ClQ (if m < 1 ∨ 1000 < m then (1, 0, S) else if 0 ≤ a ∧ a < sC S.2.2.1 then (0, (runR a m S).1, runS a m S) else (2, 0, S)) w v w' ∧ WF (if m < 1 ∨ 1000 < m then (1, 0, S) else if 0 ≤ a ∧ a < sC S.2.2.1 then (0, (runR a m S).1, runS a m S) else ((2 : Int), (0 : Int), S) : TQ).2.2)) := by
    intro c
    rw [if_pos c]
    exact Ex.ret (Ev.neg (by decide) (Ev.pos rfl (Ev.ret ⟨ClQ_no h 1 0 (by decide), hW⟩)))
  by_cases c1 : m < 1
  · exact Ex.pos (by first | (simp (disch := omega) only [wr_eq] <;> omega) | omega) (bad (Or.inl c1))
  refine Ex.neg (by first | (simp (disch := omega) only [wr_eq] <;> omega) | omega) ?_
  by_cases c2 : 1000 < m
  · exact Ex.pos (by first | (simp (disch := omega) only [wr_eq] <;> omega) | omega) (bad (Or.inr c2))
  refine Ex.neg (by first | (simp (disch := omega) only [wr_eq] <;> omega) | omega) ?_
  have c : ¬ (m < 1 ∨ 1000 < m) := by omega
  rw [if_neg c]
  by_cases c3 : 0 ≤ a ∧ a < sC S.2.2.1
  · rw [if_pos c3]
    refine Ex.ok (by rw [x_needStatement ha (by unfold IR; omega), h57, if_pos c3]) ?_
    have hA := hP.2.2.2.2.2.1
    have e12 : w 0 12 = S.2.2.1.1 15 0 := congrFun (congrFun (congrArg Prod.fst h.2.2.1) 15) 0
    have o := h.2.2.2.2.1
    have r := h.r
    have key := c_go hP (w := w) (V := S.2.2.2.1) (first := a) (most := m) (an := w 0 12) (by rw [e12]; exact hA) h.2.2.1 ⟨o.1, o.2.2.1, o.2.2.2.1, o.2.2.2.2.1, o.2.2.2.2.2⟩ h.2.2.2.1 hW.2.2.2.1 c3 (by omega) (fun k hk => by rw [r.2.2.2.2.2.1]; exact (hW.2.2.2.2.1.2.2.2.2.2.1 k).2 hk) (fun k hk => by rw [r.2.2.2.2.2.2]; exact (hW.2.2.2.2.1.2.2.2.2.2.2.1 k).2 hk)
    rw [r.2.2.1] at key
    refine Ex.bd key ?_
    rintro v w2 ⟨⟨q1, q2, q3, q4, q5, q6, q7, q8⟩, q9, q10⟩
    have ok := runR_ok hW c c3
    have eR : aRun S.2.2.1 m.toNat a [] S.2.2.2.1 (fun _ => 0) (fun _ => 0) S.2.2.2.2.1.2.2.1 0 = runR a m S := rfl
    rw [eR] at q2 q3 q4 q5 q6 q7 q8
    obtain ⟨x1, x2, x3, x4, x5⟩ := q6
    rw [q2]
    refine Ex.pos ok.1 (Ex.ret (Ev.pos rfl ?_))
    have e : ∀ k, k ∉ LRc → w2 k = w k := fun k hk => (q1.1 k hk).trans (q9 k (fun q => hk (by revert q; unfold LRc; simp; omega)))
    have e0 : w2 0 = w 0 := e 0 (by decide)
    have J2 : JC (runS a m S) w2 := by
      obtain ⟨y1, y2, y3, y4⟩ := x1
      refine ⟨⟨(congrFun (rC_fr (e 2 (by decide)) (e 3 (by decide))) 0).trans h.1.1, RO_fr (e 3 (by decide)) h.1.2⟩, by rw [e0]; exact h.2.1, ?_, y3, ⟨y2.1, RO_fr (e 12 (by decide)) o.2.1, y2.2.1, y2.2.2.1, y2.2.2.2.1, y2.2.2.2.2⟩, ?_⟩
      · rw [e0, pvC_eq (w := w) (fun c hc => e c (LPc_LRc c hc)) _]
        exact h.2.2.1
      · have hm := h.m
        refine ⟨?_, by show w2 0 13 = _; rw [e0]; exact hm.1, by show w2 0 14 = _; rw [e0]; exact hm.2.1, by show w2 0 17 = _; rw [e0]; exact hm.2.2.1, fun q => ?_⟩
        · show (w2 76 10, w2 76 11, w2 76 12, w2 76 13, w2 76 14, w2 80, w2 82) = _
          rw [q1.2 10 (by omega) (by omega) (by omega) (by omega), q10, q3, q4, q5, x2, q7, q8]
          rfl
        · show w2 0 15 = _ ∧ w2 0 16 = _ ∧ w2 0 18 = _
          rw [e0]
          exact hm.2.2.2 q
    obtain ⟨ok1, ok2, ok3, ok4, ok5, ok6, ok7, ok8⟩ := ok
    have F85 : ∀ c, 85 ≤ c → w2 c = w c := fun c hc => e c (by
      intro q
      have := LRc_lt c q
      omega)
    have W2 : WF (runS a m S) := ⟨hW.1, hW.2.1, hP, ok8, ⟨Or.inr rfl, ok2, ok3, ⟨ok4.1, by show (runR a m S).2.2.2.1 ≤ 1000; omega⟩, ⟨by show (0 : Int) ≤ ((runR a m S).2.2.2.2.1.length : Int); omega, by show ((runR a m S).2.2.2.2.1.length : Int) ≤ 10; omega⟩, ok5, ok6, ok7, fun _ => runR_ge c c3⟩, hW.2.2.2.2.2⟩
    exact (ClQ_put (q := (0, (runR a m S).1, runS a m S)) rfl J2 F85).mono (fun v w' z => ⟨z, W2⟩)
  · rw [if_neg c3]
    refine Ex.no (t := 3) (by rw [x_needStatement ha (by unfold IR; omega), h57, if_neg c3]) (by decide) ?_
    exact Ev.neg (by decide) (Ev.neg (by decide) (Ev.pos rfl (Ev.ret ⟨ClQ_no h 2 0 (by decide), hW⟩)))
theorem rf_run {S : St} {w : WS} (hW : WF S) (h : JM S w) {a m : Int} (ha : IR a) (hm : IR m) : Ev (f_X9_run a m w) (RfQ (tq_run a m S) w) := by
  have hP := hW.2.2.1
  have hc := hW.cnt.2.2
  unfold IR at hm ha
  have z0 : (up w 85 0 0) 85 0 = 0 := up_same _ _ _ _
  have z51 : (up w 85 0 0) 85 51 = sC S.2.2.1 := (up_slot _ _ _ _ (by omega)).trans h.cnt.2.2
  unfold f_X9_run tq_run
  rw [wr_eq (a := m) (by omega), f_in (by omega) (by omega) (by omega), ob_some]
  by_cases c : m < 1 ∨ 1000 < m
  · rw [if_neg (by omega : ¬ (1 ≤ m ∧ m ≤ 1000)), if_pos c]
    refine Ev.pos rfl ?_
    unfold f_X9_run_23
    rw [f_fails0 z0 1 (by omega) 1 (Or.inr rfl), if_neg (by decide), ob_some]
    exact Ev.neg (by decide) (Ev.ret (RfQ_no h 1 0 _ (by decide)))
  · rw [if_pos (by omega : 1 ≤ m ∧ m ≤ 1000), if_neg c]
    refine Ev.neg (by decide) ?_
    unfold f_X9_run_23
    rw [f_fails0 z0 1 (by omega) 0 (Or.inl rfl), if_pos rfl, ob_some, z51, wr_eq (a := a) (by omega), wr_eq (a := sC S.2.2.1 - 1) (by omega), f_in (by omega) (by omega) (by omega), ob_some]
    refine Ev.pos rfl ?_
    unfold f_X9_run_52
    by_cases c2 : 0 ≤ a ∧ a < sC S.2.2.1
    · rw [if_pos (show 0 ≤ a ∧ a ≤ sC S.2.2.1 - 1 by omega), if_pos c2]
      refine Ev.neg (by decide) ?_
      rw [f_fails0 z0 2 (by omega) 0 (Or.inl rfl), if_pos rfl, ob_some]
      refine Ev.pos rfl ?_
      have J0 := h.z 0
      have r := J0.r
      have e0 : ∀ c, c ≠ 85 → (up w 85 0 0) c = w c := fun c hc => up_row _ _ _ hc
      generalize up w 85 0 0 = w0 at *
      refine (m_go hP (w := w0) (V := S.2.2.2.1) (first := a) (most := m) ⟨J0.2.2.1, J0.2.2.2.2.1, J0.2.2.2.1, hW.2.2.2.1⟩ c2 (by omega) (fun k hk => by rw [r.2.2.2.2.2.1]; exact (hW.2.2.2.2.1.2.2.2.2.2.1 k).2 hk) (fun k hk => by rw [r.2.2.2.2.2.2]; exact (hW.2.2.2.2.1.2.2.2.2.2.2.1 k).2 hk)).mono ?_
      rintro v w2 ⟨q1, q2, w1, q3, q4, q5, q6, q7, q8, q9, q10⟩
      rw [r.2.2.1] at q4 q5 q6 q7 q8 q9 q10
      have eR : aRun S.2.2.1 m.toNat a [] S.2.2.2.1 (fun _ => 0) (fun _ => 0) S.2.2.2.2.1.2.2.1 0 = runR a m S := rfl
      rw [eR] at q4 q5 q6 q7 q8 q9 q10
      obtain ⟨x1, x2, x3, x4, x5⟩ := q8
      obtain ⟨y1, y2, y3, y4⟩ := x1
      refine ⟨(q1.2 0 (by decide)).trans z0, fun _ => q4, ⟨⟨(q1.2 2 (by decide)).trans J0.1.1, by show sg (w2 86) _ _ = _; rw [q1.1 86 (by decide)]; exact J0.1.2⟩, (q1.2 5 (by decide)).trans J0.2.1, y1, y3, y2, ?_, ?_⟩, fun c hc => ?_⟩
      · rw [q2, q5, q6, q7, x2, q9, q10]
        rfl
      · rw [q1.2 72 (by decide), q1.2 73 (by decide), q1.2 74 (by decide), q1.2 75 (by decide), q1.2 76 (by decide)]
        exact J0.2.2.2.2.2.2
      · refine (q1.1 c ?_).trans (e0 c (by omega))
        intro q
        have := LGm_ge c q
        omega
    · rw [if_neg (show ¬ (0 ≤ a ∧ a ≤ sC S.2.2.1 - 1) by omega), if_neg c2]
      refine Ev.pos rfl ?_
      rw [f_fails0 z0 2 (by omega) 1 (Or.inr rfl), if_neg (by decide), ob_some]
      exact Ev.neg (by decide) (Ev.ret (RfQ_no h 2 0 _ (by decide)))
