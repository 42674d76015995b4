/-! the reference's statement and run -/
def LGm : List Nat := [85, 89, 90, 97, 98, 99, 100, 101, 102, 103, 104, 105, 106, 107, 108, 109, 110, 111, 112, 113, 125, 126, 127, 128, 129, 130, 131]
def SGm : List Nat := [20, 43, 22, 27, 34, 38, 39, 40, 41, 42, 44, 60, 61, 62, 63, 69, 70, 71]
/-- what the reference's step leaves -/
def StR (P : PV) (w : WS) (R : Rs) (w' : WS) : Prop := FX LGm SGm w w' ∧ RsR P R w' ∧ w' 126 = R.2.2.2.2 ∧ RRn P w' R.2.2.2.1 R.2.2.1 ∧ w' 125 = w 125 ∧ w' 85 60 = w 85 60 ∧ w' 85 62 = w 85 62
theorem m_go173 {P : PV} (hP : POK P) {w : WS} {V : Nat → List Int} {D : List Frm} (h : RRn P w V D) {p : Int} (hp : 0 ≤ p ∧ p < sC P) (h71 : w 85 71 = 0) : Ev (f_X9_doStatement_173 p w) (fun _ w' => StR P w (aLv P D p true V (w 126)) w') := by
  have hc := hP.2.2.2.2.2.2.1
  unfold f_X9_doStatement_173 f_X9_goOn
  rw [wr_eq (a := p) (by omega), show w 118 p.toNat = sY P p from congrFun (h.1.row 10) _]
  refine Ev.pos (by first | (simp (disch := omega) only [wr_eq] <;> omega) | omega) ?_
  refine Ev.bd (m_goOn_loop hP D FU p true w V (w 126) (by have := h.2.2.1; unfold FU; omega) hp h rfl h71) ?_
  rintro v w' ⟨q1, q2, q3, q4⟩
  exact Ev.ret ⟨q1.sub (by decide) (by decide), q2, q3, q4, q1.1 125 (by decide), q1.2 60 (by decide), q1.2 62 (by decide)⟩
/-- behind a statement whose doing answers o -/
theorem m_do70 {P : PV} (hP : POK P) {w : WS} {V : Nat → List Int} {D : List Frm} (h : RRn P w V D) {p : Int} (hp : 0 ≤ p ∧ p < sC P) (h71 : w 85 71 = 0) (h61 : w 85 61 = 0) {o : Int} (ho : -1 ≤ o ∧ o ≤ 8) {R : Rs} (pos : 0 < o → R = (2, o, D, V, w 126)) (neg : o = -1 → R = aLv P D p false V (w 126)) (call : o = 0 → sK P p = 99 → fTd P (sP P p) = 1 ∧ R = aBehind P p (-2) D V (w 126)) (scan : o = 0 → sK P p = 115 → R = aLv P D p true V (w 126)) (asg : o = 0 → sK P p = 97 → ∃ L, rM w 98 99 60 (sT P p).toNat = L ∧ (SO L ∧ L.length ≤ 60) ∧ R = aLv P D p true (vs V (sV P p).toNat L) (w 126)) : Ev (f_X9_doStatement_70 p (sK P p) o w) (fun _ w' => StR P w R w') := by
  have hc := hP.2.2.2.2.2.2.1
  have hT := hP.2.2.2.1
  obtain ⟨s1, s2, s3, s4, s5, s6, s7⟩ := hP.2.2.2.2.2.2.2.1 p hp.1 hp.2
  unfold f_X9_doStatement_70
  by_cases c1 : 0 < o
  · refine Ev.pos (by first | (simp (disch := omega) only [wr_eq] <;> omega) | omega) ?_
    rw [pos c1]
    have F : FX [85] [61] w (up w 85 61 o) := FX.rf.put 61 _ (by simp) (by simp)
    exact Ev.ret ⟨F.sub (by decide) (by decide), Or.inr (Or.inr ⟨rfl, up_same _ _ _ _, ⟨c1, ho.2⟩, (F.2 71 (by simp)).trans h71⟩), F.1 126 (by simp), h.put F (by decide), F.1 125 (by simp), F.2 60 (by simp), F.2 62 (by simp)⟩
  refine Ev.neg (by first | (simp (disch := omega) only [wr_eq] <;> omega) | omega) ?_
  by_cases c2 : o = -1
  · refine Ev.pos (by first | (simp (disch := omega) only [wr_eq] <;> omega) | omega) ?_
    rw [neg c2, wr_eq (a := p) (by omega)]
    refine Ev.pos (by first | (simp (disch := omega) only [wr_eq] <;> omega) | omega) ?_; refine Ev.pos (by first | (simp (disch := omega) only [wr_eq] <;> omega) | omega) ?_; refine Ev.pos (by first | (simp (disch := omega) only [wr_eq] <;> omega) | omega) ?_
    have F : FX [126] [] w (up w 126 p.toNat (w 126 p.toNat + 1)) := FX.rf.oth 126 _ _ (by simp) (by omega)
    have bu := bump_up w 126 p.toNat
    generalize up w 126 p.toNat (w 126 p.toNat + 1) = w1 at F bu ⊢
    have h1 : RRn P w1 V D := by
      obtain ⟨hB, h63, h10, hst, hDK⟩ := h
      exact ⟨hB.oth F (by decide) (by simp) (by decide), (F.2 63 (by simp)).trans h63, h10, hst.mono (fun k _ => by rw [F.1 127 (by simp)]) (fun k _ => by rw [F.1 128 (by simp)]) (fun k _ => by rw [rM_fr (F.1 129 (by simp)) (F.1 130 (by simp))]), hDK⟩
    unfold f_X9_goOn
    rw [show w1 119 p.toNat = sN P p from congrFun (h1.1.row 11) _]
    refine Ev.bd (m_goOn_loop hP D FU p false w1 V (w 126) (by have := h.2.2.1; unfold FU; omega) hp h1 bu ((F.2 71 (by simp)).trans h71)) ?_
    rintro v w' ⟨q1, q2, q3, q4⟩
    exact Ev.ret ⟨(F.sub (by decide) (by simp)).tr (q1.sub (by decide) (by decide)), q2, q3, q4, (q1.1 125 (by decide)).trans (F.1 125 (by simp)), (q1.2 60 (by decide)).trans (F.2 60 (by simp)), (q1.2 62 (by decide)).trans (F.2 62 (by simp))⟩
  refine Ev.neg (by first | (simp (disch := omega) only [wr_eq] <;> omega) | omega) ?_
  have c0 : o = 0 := by omega
  rcases s1 with hk | hk | hk
  · rw [hk]
    refine Ev.neg (by decide) (Ev.pos rfl ?_)
    obtain ⟨L, hL, sL, hR⟩ := asg c0 hk
    have hT1 := s5 (by omega)
    rw [hR, wr_eq (a := p) (by omega), show w 115 p.toNat = sV P p from congrFun (h.1.row 7) _, show w 117 p.toNat = sT P p from congrFun (h.1.row 9) _]
    refine Ev.pos (by first | (simp (disch := omega) only [wr_eq] <;> omega) | omega) ?_; refine Ev.pos (by first | (simp (disch := omega) only [wr_eq] <;> omega) | omega) ?_
    obtain ⟨hB, h63, h10, hst, hDK⟩ := h
    refine Ev.bd (m_setTo hB.2.2.1.2 hB.2.1.2.1 s2 (v := sT P p) (by omega)) ?_
    rintro v w1 ⟨-, q1, q2, q3⟩
    rw [hL, hB.2.2.1.1] at q3
    have F : FX [89, 90] [] w w1 := FX.of q1 (by simp) (by simp)
    have h1 : RRn P w1 (vs V (sV P p).toNat L) D := ⟨hB.fr F (by decide) (by simp) (RM_fr (F.1 99 (by simp)) hB.2.1.2.1) (RM_fr (F.1 130 (by simp)) hB.2.1.2.2) ⟨q3, q2⟩ (hB.2.2.2.vs sL.1 sL.2), (F.2 63 (by simp)).trans h63, h10, hst.mono (fun k _ => by rw [F.1 127 (by simp)]) (fun k _ => by rw [F.1 128 (by simp)]) (fun k _ => by rw [rM_fr (F.1 129 (by simp)) (F.1 130 (by simp))]), hDK⟩
    refine Ev.mono (m_go173 hP h1 hp ((F.2 71 (by simp)).trans h71)) ?_
    rintro v w' ⟨y1, y2, y3, y4, y5, y6, y7⟩
    rw [F.1 126 (by simp)] at y2 y3 y4
    exact ⟨(F.sub (by decide) (by simp)).tr y1, y2, y3, y4, y5.trans (F.1 125 (by simp)), y6.trans (F.2 60 (by simp)), y7.trans (F.2 62 (by simp))⟩
  · rw [hk]
    refine Ev.neg (by decide) (Ev.neg (by decide) ?_)
    rw [scan c0 hk]
    exact m_go173 hP h hp h71
  · rw [hk]
    refine Ev.pos rfl ?_
    obtain ⟨f1, hR⟩ := call c0 hk
    have hf := s7 hk
    obtain ⟨n0, -⟩ := (hP.2.2.2.2.2.2.2.2 (sP P p) hf.1 hf.2).2 f1
    rw [hR, wr_eq (a := p) (by omega), show w 116 p.toNat = sP P p from congrFun (h.1.row 8) _, wr_eq (a := sP P p) (by omega), show w 121 (sP P p).toNat = fE P (sP P p) from congrFun (h.1.row 13) _, up_same, show (up w 85 70 (fE P (sP P p))) 85 51 = sC P from (up_slot _ _ _ _ (by omega)).trans (congrFun (h.1.row 15) 3)]
    refine Ev.pos (by first | (simp (disch := omega) only [wr_eq] <;> omega) | omega) ?_; refine Ev.pos (by first | (simp (disch := omega) only [wr_eq] <;> omega) | omega) ?_
    have gen : ∀ e : Int, FX [85] [61, 70] w (up (up w 85 70 (fE P (sP P p))) 85 61 e) := fun e => (FX.rf.put 70 _ (by simp) (by simp)).put 61 _ (by simp) (by simp)
    have g70 : ∀ e : Int, (up (up w 85 70 (fE P (sP P p))) 85 61 e) 85 70 = fE P (sP P p) := fun e => by rw [up_slot _ _ _ _ (by omega), up_same]
    have g61 : ∀ e : Int, (up (up w 85 70 (fE P (sP P p))) 85 61 e) 85 61 = e := fun e => up_same _ _ _ _
    unfold aBehind
    rw [if_neg (by decide : ¬ (0 : Int) < -2), if_pos rfl]
    by_cases c6 : fE P (sP P p) < sC P
    · rw [if_pos c6]
      refine Ev.pos (by first | (simp (disch := omega) only [wr_eq] <;> omega) | omega) ?_
      have F := gen 0
      exact Ev.ret ⟨F.sub (by decide) (by decide), Or.inl ⟨rfl, g70 0, ⟨n0.1, c6⟩, g61 0, (F.2 71 (by simp)).trans h71⟩, F.1 126 (by simp), h.put F (by decide), F.1 125 (by simp), F.2 60 (by simp), F.2 62 (by simp)⟩
    · rw [if_neg c6]
      refine Ev.neg (by first | (simp (disch := omega) only [wr_eq] <;> omega) | omega) ?_
      have F := gen 7
      exact Ev.ret ⟨F.sub (by decide) (by decide), Or.inr (Or.inr ⟨rfl, g61 7, ⟨by show (0 : Int) < 7; omega, by show (7 : Int) ≤ 8; omega⟩, (F.2 71 (by simp)).trans h71⟩), F.1 126 (by simp), h.put F (by decide), F.1 125 (by simp), F.2 60 (by simp), F.2 62 (by simp)⟩
theorem RRn.keep {P : PV} {w w' : WS} {V V' : Nat → List Int} {D : List Frm} (h : RRn P w V D) {L S : List Nat} (F : FX L S w w') (hB : RB P w' V') (h1 : ∀ c ∈ [127, 128, 129, 130], c ∉ L) (h2 : 63 ∉ S) : RRn P w' V' D := ⟨hB, (F.2 63 h2).trans h.2.1, h.2.2.1, h.2.2.2.1.mono (fun k _ => by rw [F.1 127 (h1 127 (by simp))]) (fun k _ => by rw [F.1 128 (h1 128 (by simp))]) (fun k _ => by rw [rM_fr (F.1 129 (h1 129 (by simp))) (F.1 130 (h1 130 (by simp)))]), h.2.2.2.2⟩
noncomputable def aOut (P : PV) (p : Int) (V : Nat → List Int) (D : List Frm) (fl : Nat → Int) : Rs := aBehind P p (aDo P p V D).1 (aDo P p V D).2.2 (aDo P p V D).2.1 fl
theorem m_doStatement {P : PV} (hP : POK P) {w : WS} {V : Nat → List Int} {D : List Frm} (h : RRn P w V D) {p : Int} (hp : 0 ≤ p ∧ p < sC P) (h71 : w 85 71 = 0) (h61 : w 85 61 = 0) : Ev (f_X9_doStatement p w) (fun _ w' => FX LGm SGm w w' ∧ RsR P (aOut P p V D (w 126)) w' ∧ w' 126 = (aOut P p V D (w 126)).2.2.2.2 ∧ RRn P w' (aOut P p V D (w 126)).2.2.2.1 (aOut P p V D (w 126)).2.2.1 ∧ w' 125 = bump (w 125) p.toNat ∧ w' 85 60 = w 85 60 + 1 ∧ w' 85 62 = p) := by
  have hc := hP.2.2.2.2.2.2.1
  have hT := hP.2.2.2.1
  obtain ⟨s1, s2, s3, s4, s5, s6, s7⟩ := hP.2.2.2.2.2.2.2.1 p hp.1 hp.2
  unfold f_X9_doStatement
  rw [wr_eq (a := p) (by omega)]
  refine Ev.pos (by first | (simp (disch := omega) only [wr_eq] <;> omega) | omega) ?_; refine Ev.pos (by first | (simp (disch := omega) only [wr_eq] <;> omega) | omega) ?_; refine Ev.pos (by first | (simp (disch := omega) only [wr_eq] <;> omega) | omega) ?_
  have F : FX [85, 125] [60, 62] w (up (up (up w 85 60 (w 85 60 + 1)) 125 p.toNat ((up w 85 60 (w 85 60 + 1)) 125 p.toNat + 1)) 85 62 p) := ((FX.rf.put 60 _ (by simp) (by simp)).oth 125 _ _ (by simp) (by omega)).put 62 _ (by simp) (by simp)
  have e60 : (up (up (up w 85 60 (w 85 60 + 1)) 125 p.toNat ((up w 85 60 (w 85 60 + 1)) 125 p.toNat + 1)) 85 62 p) 85 60 = w 85 60 + 1 := by rw [up_slot _ _ _ _ (by omega), up_row _ _ _ (by omega), up_same]
  have e62 : (up (up (up w 85 60 (w 85 60 + 1)) 125 p.toNat ((up w 85 60 (w 85 60 + 1)) 125 p.toNat + 1)) 85 62 p) 85 62 = p := up_same _ _ _ _
  have e125 : (up (up (up w 85 60 (w 85 60 + 1)) 125 p.toNat ((up w 85 60 (w 85 60 + 1)) 125 p.toNat + 1)) 85 62 p) 125 = bump (w 125) p.toNat := by
    rw [up_row _ _ _ (by omega), bump_up, up_row _ _ _ (by omega)]
  generalize up (up (up w 85 60 (w 85 60 + 1)) 125 p.toNat ((up w 85 60 (w 85 60 + 1)) 125 p.toNat + 1)) 85 62 p = w0 at F e60 e62 e125 ⊢
  have h0 : RRn P w0 V D := h.keep F (h.1.oth F (by decide) (by decide) (by decide)) (by decide) (by decide)
  have z71 : w0 85 71 = 0 := (F.2 71 (by simp)).trans h71
  have z61 : w0 85 61 = 0 := (F.2 61 (by simp)).trans h61
  have z126 : w0 126 = w 126 := F.1 126 (by simp)
  rw [show w0 114 p.toNat = sK P p from congrFun (h0.1.row 6) _, show w0 117 p.toNat = sT P p from congrFun (h0.1.row 9) _]
  -- from the world behind the doing to the end
  have fin : ∀ {w1 : WS} {V1 : Nat → List Int} {D1 : List Frm} {o : Int} {S : List Nat} {L : List Nat}, FX L S w0 w1 → (∀ c ∈ L, c ∈ LGm) → (∀ c ∈ S, c ∈ SGm) → (∀ k ∈ [60, 61, 62, 71], k ∉ S) → 125 ∉ L → 126 ∉ L → Ev (f_X9_doStatement_70 p (sK P p) o w1) (fun _ w' => StR P w1 (aOut P p V D (w 126)) w') → Ev (f_X9_doStatement_70 p (sK P p) o w1) (fun _ w' => FX LGm SGm w w' ∧ RsR P (aOut P p V D (w 126)) w' ∧ w' 126 = (aOut P p V D (w 126)).2.2.2.2 ∧ RRn P w' (aOut P p V D (w 126)).2.2.2.1 (aOut P p V D (w 126)).2.2.1 ∧ w' 125 = bump (w 125) p.toNat ∧ w' 85 60 = w 85 60 + 1 ∧ w' 85 62 = p) := by
    intro w1 V1 D1 o S L G gL gS g85 g125 g126 hE
    refine hE.mono ?_
    rintro v w' ⟨y1, y2, y3, y4, y5, y6, y7⟩
    exact ⟨((F.sub (by decide) (by decide)).tr (G.sub gL gS)).tr y1, y2, y3, y4, y5.trans ((G.1 125 g125).trans e125), y6.trans ((G.2 60 (g85 60 (by simp))).trans e60), y7.trans ((G.2 62 (g85 62 (by simp))).trans e62)⟩
  rcases s1 with hk | hk | hk
  · have eD : aDo P p V D = ((aAssign P p V).1, (aAssign P p V).2, D) := if_pos hk
    refine Ev.pos (by rw [hk]) ?_
    refine Ev.pos (by first | (simp (disch := omega) only [wr_eq] <;> omega) | omega) ?_
    refine Ev.bd (m_term hP h0.1 (s5 (by omega))) ?_
    rintro v w1 ⟨rfl, q1, q2, q3⟩
    have ok := pTm_ok hP h0.1.2.2.2 (sT P p)
    have G : FX [97, 98, 99] [] w0 w1 := FX.of q1 (by simp) (by simp)
    have h1 : RRn P w1 V D := h0.keep G q2 (by decide) (by simp)
    have x126 : w1 126 = w 126 := (G.1 126 (by simp)).trans z126
    refine fin (V1 := V) (D1 := D) G (by decide) (by simp) (by simp) (by simp) (by simp) ?_
    refine m_do70 hP h1 hp ((G.2 71 (by simp)).trans z71) ((G.2 61 (by simp)).trans z61) ok.1 (fun c => ?_) (fun c => ?_) (fun c k => absurd k (by omega)) (fun c k => absurd k (by omega)) (fun c _ => ⟨(pTm P V (sT P p)).2, q3 c, ok.2, ?_⟩)
    · unfold aOut
      rw [eD, x126]
      unfold aAssign aBehind
      rw [if_neg (by omega : ¬ (pTm P V (sT P p)).1 = 0)]
      exact if_pos c
    · unfold aOut
      rw [eD, x126]
      unfold aAssign aBehind
      rw [if_neg (by omega : ¬ (pTm P V (sT P p)).1 = 0)]
      show (if 0 < (pTm P V (sT P p)).1 then _ else if (pTm P V (sT P p)).1 = -2 then _ else aLv P D p (decide ((pTm P V (sT P p)).1 = 0)) V (w 126)) = _
      rw [if_neg (by omega), if_neg (by omega), decide_eq_false (by omega)]
    · unfold aOut
      rw [eD, x126]
      unfold aAssign aBehind
      rw [if_pos c]
      show (if (0 : Int) < 0 then _ else if (0 : Int) = -2 then _ else aLv P D p (decide ((0 : Int) = 0)) _ (w 126)) = _
      rw [if_neg (by omega), if_neg (by omega), decide_eq_true rfl]
  · have eD : aDo P p V D = ((aScan P p V).1, (aScan P p V).2, D) := (if_neg (by omega)).trans (if_pos hk)
    refine Ev.neg (by rw [hk]; decide) (Ev.pos (by rw [hk]) ?_)
    refine Ev.bd (m_doScan hP h0.1 hp hk) ?_
    rintro v w1 ⟨rfl, G, q2⟩
    have h1 : RRn P w1 (aScan P p V).2 D := h0.keep G q2 (by decide) (by decide)
    have x126 : w1 126 = w 126 := (G.1 126 (by decide)).trans z126
    have ok := aScan_code P hP p (V := V) (scan_vok hP hp hk h.1.2.2.2).2.1
    refine fin (V1 := V) (D1 := D) G (by decide) (by decide) (by decide) (by decide) (by decide) ?_
    refine m_do70 hP h1 hp ((G.2 71 (by decide)).trans z71) ((G.2 61 (by decide)).trans z61) ok (fun c => ?_) (fun c => ?_) (fun c k => absurd k (by omega)) (fun c _ => ?_) (fun c k => absurd k (by omega))
    · unfold aOut
      rw [eD, x126]
      unfold aBehind
      exact if_pos c
    · unfold aOut
      rw [eD, x126]
      unfold aBehind
      show (if 0 < (aScan P p V).1 then _ else if (aScan P p V).1 = -2 then _ else aLv P D p (decide ((aScan P p V).1 = 0)) _ (w 126)) = _
      rw [if_neg (by omega), if_neg (by omega), decide_eq_false (by omega)]
    · unfold aOut
      rw [eD, x126]
      unfold aBehind
      show (if 0 < (aScan P p V).1 then _ else if (aScan P p V).1 = -2 then _ else aLv P D p (decide ((aScan P p V).1 = 0)) _ (w 126)) = _
      rw [if_neg (by omega), if_neg (by omega), decide_eq_true c]
  · have eD : aDo P p V D = aCall P p V D := (if_neg (by omega)).trans (if_neg (by omega))
    refine Ev.neg (by rw [hk]; decide) (Ev.neg (by rw [hk]; decide) ?_)
    refine Ev.bd (m_doCall hP h0 hp hk) ?_
    rintro v w1 ⟨rfl, G, h1⟩
    have x126 : w1 126 = w 126 := (G.1 126 (by decide)).trans z126
    have cd := aDo_code hP h.1.2.2.2 D hp
    rw [eD] at cd
    refine fin (V1 := V) (D1 := D) G (by decide) (by decide) (by decide) (by decide) (by decide) ?_
    have n0 : (aCall P p V D).1 ≠ 0 := by
      unfold aCall
      by_cases c : (pTm P V (sT P p)).1 = 0
      · rw [if_pos c]
        by_cases c2 : fTd P (sP P p) = 1 ∧ D.length < 10
        · rw [if_pos c2]; exact fun q => absurd (show (-2 : Int) = 0 from q) (by decide)
        · rw [if_neg c2]; exact fun q => absurd (show (5 : Int) = 0 from q) (by decide)
      · rw [if_neg c]; exact c
    refine m_do70 hP h1 hp ((G.2 71 (by decide)).trans z71) ((G.2 61 (by decide)).trans z61) ?_ (fun c => ?_) (fun c => ?_) (fun c _ => ?_) (fun c k => absurd k (by omega)) (fun c k => absurd k (by omega))
    · split <;> omega
    · unfold aOut
      rw [eD, x126]
      unfold aBehind
      by_cases q : (aCall P p V D).1 = -2
      · rw [if_pos q] at c; exact absurd c (by omega)
      · rw [if_neg q] at c
        rw [if_neg q, if_neg q]
        exact if_pos c
    · unfold aOut
      rw [eD, x126]
      unfold aBehind
      by_cases q : (aCall P p V D).1 = -2
      · rw [if_pos q] at c; exact absurd c (by omega)
      · rw [if_neg q] at c
        rw [if_neg (by omega), if_neg q, decide_eq_false n0]
    · by_cases q : (aCall P p V D).1 = -2
      · refine ⟨(cd.2 q).2, ?_⟩
        unfold aOut
        rw [eD, x126, q]
      · rw [if_neg q] at c; exact absurd c n0
