theorem CRn.cb {P : PV} {w : WS} {V : Nat → List Int} {D : List Frm} (h : CRn P w V D) : CB P w V := h.1
/-- what the class's step leaves: the value's place or end, counts, calls, variables -/
def StC (P : PV) (w : WS) (R : Rs) (v : Int) (w' : WS) : Prop := FR w w' ∧ w' 80 = w 80 ∧ w' 76 12 = w 76 12 ∧ w' 76 13 = w 76 13 ∧ RsC P R (w 76 11) v w' ∧ w' 82 = R.2.2.2.2 ∧ CRn P w' R.2.2.2.1 R.2.2.1
theorem c_placeBehind {P : PV} (hP : POK P) {w : WS} {V : Nat → List Int} {D : List Frm} (h : CRn P w V D) {p o : Int} (hp : 0 ≤ p ∧ p < sC P) (ho : -2 ≤ o ∧ o ≤ 8) (h2 : o = -2 → sK P p = 99 ∧ fTd P (sP P p) = 1) : Ev (f_X7_placeBehind p o w) (StC P w (aBehind P p o D V (w 82))) := by
  have hc40 := hP.2.2.2.2.2.2.1
  have B := h.1
  have e57 : w 57 6 = sC P := congrFun (B.row 15) 3
  unfold f_X7_placeBehind aBehind
  by_cases c1 : 0 < o
  · rw [if_pos c1]
    refine Ev.pos (by first | (simp (disch := omega) only [wr_eq] <;> omega) | omega) ?_
    have F7 : Fr [76] w (up w 76 11 o) := Fr.rf.up (by simp)
    show Ev (some ((-2 : Int), up w 76 11 o)) _
    exact Ev.ret ⟨⟨F7.sub (by decide), fun q h1 _ _ _ => up_slot _ _ _ _ h1⟩, F7 80 (by simp), up_slot _ _ _ _ (by omega), up_slot _ _ _ _ (by omega), Or.inr (Or.inr ⟨rfl, rfl, up_same _ _ _ _⟩), F7 82 (by simp), h.fr F7 (by simp) (up_slot _ _ _ _ (by omega)) (up_slot _ _ _ _ (by omega))⟩
  rw [if_neg c1]
  refine Ev.neg (by first | (simp (disch := omega) only [wr_eq] <;> omega) | omega) ?_
  by_cases c2 : o = -2
  · rw [if_pos c2, c2]
    refine Ev.pos rfl ?_
    obtain ⟨k1, k2⟩ := h2 c2
    have hf := (hP.2.2.2.2.2.2.2.1 p hp.1 hp.2).2.2.2.2.2.2 k1
    obtain ⟨n0, -⟩ := (hP.2.2.2.2.2.2.2.2 (sP P p) hf.1 hf.2).2 k2
    have eP : w 63 = P.1 8 := B.row 8
    have eE : w 73 = P.1 13 := B.row 13
    have g2 : f_X1_get 62 p w = some (sP P p, w) := c_get40 62 rfl (by omega) eP
    have g3 : f_X1_get 72 (sP P p) w = some (fE P (sP P p), w) := by
      have := f_get (i := 72) (n := 5) (w := w) (x := sP P p) rfl (by omega) hf
      rw [eE] at this
      exact this
    refine Ev.obe g2 ?_
    refine Ev.obe g3 ?_
    rw [c_placeOf e57 hc40 ⟨n0.1, n0.2⟩]
    by_cases c3 : fE P (sP P p) < sC P
    · rw [if_pos c3, if_pos c3, ob_some]
      exact Ev.ret ⟨FR.rf, rfl, rfl, rfl, Or.inl ⟨rfl, rfl, ⟨n0.1, c3⟩, rfl⟩, rfl, h⟩
    · rw [if_neg c3, if_neg c3, ob_some]
      have F7 : Fr [76] w (up w 76 11 7) := Fr.rf.up (by simp)
      exact Ev.ret ⟨⟨F7.sub (by decide), fun q h1 _ _ _ => up_slot _ _ _ _ h1⟩, F7 80 (by simp), up_slot _ _ _ _ (by omega), up_slot _ _ _ _ (by omega), Or.inr (Or.inr ⟨rfl, rfl, up_same _ _ _ _⟩), F7 82 (by simp), h.fr F7 (by simp) (up_slot _ _ _ _ (by omega)) (up_slot _ _ _ _ (by omega))⟩
  rw [if_neg c2]
  refine Ev.neg (by first | (simp (disch := omega) only [wr_eq] <;> omega) | omega) ?_
  have lv : ∀ s : Int, (s = 0 ∨ s = 1) → decide (s = 1) = decide (o = 0) → Ev (f_X7_placeBehind_53 s p w) (StC P w (aLv P D p (decide (o = 0)) V (w 82))) := by
    intro s hs e
    unfold f_X7_placeBehind_53 f_X7_leave
    have := c_leave_loop hP D FU p s 0 w V (by have := h.2.2.1; unfold FU; omega) (by have := h.2.2.1; omega) hp hs h
    rw [e] at this
    refine Ev.bd this ?_
    intro v w' hq
    exact Ev.ret hq
  by_cases c3 : o = 0
  · refine Ev.pos (by first | (simp (disch := omega) only [wr_eq] <;> omega) | omega) ?_
    exact lv 1 (Or.inr rfl) (by rw [c3]; rfl)
  · refine Ev.neg (by first | (simp (disch := omega) only [wr_eq] <;> omega) | omega) ?_
    refine lv 0 (Or.inl rfl) ?_
    rw [decide_eq_false c3]
    rfl
theorem aScan_code (P : PV) (hP : POK P) (p : Int) {V : Nat → List Int} (h : VOK (scanV P p V)) : -1 ≤ (aScan P p V).1 ∧ (aScan P p V).1 ≤ 8 := by
  have ok := (pTm_ok hP h (sT P p)).1
  unfold aScan
  by_cases c1 : (scanE P p V).1 = 6
  · rw [if_pos c1]; exact ⟨by show (-1 : Int) ≤ 3; omega, by show (3 : Int) ≤ 8; omega⟩
  rw [if_neg c1]
  by_cases c2 : (scanE P p V).1 = 5
  · rw [if_pos c2]; exact ⟨by show (-1 : Int) ≤ -1; omega, by show (-1 : Int) ≤ 8; omega⟩
  rw [if_neg c2]
  by_cases c3 : sT P p = -1
  · rw [if_pos c3]; exact ⟨by show (-1 : Int) ≤ 0; omega, by show (0 : Int) ≤ 8; omega⟩
  rw [if_neg c3]
  by_cases c4 : (pTm P (scanV P p V) (sT P p)).1 = 0
  · rw [if_pos c4]
    by_cases c5 : 60 < (scanL P p V).length
    · rw [if_pos c5]; exact ⟨by show (-1 : Int) ≤ 4; omega, by show (4 : Int) ≤ 8; omega⟩
    · rw [if_neg c5]; exact ⟨by show (-1 : Int) ≤ 0; omega, by show (0 : Int) ≤ 8; omega⟩
  · rw [if_neg c4]; exact ok
theorem scan_vok {P : PV} (hP : POK P) {p : Int} (hp : 0 ≤ p ∧ p < sC P) (hk : sK P p = 115) {V : Nat → List Int} (hV : VOK V) : EOK (pE P (V (sV P p).toNat) (sP P p)) ∧ VOK (scanV P p V) ∧ VOK (vOf (scanE P p V)) ∧ AOK (pE P (V (sV P p).toNat) (sP P p)) (scanE P p V) ∧ 4 ≤ (scanE P p V).1 ∧ (scanE P p V).1 ≤ 6 := by
  have hPt := ((hP.2.2.2.2.2.2.2.1 p hp.1 hp.2).2.2.2.2.2.1 hk).1
  have hE := hP.E (hV (sV P p).toNat) hPt
  have hA := AOK.end_ hE (aSt0_ok (E := pE P (V (sV P p).toNat) (sP P p)) hV) (by show 3 ≤ 6; omega)
  exact ⟨hE, asgT_ok (hV _) _ hA.1.vok, hA.1.vok, hA.1, hA.2⟩
/-- a statement done -/
theorem c_do {P : PV} (hP : POK P) {w : WS} {V : Nat → List Int} {D : List Frm} (h : CRn P w V D) {p : Int} (hp : 0 ≤ p ∧ p < sC P) : (sK P p = 97 → Ev (f_X7_doAssignment p w) (fun v w' => v = (aDo P p V D).1 ∧ FR w w' ∧ w' 80 = w 80 ∧ w' 82 = w 82 ∧ (∀ k, k ≠ 14 → w' 76 k = w 76 k) ∧ CRn P w' (aDo P p V D).2.1 (aDo P p V D).2.2)) ∧ (sK P p = 115 → Ev (f_X7_doScan p w) (fun v w' => v = (aDo P p V D).1 ∧ FR w w' ∧ w' 80 = w 80 ∧ w' 82 = w 82 ∧ (∀ k, k ≠ 14 → w' 76 k = w 76 k) ∧ CRn P w' (aDo P p V D).2.1 (aDo P p V D).2.2)) ∧ (sK P p = 99 → Ev (f_X7_doCall p w) (fun v w' => v = (aDo P p V D).1 ∧ FR w w' ∧ w' 80 = w 80 ∧ w' 82 = w 82 ∧ (∀ k, k ≠ 14 → w' 76 k = w 76 k) ∧ CRn P w' (aDo P p V D).2.1 (aDo P p V D).2.2)) := by
  obtain ⟨hB, h14, hD10, hst, hDK⟩ := h
  have keep : ∀ {w' : WS} {V' : Nat → List Int} {L : List Nat}, Fr L w w' → 23 ∉ L → 24 ∉ L → 78 ∉ L → 76 ∉ L → CB P w' V' → CRn P w' V' D := by
    intro w' V' L F a1 a2 a3 a4 hb
    exact ⟨hb, by rw [F 76 a4]; exact h14, hD10, hst.mono (fun k _ => by rw [F 78 a3]) (fun k _ => by rw [rC_fr (F 23 a1) (F 24 a2)]), hDK⟩
  refine ⟨fun hk => ?_, fun hk => ?_, fun hk => ?_⟩
  · have e : aDo P p V D = ((aAssign P p V).1, (aAssign P p V).2, D) := if_pos hk
    rw [e]
    refine Ev.mono (c_doAssignment hP hB hp hk) ?_
    rintro v w' ⟨q1, q2, q3⟩
    exact ⟨q1, FR.of q2 (by decide) (by simp), q2 80 (by simp), q2 82 (by simp), fun k _ => by rw [q2 76 (by simp)], keep q2 (by simp) (by simp) (by simp) (by simp) q3⟩
  · have e : aDo P p V D = ((aScan P p V).1, (aScan P p V).2, D) := (if_neg (by omega)).trans (if_pos hk)
    rw [e]
    refine Ev.mono (c_doScan hP hB hp hk) ?_
    rintro v w' ⟨q1, q2, q3⟩
    exact ⟨q1, FR.of q2 (by decide) (by decide), q2 80 (by decide), q2 82 (by decide), fun k _ => by rw [q2 76 (by decide)], keep q2 (by decide) (by decide) (by decide) (by decide) q3⟩
  · have e : aDo P p V D = aCall P p V D := (if_neg (by omega)).trans (if_neg (by omega))
    rw [e]
    refine Ev.mono (c_doCall hP ⟨hB, h14, hD10, hst, hDK⟩ hp hk) ?_
    rintro v w' ⟨q1, q2, q3, q4⟩
    exact ⟨q1, ⟨q2.sub (by decide), fun k _ _ _ h4 => q3 k h4⟩, q2 80 (by decide), q2 82 (by decide), q3, q4⟩
theorem aDo_code {P : PV} (hP : POK P) {V : Nat → List Int} (hV : VOK V) (D : List Frm) {p : Int} (hp : 0 ≤ p ∧ p < sC P) : (-2 ≤ (aDo P p V D).1 ∧ (aDo P p V D).1 ≤ 8) ∧ ((aDo P p V D).1 = -2 → sK P p = 99 ∧ fTd P (sP P p) = 1) := by
  have hs := (hP.2.2.2.2.2.2.2.1 p hp.1 hp.2).1
  have ok := (pTm_ok hP hV (sT P p)).1
  rcases hs with hk | hk | hk
  · have e : (aDo P p V D).1 = (aAssign P p V).1 := by unfold aDo; rw [if_pos hk]
    have e2 : -1 ≤ (aAssign P p V).1 ∧ (aAssign P p V).1 ≤ 8 := by
      unfold aAssign
      by_cases c : (pTm P V (sT P p)).1 = 0
      · rw [if_pos c]; exact ⟨by show (-1 : Int) ≤ 0; omega, by show (0 : Int) ≤ 8; omega⟩
      · rw [if_neg c]; exact ok
    rw [e]
    exact ⟨by omega, fun q => by omega⟩
  · have e : (aDo P p V D).1 = (aScan P p V).1 := by unfold aDo; rw [if_neg (by omega), if_pos hk]
    have e2 := aScan_code P hP p (V := V) (scan_vok hP hp hk hV).2.1
    rw [e]
    exact ⟨by omega, fun q => by omega⟩
  · have e : (aDo P p V D).1 = (aCall P p V D).1 := by unfold aDo; rw [if_neg (by omega), if_neg (by omega)]
    rw [e]
    unfold aCall
    by_cases c : (pTm P V (sT P p)).1 = 0
    · rw [if_pos c]
      by_cases c2 : fTd P (sP P p) = 1 ∧ D.length < 10
      · rw [if_pos c2]
        exact ⟨⟨by show (-2 : Int) ≤ -2; omega, by show (-2 : Int) ≤ 8; omega⟩, fun _ => ⟨hk, c2.1⟩⟩
      · rw [if_neg c2]
        exact ⟨⟨by show (-2 : Int) ≤ 5; omega, by show (5 : Int) ≤ 8; omega⟩, fun q => absurd (show (5 : Int) = -2 from q) (by decide)⟩
    · rw [if_neg c]
      refine ⟨by show -2 ≤ (pTm P V (sT P p)).1 ∧ (pTm P V (sT P p)).1 ≤ 8; omega, fun q => ?_⟩
      have q : (pTm P V (sT P p)).1 = -2 := q
      omega
def RnC (P : PV) (w : WS) (R : RR) (v : Int) (w' : WS) : Prop := FR w w' ∧ v = R.1 ∧ w' 76 11 = R.2.1 ∧ w' 76 12 = R.2.2.1 ∧ w' 76 13 = R.2.2.2.1 ∧ CRn P w' R.2.2.2.2.2.1 R.2.2.2.2.1 ∧ w' 80 = R.2.2.2.2.2.2.1 ∧ w' 82 = R.2.2.2.2.2.2.2
theorem c_go_loop {P : PV} (hP : POK P) (most : Nat) (hm : most ≤ 1000) (n : Nat) : ∀ (m step : Nat) (p : Int) (w : WS) (V : Nat → List Int) (D : List Frm), n < m → n + step = most → (0 ≤ p ∧ p < sC P) → CRn P w V D → w 76 11 = 0 → Ev (f_X7_go_45 m most p step w) (RnC P w (aRun P n p D V (w 80) (w 82) (w 76 12) (w 76 13))) := by
  have hc40 := hP.2.2.2.2.2.2.1
  induction n with
  | zero =>
    intro m step p w V D h1 h2 hp h h11
    obtain ⟨m, rfl⟩ : ∃ j, m = j + 1 := ⟨m - 1, by omega⟩
    rw [f_X7_go_45_s]
    refine Ev.neg (by first | (simp (disch := omega) only [wr_eq] <;> omega) | omega) ?_
    exact Ev.ret ⟨FR.rf, rfl, h11, rfl, rfl, h, rfl, rfl⟩
  | succ n ih =>
    intro m step p w V D h1 h2 hp h h11
    obtain ⟨m, rfl⟩ : ∃ j, m = j + 1 := ⟨m - 1, by omega⟩
    rw [f_X7_go_45_s]
    refine Ev.pos (by first | (simp (disch := omega) only [wr_eq] <;> omega) | omega) ?_
    -- counted
    have F0 : Fr [76] w (up (up w 76 12 p) 76 13 ((up w 76 12 p) 76 13 + 1)) := (Fr.rf.up (by simp)).up (by simp)
    have s0 : ∀ k, k ≠ 12 → k ≠ 13 → (up (up w 76 12 p) 76 13 ((up w 76 12 p) 76 13 + 1)) 76 k = w 76 k := fun k a b => by rw [up_slot _ _ _ _ b, up_slot _ _ _ _ a]
    have l0 : (up (up w 76 12 p) 76 13 ((up w 76 12 p) 76 13 + 1)) 76 12 = p := by rw [up_slot _ _ _ _ (by omega), up_same]
    have m0 : (up (up w 76 12 p) 76 13 ((up w 76 12 p) 76 13 + 1)) 76 13 = w 76 13 + 1 := by rw [up_same, up_slot _ _ _ _ (by omega)]
    have C0 := h.fr F0 (by simp) (s0 9 (by omega) (by omega)) (s0 14 (by omega) (by omega))
    generalize up (up w 76 12 p) 76 13 ((up w 76 12 p) 76 13 + 1) = w0 at F0 s0 l0 m0 C0 ⊢
    refine Ev.obe (f_increase (i := 79) (n := 40) rfl (by omega) (by omega)) ?_
    have F1 : Fr [80] w0 (up w0 (79 + 1) p.toNat (w0 (79 + 1) p.toNat + 1)) := Fr.rf.up (by simp)
    have b1 : (up w0 (79 + 1) p.toNat (w0 (79 + 1) p.toNat + 1)) 80 = bump (w 80) p.toNat := by rw [← F0 80 (by simp)]; exact bump_up w0 80 p.toNat
    have C1 := C0.fr F1 (by simp) (by rw [F1 76 (by simp)]) (by rw [F1 76 (by simp)])
    have f82 : (up w0 (79 + 1) p.toNat (w0 (79 + 1) p.toNat + 1)) 82 = w 82 := (F1 82 (by simp)).trans (F0 82 (by simp))
    have s1 : ∀ k, (up w0 (79 + 1) p.toNat (w0 (79 + 1) p.toNat + 1)) 76 k = w0 76 k := fun k => by rw [F1 76 (by simp)]
    generalize up w0 (79 + 1) p.toNat (w0 (79 + 1) p.toNat + 1) = w1 at F1 b1 C1 f82 s1 ⊢
    have F01 : FR w w1 := ⟨(F0.sub (by decide)).tr (F1.sub (by decide)), fun k _ h2 h3 _ => (s1 k).trans (s0 k h2 h3)⟩
    have eK : w1 59 = P.1 6 := C1.1.row 6
    have gK : f_X1_get 58 p w1 = some (sK P p, w1) := c_get40 58 rfl (by omega) eK
    refine Ev.obe gK ?_
    obtain ⟨code1, code2⟩ := aDo_code hP C1.1.2.2.2 D hp
    obtain ⟨d1, d2, d3⟩ := c_do hP C1 hp
    -- behind the statement
    have tail : ∀ (o : Int) (w2 : WS), o = (aDo P p V D).1 → FR w1 w2 → w2 80 = w1 80 → w2 82 = w1 82 → (∀ k, k ≠ 14 → w2 76 k = w1 76 k) → CRn P w2 (aDo P p V D).2.1 (aDo P p V D).2.2 → Ev (f_X7_go_146 (fun x0 x1 x2 x => f_X7_go_45 m x0 x1 x2 x) most p step o w2) (RnC P w (aRun P (n + 1) p D V (w 80) (w 82) (w 76 12) (w 76 13))) := by
      intro o w2 ho t1 t2 t3 t4 t5
      subst ho
      unfold f_X7_go_146
      have pb := c_placeBehind hP t5 hp code1 code2
      rw [t3, f82] at pb
      refine Ev.bd pb ?_
      rintro v w3 ⟨y1, y2, y3, y4, y5, y6, y7⟩
      have F3 : FR w w3 := (F01.tr t1).tr y1
      have z80 : w3 80 = bump (w 80) p.toNat := y2.trans (t2.trans b1)
      have z12 : w3 76 12 = p := y3.trans ((t4 12 (by omega)).trans ((s1 12).trans l0))
      have z13 : w3 76 13 = w 76 13 + 1 := y4.trans ((t4 13 (by omega)).trans ((s1 13).trans m0))
      have z11 : w2 76 11 = 0 := (t4 11 (by omega)).trans ((s1 11).trans ((s0 11 (by omega) (by omega)).trans h11))
      unfold RsC at y5
      rw [z11] at y5
      have eR : ∀ k : Nat, aRun P (k + 1) p D V (w 80) (w 82) (w 76 12) (w 76 13) = (if (aBehind P p (aDo P p V D).1 (aDo P p V D).2.2 (aDo P p V D).2.1 (w 82)).1 = 1 then (100, 0, p, w 76 13 + 1, (aBehind P p (aDo P p V D).1 (aDo P p V D).2.2 (aDo P p V D).2.1 (w 82)).2.2.1, (aBehind P p (aDo P p V D).1 (aDo P p V D).2.2 (aDo P p V D).2.1 (w 82)).2.2.2.1, bump (w 80) p.toNat, (aBehind P p (aDo P p V D).1 (aDo P p V D).2.2 (aDo P p V D).2.1 (w 82)).2.2.2.2) else if (aBehind P p (aDo P p V D).1 (aDo P p V D).2.2 (aDo P p V D).2.1 (w 82)).1 = 2 then (120, (aBehind P p (aDo P p V D).1 (aDo P p V D).2.2 (aDo P p V D).2.1 (w 82)).2.1, p, w 76 13 + 1, (aBehind P p (aDo P p V D).1 (aDo P p V D).2.2 (aDo P p V D).2.1 (w 82)).2.2.1, (aBehind P p (aDo P p V D).1 (aDo P p V D).2.2 (aDo P p V D).2.1 (w 82)).2.2.2.1, bump (w 80) p.toNat, (aBehind P p (aDo P p V D).1 (aDo P p V D).2.2 (aDo P p V D).2.1 (w 82)).2.2.2.2) else aRun P k (aBehind P p (aDo P p V D).1 (aDo P p V D).2.2 (aDo P p V D).2.1 (w 82)).2.1 (aBehind P p (aDo P p V D).1 (aDo P p V D).2.2 (aDo P p V D).2.1 (w 82)).2.2.1 (aBehind P p (aDo P p V D).1 (aDo P p V D).2.2 (aDo P p V D).2.1 (w 82)).2.2.2.1 (bump (w 80) p.toNat) (aBehind P p (aDo P p V D).1 (aDo P p V D).2.2 (aDo P p V D).2.1 (w 82)).2.2.2.2 p (w 76 13 + 1)) := fun _ => rfl
      rw [eR]
      generalize aBehind P p (aDo P p V D).1 (aDo P p V D).2.2 (aDo P p V D).2.1 (w 82) = R at *
      rcases y5 with ⟨r1, r2, r3, r4⟩ | ⟨r1, r2, r4⟩ | ⟨r1, r2, r4⟩
      · rw [if_neg (by omega : ¬ R.1 = 1), if_neg (by omega : ¬ R.1 = 2)]
        refine Ev.neg (by first | (simp (disch := omega) only [wr_eq] <;> omega) | omega) ?_; refine Ev.neg (by first | (simp (disch := omega) only [wr_eq] <;> omega) | omega) ?_
        have ek : ((step : Int) + 1) = ((step + 1 : Nat) : Int) := by omega
        rw [ek]
        have key := ih m (step + 1) v w3 R.2.2.2.1 R.2.2.1 (by omega) (by omega) r3 y7 r4
        rw [z80, y6, z12, z13, r2] at key
        rw [r2]
        refine Ev.mono key ?_
        rintro v w4 ⟨x1, x2⟩
        exact ⟨F3.tr x1, x2⟩
      · rw [if_pos r1, r2]
        exact Ev.pos rfl (Ev.ret ⟨F3, rfl, r4, z12, z13, y7, z80, y6⟩)
      · rw [if_neg (by omega : ¬ R.1 = 1), if_pos r1, r2]
        exact Ev.neg (by decide) (Ev.pos rfl (Ev.ret ⟨F3, rfl, r4, z12, z13, y7, z80, y6⟩))
    have hs := (hP.2.2.2.2.2.2.2.1 p hp.1 hp.2).1
    rcases hs with hk | hk | hk
    · rw [hk]
      refine Ev.pos rfl (Ev.bd (d1 hk) ?_)
      rintro v w2 ⟨u1, u2, u3, u4, u5, u6⟩
      exact tail v w2 u1 u2 u3 u4 u5 u6
    · rw [hk]
      refine Ev.neg (by decide) (Ev.pos rfl (Ev.bd (d2 hk) ?_))
      rintro v w2 ⟨u1, u2, u3, u4, u5, u6⟩
      exact tail v w2 u1 u2 u3 u4 u5 u6
    · rw [hk]
      refine Ev.neg (by decide) (Ev.neg (by decide) (Ev.bd (d3 hk) ?_))
      rintro v w2 ⟨u1, u2, u3, u4, u5, u6⟩
      exact tail v w2 u1 u2 u3 u4 u5 u6
