def LSc : List Nat := [8, 9, 14, 15, 17, 18, 20, 21, 39, 40, 41, 42, 43, 44, 45, 46, 47, 49, 50, 51, 52, 53, 56]
theorem CB.fr {P : PV} {w w' : WS} {V V' : Nat → List Int} (h : CB P w V) {L : List Nat} (F : Fr L w w') (hL : ∀ c ∈ LPc, c ∉ L) (h76 : w' 76 9 = w 76 9) (o13 : RO w' 13 60 1) (o16 : RO w' 16 60 50) (o19 : RO w' 19 60 1) (o22 : RO w' 22 60 30) (hv : VC w' V') (vv : VOK V') : CB P w' V' := by
  refine ⟨by rw [h76, pvC.fr F hL]; exact h.1, ⟨RO_fr (F 6 (hL 6 (by decide))) h.2.1.1, o13, o16, o19, o22⟩, hv, vv⟩
theorem RepC.md4 {E : EV} {st : MS} {w : WS} (h : RepC E st w) (hm : st.1 = 4) : EC E w ∧ VC w (vOf st) ∧ tkC w (tOf st) ∧ w 39 11 = sOf st ∧ w 39 14 = cOf st ∧ w 39 12 = bOf st := by
  obtain ⟨md, g, c, K, C, T, b, V, s⟩ := st
  have hm : md = 4 := hm
  subst hm
  exact ⟨h.1.1, h.1.2.2.2.1, h.1.2.2.2.2.2.1, h.1.2.2.1, h.2.2.1, h.1.2.1⟩
theorem AOK.md4 {E : EV} {st : MS} (h : AOK E st) (hm : st.1 = 4) : TOK E (tOf st) ∧ ((tOf st).length : Int) ≤ 3000 ∧ 0 ≤ sOf st ∧ sOf st ≤ cOf st ∧ cOf st ≤ (eS E).length := by
  obtain ⟨md, g, c, K, C, T, b, V, s⟩ := st
  have hm : md = 4 := hm
  subst hm
  obtain ⟨⟨g1, g2, g3, g4, g5, g6, g7, g8⟩, hb, hK, hKC, hs, hc, -⟩ := h
  exact ⟨g8, by show (T.length : Int) ≤ 3000; omega, hs.1, hs.2, hc⟩
theorem RepC.md56 {E : EV} {st : MS} {w : WS} (h : RepC E st w) (hm : st.1 = 5 ∨ st.1 = 6) : EC E w ∧ VC w (vOf st) := by
  obtain ⟨md, g, c, K, C, T, b, V, s⟩ := st
  rcases hm with hm | hm
  · have hm : md = 5 := hm
    subst hm
    exact ⟨h.1, h.2.2⟩
  · have hm : md = 6 := hm
    subst hm
    exact h
theorem c_doScan {P : PV} (hP : POK P) {w : WS} {V : Nat → List Int} (h : CB P w V) {p : Int} (hp : 0 ≤ p ∧ p < sC P) (hk : sK P p = 115) : Ev (f_X7_doScan p w) (fun v w' => v = (aScan P p V).1 ∧ Fr LSc w w' ∧ CB P w' (aScan P p V).2) := by
  have hs := hP.2.2.2.2.2.2.2.1 p hp.1 hp.2
  have hc := hP.2.2.2.2.2.2.1
  obtain ⟨s1, s2, s3, s4, s5, s6, s7⟩ := hs
  obtain ⟨hPt, hT⟩ := s6 hk
  have eV : w 61 = P.1 7 := h.row 7
  have eP : w 63 = P.1 8 := h.row 8
  have e0 : w 27 = P.1 0 := h.row 0
  have e1 : w 29 = P.1 1 := h.row 1
  have e2 : w 31 = P.1 2 := h.row 2
  have e15 : w 76 9 = P.1 15 0 := congrFun (h.row 15) 0
  have hVs := h.2.2.2 (sV P p).toNat
  have hEOK : EOK (pE P (V (sV P p).toNat) (sP P p)) := hP.E hVs hPt
  have hA0 := aSt0_ok (E := pE P (V (sV P p).toNat) (sP P p)) h.2.2.2
  have hAe := AOK.end_ hEOK hA0 (by show 3 ≤ 6; omega)
  have g1 : f_X1_get 60 p w = some (sV P p, w) := c_get40 60 rfl (by omega) eV
  have g2 : f_X1_get 62 p w = some (sP P p, w) := c_get40 62 rfl (by omega) eP
  unfold f_X7_doScan aScan
  refine Ev.obe g1 ?_
  refine Ev.obe g2 ?_
  have pre := c_prepare RI_7 h.2.2.1.2 h.2.1.1 h.2.1.2.1 h.2.2.1.2 (r := sV P p) (p := sP P p) (an := w 76 9) s2 (by omega) (by rw [e15]; exact hP.2.2.2.2.2.1) (pN P)
  rw [e0, e1, e2, h.texts, h.2.2.1.1] at pre
  have eE : (P.1 0, P.1 1, P.1 2, P.2, V (sV P p).toNat, w 76 9, sP P p, pN P) = pE P (V (sV P p).toNat) (sP P p) := by rw [e15]; rfl
  rw [eE] at pre
  refine Ev.bd pre ?_
  rintro v w3 ⟨-, q1, q2⟩
  refine Ev.bd (c_seek hEOK hA0 q2 (Or.inr rfl)) ?_
  rintro v w4 ⟨hv, q3, q4⟩
  have F4 : Fr LSc w w4 := (q1.sub (by decide)).tr (q4.sub (by decide))
  have hse : scanE P p V = aEnd (pE P (V (sV P p).toNat) (sP P p)) (aSt0 V) := rfl
  have hsv : scanV P p V = asgT (V (sV P p).toNat) (vOf (scanE P p V)) (tOf (scanE P p V)) := rfl
  have hsl : scanL P p V = aRep (V (sV P p).toNat) (sOf (scanE P p V)) (cOf (scanE P p V)) (pTm P (scanV P p V) (sT P p)).2 := rfl
  rw [← hse] at hv q3 hAe
  generalize scanE P p V = R at *
  have o16 : RO w4 16 60 50 := RO_fr ((q4 18 (by decide)).trans (q1 18 (by simp))) h.2.1.2.2.1
  have o19 : RO w4 19 60 1 := RO_fr ((q4 21 (by decide)).trans (q1 21 (by simp))) h.2.1.2.2.2.1
  have o22 : RO w4 22 60 30 := RO_fr (F4 24 (by decide)) h.2.1.2.2.2.2
  have h76 : w4 76 = w 76 := F4 76 (by decide)
  rw [hv]
  by_cases m6 : R.1 = 6
  · rw [if_pos m6, m6]
    obtain ⟨r1, r2⟩ := q3.md56 (Or.inr m6)
    refine Ev.pos rfl (Ev.ret ⟨rfl, F4, h.fr F4 (by decide) (by rw [h76]) r1.2.2.2.2.2.2.1 o16 o19 o22 r2 hAe.1.vok⟩)
  rw [if_neg m6]
  by_cases m5 : R.1 = 5
  · rw [if_pos m5, m5]
    obtain ⟨r1, r2⟩ := q3.md56 (Or.inl m5)
    refine Ev.neg (by decide) (Ev.neg (by decide) (Ev.ret ⟨rfl, F4, h.fr F4 (by decide) (by rw [h76]) r1.2.2.2.2.2.2.1 o16 o19 o22 r2 hAe.1.vok⟩))
  rw [if_neg m5]
  have m4 : R.1 = 4 := by omega
  rw [m4]
  refine Ev.neg (by decide) (Ev.pos rfl ?_)
  obtain ⟨r1, r2, r3, r4, r5, r6⟩ := q3.md4 m4
  obtain ⟨a1, a2, a3, a4, a5⟩ := hAe.1.md4 m4
  have hlS : (eS (pE P (V (sV P p).toNat) (sP P p))).length ≤ 60 := hVs.2
  refine Ev.bd (c_assignTaken hlS a1 (by omega) r1 r2 r3) ?_
  rintro v w5 ⟨-, t1, t2⟩
  have F5 : Fr LSc w w5 := F4.tr (t1.sub (by decide))
  have t2 : VC w5 (scanV P p V) := by rw [hsv]; exact t2
  have v5 : VOK (scanV P p V) := by rw [hsv]; exact asgT_ok hVs _ hAe.1.vok
  have B5 : CB P w5 (scanV P p V) := h.fr F5 (by decide) (by rw [t1 76 (by simp), h76]) (RO_fr (t1 15 (by simp)) r1.2.2.2.2.2.2.1) (RO_fr (t1 18 (by simp)) o16) (RO_fr (t1 21 (by simp)) o19) (RO_fr (t1 24 (by simp)) o22) t2 v5
  have E5 : EC (pE P (V (sV P p).toNat) (sP P p)) w5 := r1.fr (t1.sub (by decide)) (by rw [t1 39 (by simp)]) (by rw [t1 39 (by simp)]) (by rw [t1 39 (by simp)])
  have eT5 : w5 65 = P.1 9 := B5.row 9
  have g3 : f_X1_get 64 p w5 = some (sT P p, w5) := c_get40 64 rfl (by omega) eT5
  refine Ev.obe g3 ?_
  by_cases c1 : sT P p = -1
  · rw [if_pos c1]
    refine Ev.pos (by rw [c1]) (Ev.ret ⟨rfl, F5, B5⟩)
  rw [if_neg c1]
  have hT1 : 0 ≤ sT P p ∧ sT P p < tN P := by omega
  have ht50 := hP.2.2.2.1
  refine Ev.neg (by first | (simp (disch := omega) only [wr_eq] <;> omega) | omega) ?_
  refine Ev.bd (c_term hP B5 hT1) ?_
  rintro v w6 ⟨rfl, p1, p2, p3⟩
  have F6 : Fr LSc w w6 := F5.tr (p1.sub (by decide))
  have ok := pTm_ok hP v5 (sT P p)
  by_cases c2 : (pTm P (scanV P p V) (sT P p)).1 = 0
  · rw [if_pos c2]
    have p3 := p3 c2
    rw [c2]
    refine Ev.pos rfl ?_
    have E6 : EC (pE P (V (sV P p).toNat) (sP P p)) w6 := by
      obtain ⟨u1, u2, u3, u4, u5, u6, u7, u8, u9, u10⟩ := E5
      refine ⟨(p1 27 (by simp)).trans u1, (p1 29 (by simp)).trans u2, (p1 31 (by simp)).trans u3, (rC_fr (p1 5 (by simp)) (p1 6 (by simp))).trans u4, RO_fr (p1 6 (by simp)) u5, (congrFun (rC_fr (p1 14 (by simp)) (p1 15 (by simp))) 0).trans u6, RO_fr (p1 15 (by simp)) u7, ?_, ?_, ?_⟩
      · rw [p1 39 (by simp)]; exact u8
      · rw [p1 39 (by simp)]; exact u9
      · rw [p1 39 (by simp)]; exact u10
    have s11 : w6 39 11 = sOf R := by rw [p1 39 (by simp), t1 39 (by simp)]; exact r4
    have s14 : w6 39 14 = cOf R := by rw [p1 39 (by simp), t1 39 (by simp)]; exact r5
    have rep := c_replace E6 hlS p2.2.1.2.2.2.1 p2.2.1.2.2.1 s11 s14 ⟨a3, a4, a5⟩ (r := sT P p) (by omega) p3
    refine Ev.bd rep ?_
    rintro v w7 ⟨z1, z2, z3, z4⟩
    have F7 : Fr LSc w w7 := F6.tr (z1.sub (by decide))
    have B7 : CB P w7 (scanV P p V) := p2.fr z1 (by decide) (by rw [z1 76 (by simp)]) (RO_fr (z1 15 (by simp)) p2.2.1.2.1) (RO_fr (z1 18 (by simp)) p2.2.1.2.2.1) z2 (RO_fr (z1 24 (by simp)) p2.2.1.2.2.2.2) (p2.2.2.1.fr (z1 8 (by simp)) (z1 9 (by simp))) v5
    have eL : aRep (eS (pE P (V (sV P p).toNat) (sP P p))) (sOf R) (cOf R) (pTm P (scanV P p V) (sT P p)).2 = scanL P p V := hsl.symm
    rw [eL] at z3 z4
    by_cases c3 : 60 < (scanL P p V).length
    · rw [if_pos c3] at z3 ⊢
      rw [z3]
      exact Ev.pos rfl (Ev.ret ⟨rfl, F7, B7⟩)
    · rw [if_neg c3] at z3 ⊢
      have z4 := z4 z3
      rw [z3]
      refine Ev.neg (by decide) ?_
      have sL : SO (scanL P p V) := by
        rw [hsl]
        intro x hx
        unfold aRep at hx
        rcases List.mem_append.mp hx with hx | hx
        · rcases List.mem_append.mp hx with hx | hx
          · exact hVs.1 x (List.mem_of_mem_take hx)
          · exact ok.2.1 x hx
        · exact hVs.1 x (List.mem_of_mem_drop hx)
      have z4 : rC w7 19 60 (0 : Int).toNat = scanL P p V := z4
      refine Ev.bd (c_setVar B7 RI_19 z2 (v := sV P p) (r := 0) s2 (by omega) (by omega) z4 ⟨sL, by omega⟩) ?_
      rintro x w8 ⟨y1, y2⟩
      exact Ev.ret ⟨rfl, F7.tr (y1.sub (by decide)), y2⟩
  · rw [if_neg c2]
    refine Ev.neg (by first | (simp (disch := omega) only [wr_eq] <;> omega) | omega) ?_
    exact Ev.ret ⟨rfl, F6, p2⟩
