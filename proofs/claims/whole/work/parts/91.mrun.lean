/-! the reference's runner, statement by statement -/
def nmR (w : WS) (k : Nat) : Int := if k % 3 = 0 then w 122 (k / 3) else if k % 3 = 1 then w 123 (k / 3) else w 124 (k / 3)
def pvR (w : WS) : PV := (fun i => match i with
  | 0 => w 91
  | 1 => w 92
  | 2 => w 93
  | 3 => w 94
  | 4 => w 95
  | 5 => w 96
  | 6 => w 114
  | 7 => w 115
  | 8 => w 116
  | 9 => w 117
  | 10 => w 118
  | 11 => w 119
  | 12 => w 120
  | 13 => w 121
  | 14 => nmR w
  | _ => fun j => match j with
    | 0 => w 85 21
    | 1 => w 85 11
    | 2 => w 85 15
    | _ => w 85 51, rM w 87 88 20)
def LPr : List Nat := [91, 92, 93, 94, 95, 96, 114, 115, 116, 117, 118, 119, 120, 121, 122, 123, 124, 87, 88]
/-- cells L alone may change, and of cell 85 the slots S alone -/
def FX (L S : List Nat) (w w' : WS) : Prop := Fr L w w' ∧ ∀ k, k ∉ S → w' 85 k = w 85 k
theorem FX.rf {L S : List Nat} {w : WS} : FX L S w w := ⟨Fr.rf, fun _ _ => rfl⟩
theorem FX.tr {L S : List Nat} {a b c : WS} (h : FX L S a b) (k : FX L S b c) : FX L S a c := ⟨h.1.tr k.1, fun q hq => (k.2 q hq).trans (h.2 q hq)⟩
theorem FX.sub {L S L' S' : List Nat} {a b : WS} (h : FX L S a b) (hL : ∀ c ∈ L, c ∈ L') (hS : ∀ c ∈ S, c ∈ S') : FX L' S' a b := ⟨h.1.sub hL, fun q hq => h.2 q (fun z => hq (hS q z))⟩
theorem FX.of {L S : List Nat} {a b : WS} {L' : List Nat} (h : Fr L' a b) (hL : ∀ c ∈ L', c ∈ L) (h85 : 85 ∉ L') : FX L S a b := ⟨h.sub hL, fun q _ => by rw [h 85 h85]⟩
theorem FX.put {L S : List Nat} {a b : WS} (h : FX L S a b) (k : Nat) (v : Int) (h85 : 85 ∈ L) (hk : k ∈ S) : FX L S a (up b 85 k v) := ⟨h.1.up h85, fun q hq => by
  have e : q ≠ k := fun e => hq (by rw [e]; exact hk)
  rw [up_slot _ _ _ _ e]
  exact h.2 q hq⟩
theorem FX.oth {L S : List Nat} {a b : WS} (h : FX L S a b) (c k : Nat) (v : Int) (hc : c ∈ L) (h85 : 85 ≠ c) : FX L S a (up b c k v) := ⟨h.1.up hc, fun q hq => by
  rw [up_row _ _ _ h85]
  exact h.2 q hq⟩
theorem pvR.fr {w w' : WS} {L S : List Nat} (F : FX L S w w') (h : ∀ c ∈ LPr, c ∉ L) (hS : ∀ k ∈ [21, 11, 15, 51], k ∉ S) : pvR w' = pvR w := by
  have e : ∀ c, c ∈ LPr → w' c = w c := fun c hc => F.1 c (h c hc)
  have s : ∀ k, k ∈ [21, 11, 15, 51] → w' 85 k = w 85 k := fun k hk => F.2 k (hS k hk)
  have en : nmR w' = nmR w := by
    funext k
    unfold nmR
    rw [e 122 (by decide), e 123 (by decide), e 124 (by decide)]
  unfold pvR
  rw [e 91 (by decide), e 92 (by decide), e 93 (by decide), e 94 (by decide), e 95 (by decide), e 96 (by decide), e 114 (by decide), e 115 (by decide), e 116 (by decide), e 117 (by decide), e 118 (by decide), e 119 (by decide), e 120 (by decide), e 121 (by decide), en, s 21 (by simp), s 11 (by simp), s 15 (by simp), s 51 (by simp), rM_fr (e 87 (by decide)) (e 88 (by decide))]
/-- the reference's world holds the program and the variables -/
def RB (P : PV) (w : WS) (V : Nat → List Int) : Prop := pvR w = P ∧ (RM w 88 20 30 ∧ RM w 99 60 50 ∧ RM w 130 60 30) ∧ VM w V ∧ VOK V
theorem RB.row {P : PV} {w : WS} {V : Nat → List Int} (h : RB P w V) (i : Nat) : (pvR w).1 i = P.1 i := by rw [h.1]
theorem RB.texts {P : PV} {w : WS} {V : Nat → List Int} (h : RB P w V) : rM w 87 88 20 = P.2 := congrArg Prod.snd h.1
theorem RB.fr {P : PV} {w w' : WS} {V V' : Nat → List Int} (h : RB P w V) {L S : List Nat} (F : FX L S w w') (hL : ∀ c ∈ LPr, c ∉ L) (hS : ∀ k ∈ [21, 11, 15, 51], k ∉ S) (o99 : RM w' 99 60 50) (o130 : RM w' 130 60 30) (hv : VM w' V') (vv : VOK V') : RB P w' V' := ⟨by rw [pvR.fr F hL hS]; exact h.1, ⟨RM_fr (F.1 88 (hL 88 (by decide))) h.2.1.1, o99, o130⟩, hv, vv⟩
theorem m_term {P : PV} (hP : POK P) {w : WS} {V : Nat → List Int} (h : RB P w V) {t : Int} (ht : 0 ≤ t ∧ t < tN P) : Ev (f_X9_workOut t w) (fun v w' => v = (pTm P V t).1 ∧ Fr [97, 98, 99] w w' ∧ RB P w' V ∧ (v = 0 → rM w' 98 99 60 t.toNat = (pTm P V t).2)) := by
  have e3 : w 94 = P.1 3 := h.row 3
  have e4 : w 95 = P.1 4 := h.row 4
  have e5 : w 96 = P.1 5 := h.row 5
  have eT := h.texts
  refine Ev.mono (m_workOut (n := (tN P).toNat) (by omega) (by have := hP.2.2.2.1; omega) (by rw [e3, e4, e5]; exact hP.2.2.1) h.2.1.2.1 h.2.1.1 h.2.2.1.2 (fun r => by rw [eT]; exact (hP.2.2.2.2.1 r).1) (fun r => by rw [h.2.2.1.1]; exact (h.2.2.2 r).1)) ?_
  rintro v w' ⟨q1, q2, q3, q4⟩
  rw [e3, e4, e5, eT, h.2.2.1.1] at q1 q4
  have F : FX [97, 98, 99] [] w w' := FX.of q2 (by simp) (by simp)
  exact ⟨q1, q2, h.fr F (by decide) (by simp) q3 (RM_fr (q2 130 (by simp)) h.2.1.2.2) (h.2.2.1.fr (q2 89 (by simp)) (q2 90 (by simp))) h.2.2.2, q4⟩
theorem RepR.md4 {E : EV} {st : MS} {w : WS} (h : RepR E st w) (hm : st.1 = 4) : EM E w ∧ VM w (vOf st) ∧ tkR w (tOf st) ∧ w 85 43 = sOf st ∧ w 85 39 = cOf st ∧ w 85 22 = bOf st := by
  obtain ⟨md, g, c, K, C, T, b, V, s⟩ := st
  have hm : md = 4 := hm
  subst hm
  obtain ⟨⟨g1, g2, g3, g4, g5, g6, -, -⟩, -, g9, -⟩ := h
  exact ⟨g1, g4, g6, g3, g9, g2⟩
theorem RepR.md56 {E : EV} {st : MS} {w : WS} (h : RepR E st w) (hm : st.1 = 5 ∨ st.1 = 6) : EM E w ∧ VM w (vOf st) := by
  obtain ⟨md, g, c, K, C, T, b, V, s⟩ := st
  rcases hm with hm | hm
  · have hm : md = 5 := hm
    subst hm
    exact ⟨h.1, h.2.2.1⟩
  · have hm : md = 6 := hm
    subst hm
    exact ⟨h.1, h.2.1⟩
def LSm : List Nat := [85, 89, 90, 97, 98, 99, 100, 101, 102, 103, 104, 105, 106, 107, 108, 109, 110, 111, 112, 113]
def SSm : List Nat := [20, 43, 22, 27, 34, 38, 39, 40, 41, 42, 44]
theorem m_doScan {P : PV} (hP : POK P) {w : WS} {V : Nat → List Int} (h : RB P w V) {p : Int} (hp : 0 ≤ p ∧ p < sC P) (hk : sK P p = 115) : Ev (f_X9_doScan p w) (fun v w' => v = (aScan P p V).1 ∧ FX LSm SSm w w' ∧ RB P w' (aScan P p V).2) := by
  have hs := hP.2.2.2.2.2.2.2.1 p hp.1 hp.2
  have hc := hP.2.2.2.2.2.2.1
  obtain ⟨s1, s2, s3, s4, s5, s6, s7⟩ := hs
  obtain ⟨hPt, hT⟩ := s6 hk
  have hVs := h.2.2.2 (sV P p).toNat
  have hEOK : EOK (pE P (V (sV P p).toNat) (sP P p)) := hP.E hVs hPt
  have hA0 := aSt0_ok (E := pE P (V (sV P p).toNat) (sP P p)) h.2.2.2
  have hAe := AOK.end_ hEOK hA0 (by show 3 ≤ 6; omega)
  unfold f_X9_doScan aScan
  rw [wr_eq (a := p) (by omega), show w 115 p.toNat = sV P p from congrFun (h.row 7) _]
  refine Ev.pos (by first | (simp (disch := omega) only [wr_eq] <;> omega) | omega) ?_
  refine Ev.bd (m_takeSubject h.2.2.1.2 s2) ?_
  rintro v w1 ⟨q1, q2, q3, q4⟩
  rw [h.2.2.1.1] at q3 q4
  have F1 : FX LSm SSm w w1 := ⟨q1.sub (by decide), fun k hk => q2 k (fun e => hk (by rw [e]; decide))⟩
  have B1 : RB P w1 V := h.fr F1 (by decide) (by decide) (RM_fr (q1 99 (by simp)) h.2.1.2.1) (RM_fr (q1 130 (by simp)) h.2.1.2.2) (h.2.2.1.fr (q1 89 (by simp)) (q1 90 (by simp))) h.2.2.2
  have E1 : EM (pE P (V (sV P p).toNat) (sP P p)) w1 := ⟨B1.row 0, B1.row 1, B1.row 2, B1.texts, B1.2.1.1, q4, q3, congrFun (B1.row 15) 0⟩
  rw [show w1 116 p.toNat = sP P p from congrFun (B1.row 8) _]
  refine Ev.pos (by first | (simp (disch := omega) only [wr_eq] <;> omega) | omega) ?_
  refine Ev.bd (m_matches hEOK h.2.2.2 E1 B1.2.2.1) ?_
  rintro v w2 ⟨t1, t2, t3⟩
  have F2 : FX LSm SSm w w2 := F1.tr (FX.sub (L := LM) (S := 43 :: SM) t1 (by decide) (by decide))
  have o99 : RM w2 99 60 50 := RM_fr (t1.1 99 (by decide)) B1.2.1.2.1
  have o130 : RM w2 130 60 30 := RM_fr (t1.1 130 (by decide)) B1.2.1.2.2
  have hse : scanE P p V = aEnd (pE P (V (sV P p).toNat) (sP P p)) (aSt0 V) := rfl
  have hsv : scanV P p V = asgT (V (sV P p).toNat) (vOf (scanE P p V)) (tOf (scanE P p V)) := rfl
  have hsl : scanL P p V = aRep (V (sV P p).toNat) (sOf (scanE P p V)) (cOf (scanE P p V)) (pTm P (scanV P p V) (sT P p)).2 := rfl
  rw [← hse] at t2 t3 hAe
  generalize scanE P p V = R at *
  rw [t3]
  by_cases m6 : R.1 = 6
  · rw [if_pos m6, m6]
    obtain ⟨r1, r2⟩ := t2.md56 (Or.inr m6)
    refine Ev.neg (by decide) (Ev.pos (by decide) (Ev.ret ⟨rfl, F2, h.fr F2 (by decide) (by decide) o99 o130 r2 hAe.1.vok⟩))
  rw [if_neg m6]
  by_cases m5 : R.1 = 5
  · rw [if_pos m5, m5]
    obtain ⟨r1, r2⟩ := t2.md56 (Or.inl m5)
    refine Ev.neg (by decide) (Ev.neg (by decide) (Ev.ret ⟨rfl, F2, h.fr F2 (by decide) (by decide) o99 o130 r2 hAe.1.vok⟩))
  rw [if_neg m5]
  have m4 : R.1 = 4 := by omega
  rw [m4]
  refine Ev.pos (by decide) ?_
  obtain ⟨r1, r2, r3, r4, r5, r6⟩ := t2.md4 m4
  obtain ⟨a1, a2, a3, a4, a5⟩ := hAe.1.md4 m4
  have hlS : (eS (pE P (V (sV P p).toNat) (sP P p))).length ≤ 60 := hVs.2
  refine Ev.bd (m_assignKept hlS a1 (by omega) r1 r2 r3) ?_
  rintro v w3 ⟨-, u1, u2⟩
  have F3 : FX LSm SSm w w3 := F2.tr (FX.of u1 (by decide) (by decide))
  have u2 : VM w3 (scanV P p V) := by rw [hsv]; exact u2
  have v3 : VOK (scanV P p V) := by rw [hsv]; exact asgT_ok hVs _ hAe.1.vok
  have B3 : RB P w3 (scanV P p V) := h.fr F3 (by decide) (by decide) (RM_fr (u1 99 (by simp)) o99) (RM_fr (u1 130 (by simp)) o130) u2 v3
  have E3 : EM (pE P (V (sV P p).toNat) (sP P p)) w3 := r1.fr (FM.of u1 (by decide) (by simp))
  rw [show w3 117 p.toNat = sT P p from congrFun (B3.row 9) _]
  refine Ev.pos (by first | (simp (disch := omega) only [wr_eq] <;> omega) | omega) ?_
  by_cases c1 : sT P p = -1
  · rw [if_pos c1, c1]
    refine Ev.pos rfl ?_
    unfold f_X9_doScan_76
    exact Ev.pos rfl (Ev.ret ⟨rfl, F3, B3⟩)
  rw [if_neg c1]
  have hT1 : 0 ≤ sT P p ∧ sT P p < tN P := by omega
  have ht50 := hP.2.2.2.1
  refine Ev.neg (by first | (simp (disch := omega) only [wr_eq] <;> omega) | omega) ?_
  refine Ev.bd (m_term hP B3 hT1) ?_
  rintro v w4 ⟨rfl, p1, p2, p3⟩
  have F4 : FX LSm SSm w w4 := F3.tr (FX.of p1 (by decide) (by decide))
  have ok := pTm_ok hP v3 (sT P p)
  rw [r4, r5]
  unfold f_X9_doScan_76
  refine Ev.neg (by first | (simp (disch := omega) only [wr_eq] <;> omega) | omega) ?_
  by_cases c2 : (pTm P (scanV P p V) (sT P p)).1 = 0
  · rw [if_pos c2]
    have p3 := p3 c2
    rw [c2]
    refine Ev.pos rfl ?_
    have E4 : EM (pE P (V (sV P p).toNat) (sP P p)) w4 := by
      obtain ⟨g1, g2, g3, g4, g5, g6, g7, g8⟩ := E3
      exact ⟨(p1 91 (by simp)).trans g1, (p1 92 (by simp)).trans g2, (p1 93 (by simp)).trans g3, (rM_fr (p1 87 (by simp)) (p1 88 (by simp))).trans g4, RM_fr (p1 88 (by simp)) g5, by rw [p1 100 (by simp)]; exact g6, by rw [p1 85 (by simp)]; exact g7, by rw [p1 85 (by simp)]; exact g8⟩
    rw [wr_eq (a := p) (by omega), show w4 115 p.toNat = sV P p from congrFun (p2.row 7) _]
    refine Ev.pos (by first | (simp (disch := omega) only [wr_eq] <;> omega) | omega) ?_
    have rep := m_replace E4 hlS p2.2.2.1 p2.2.1.2.1 (v := sV P p) (r := sT P p) (s := sOf R) (c := cOf R) s2 (by omega) ⟨a3, a4, a5⟩ p3
    have eL : aRep (eS (pE P (V (sV P p).toNat) (sP P p))) (sOf R) (cOf R) (pTm P (scanV P p V) (sT P p)).2 = scanL P p V := hsl.symm
    rw [eL] at rep
    refine Ev.bd rep ?_
    rintro v w5 ⟨z1, z2, z3⟩
    have F5 : FX LSm SSm w w5 := F4.tr (FX.of z1 (by decide) (by decide))
    have n99 : RM w5 99 60 50 := RM_fr (z1 99 (by simp)) p2.2.1.2.1
    have n130 : RM w5 130 60 30 := RM_fr (z1 130 (by simp)) p2.2.1.2.2
    by_cases c3 : 60 < (scanL P p V).length
    · rw [if_pos c3] at z2 z3 ⊢
      rw [z2]
      exact Ev.pos rfl (Ev.ret ⟨rfl, F5, h.fr F5 (by decide) (by decide) n99 n130 z3 v3⟩)
    · rw [if_neg c3] at z2 z3 ⊢
      rw [z2]
      have sL : SO (scanL P p V) := by
        rw [hsl]
        intro x hx
        unfold aRep at hx
        rcases List.mem_append.mp hx with hx | hx
        · rcases List.mem_append.mp hx with hx | hx
          · exact hVs.1 x (List.mem_of_mem_take hx)
          · exact ok.2.1 x hx
        · exact hVs.1 x (List.mem_of_mem_drop hx)
      refine Ev.neg (by decide) (Ev.ret ⟨rfl, F5, h.fr F5 (by decide) (by decide) n99 n130 z3 (v3.vs sL (by omega))⟩)
  · rw [if_neg c2]
    refine Ev.neg (by first | (simp (disch := omega) only [wr_eq] <;> omega) | omega) ?_
    exact Ev.ret ⟨rfl, F4, p2⟩
