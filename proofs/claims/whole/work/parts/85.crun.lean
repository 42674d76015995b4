/-! the class's Runner, statement by statement -/
def pvC (w : WS) (an : Int) : PV := (fun i => match i with
  | 0 => w 27
  | 1 => w 29
  | 2 => w 31
  | 3 => w 34
  | 4 => w 36
  | 5 => w 38
  | 6 => w 59
  | 7 => w 61
  | 8 => w 63
  | 9 => w 65
  | 10 => w 67
  | 11 => w 69
  | 12 => w 71
  | 13 => w 73
  | 14 => w 75
  | _ => fun j => match j with
    | 0 => an
    | 1 => w 25 4
    | 2 => w 32 4
    | _ => w 57 6, rC w 4 20)
def LPc : List Nat := [27, 29, 31, 34, 36, 38, 59, 61, 63, 65, 67, 69, 71, 73, 75, 25, 32, 57, 5, 6]
theorem pvC.fr {w w' : WS} {L : List Nat} (F : Fr L w w') (h : ∀ c ∈ LPc, c ∉ L) (an : Int) : pvC w' an = pvC w an := by
  have e : ∀ c, c ∈ LPc → w' c = w c := fun c hc => F c (h c hc)
  unfold pvC
  rw [e 27 (by decide), e 29 (by decide), e 31 (by decide), e 34 (by decide), e 36 (by decide), e 38 (by decide), e 59 (by decide), e 61 (by decide), e 63 (by decide), e 65 (by decide), e 67 (by decide), e 69 (by decide), e 71 (by decide), e 73 (by decide), e 75 (by decide), e 25 (by decide), e 32 (by decide), e 57 (by decide), rC_fr (e 5 (by decide)) (e 6 (by decide))]
def CO (w : WS) : Prop := RO w 4 20 30 ∧ RO w 13 60 1 ∧ RO w 16 60 50 ∧ RO w 19 60 1 ∧ RO w 22 60 30
theorem CO.fr {w w' : WS} (h : CO w) (h6 : w' 6 = w 6) (h13 : RO w' 13 60 1) (h16 : RO w' 16 60 50) (h19 : RO w' 19 60 1) (h22 : RO w' 22 60 30) : CO w' := ⟨RO_fr h6 h.1, h13, h16, h19, h22⟩
/-- the class's world holds the program and the variables -/
def CB (P : PV) (w : WS) (V : Nat → List Int) : Prop := pvC w (w 76 9) = P ∧ CO w ∧ VC w V ∧ VOK V
theorem CB.row {P : PV} {w : WS} {V : Nat → List Int} (h : CB P w V) (i : Nat) : (pvC w (w 76 9)).1 i = P.1 i := by rw [h.1]
theorem CB.texts {P : PV} {w : WS} {V : Nat → List Int} (h : CB P w V) : rC w 4 20 = P.2 := congrArg Prod.snd h.1
theorem c_get40 {w : WS} (i : Nat) (hi : alen (i + 1) = 40) {p : Int} (hp : 0 ≤ p ∧ p < 40) {a : Nat → Int} (ha : w (i + 1) = a) : f_X1_get i p w = some (a p.toNat, w) := by
  rw [← ha]
  exact f_get (n := 40) hi (by omega) hp
theorem pTm_ok {P : PV} (hP : POK P) {V : Nat → List Int} (hV : VOK V) (t : Int) : (-1 ≤ (pTm P V t).1 ∧ (pTm P V t).1 ≤ 8) ∧ SO (pTm P V t).2 ∧ (pTm P V t).2.length ≤ 60 := evT_ok t.toNat (fun r => ⟨(hP.2.2.2.2.1 r).1, by have := (hP.2.2.2.2.1 r).2; omega⟩) hV
theorem c_term {P : PV} (hP : POK P) {w : WS} {V : Nat → List Int} (h : CB P w V) {t : Int} (ht : 0 ≤ t ∧ t < tN P) : Ev (f_X5_workOut t w) (fun v w' => v = (pTm P V t).1 ∧ Fr [17, 18, 56] w w' ∧ CB P w' V ∧ (v = 0 → rC w' 16 60 t.toNat = (pTm P V t).2)) := by
  have e3 : w 34 = P.1 3 := h.row 3
  have e4 : w 36 = P.1 4 := h.row 4
  have e5 : w 38 = P.1 5 := h.row 5
  obtain ⟨h1, ⟨o4, o13, o16, o19, o22⟩, h3, h4⟩ := h
  have eT : rC w 4 20 = P.2 := congrArg Prod.snd h1
  refine Ev.mono (c_workOut (n := (tN P).toNat) (by omega) (by have := hP.2.2.2.1; omega) (by rw [e3, e4, e5]; exact hP.2.2.1) o16 o4 h3.2 (fun r => by rw [eT]; exact (hP.2.2.2.2.1 r).1) (fun r => by rw [h3.1]; exact (h4 r).1)) ?_
  rintro v w' ⟨q1, q2, q3, q4⟩
  rw [e3, e4, e5, eT, h3.1] at q1 q4
  refine ⟨q1, q2, ⟨?_, ?_, h3.fr (q2 8 (by simp)) (q2 9 (by simp)), h4⟩, q4⟩
  · rw [q2 76 (by simp), pvC.fr q2 (by decide)]
    exact h1
  · exact ⟨RO_fr (q2 6 (by simp)) o4, RO_fr (q2 15 (by simp)) o13, q3, RO_fr (q2 21 (by simp)) o19, RO_fr (q2 24 (by simp)) o22⟩
theorem c_setVar {P : PV} {w : WS} {V : Nat → List Int} (h : CB P w V) {j wj nj : Nat} (hj : RI j wj nj) (hoj : RO w j wj nj) {v r : Int} (hv : 0 ≤ v ∧ v < 26) (hr : 0 ≤ r ∧ r < nj) (hne : (7 : Nat) ≠ j) {L : List Int} (hL : rC w j wj r.toNat = L) (sL : SO L ∧ L.length ≤ 60) : Ev (f_X6_copy 7 v j r w) (fun x w' => Fr [8, 9] w w' ∧ CB P w' (vs V v.toNat L)) := by
  obtain ⟨h1, ⟨o4, o13, o16, o19, o22⟩, h3, h4⟩ := h
  have lj := ln (z := j + 2) rfl hoj r.toNat
  have hw := hj.2.2.2.1
  refine Ev.mono (f_copy RI_7 h3.2 hj hoj (a := v) (b := r) (by omega) hr hne (by omega)) ?_
  rintro x w' ⟨-, q1, q2, q3⟩
  have q1 : Fr [8, 9] w w' := q1
  rw [h3.1, hL] at q3
  refine ⟨q1, ⟨?_, ⟨RO_fr (q1 6 (by simp)) o4, RO_fr (q1 15 (by simp)) o13, RO_fr (q1 18 (by simp)) o16, RO_fr (q1 21 (by simp)) o19, RO_fr (q1 24 (by simp)) o22⟩, ⟨q3, q2⟩, h4.vs sL.1 sL.2⟩⟩
  rw [q1 76 (by simp), pvC.fr q1 (by decide)]
  exact h1
theorem c_doAssignment {P : PV} (hP : POK P) {w : WS} {V : Nat → List Int} (h : CB P w V) {p : Int} (hp : 0 ≤ p ∧ p < sC P) (hk : sK P p = 97) : Ev (f_X7_doAssignment p w) (fun v w' => v = (aAssign P p V).1 ∧ Fr [8, 9, 17, 18, 56] w w' ∧ CB P w' (aAssign P p V).2) := by
  have hs := hP.2.2.2.2.2.2.2.1 p hp.1 hp.2
  have hc := hP.2.2.2.2.2.2.1
  obtain ⟨s1, s2, s3, s4, s5, s6, s7⟩ := hs
  have hT := s5 (by omega)
  have eT : w 65 = P.1 9 := h.row 9
  have g1 : f_X1_get 64 p w = some (sT P p, w) := c_get40 64 rfl (by omega) eT
  unfold f_X7_doAssignment aAssign
  refine Ev.obe g1 ?_
  refine Ev.bd (c_term hP h hT) ?_
  rintro v w1 ⟨rfl, q1, q2, q3⟩
  have ok := pTm_ok hP h.2.2.2 (sT P p)
  by_cases c : (pTm P V (sT P p)).1 = 0
  · rw [if_pos c]
    have q3 := q3 c
    rw [c]
    refine Ev.pos rfl ?_
    have eV : w1 61 = P.1 7 := q2.row 7
    have g2 : f_X1_get 60 p w1 = some (sV P p, w1) := c_get40 60 rfl (by omega) eV
    refine Ev.obe g2 ?_
    refine Ev.bd (c_setVar q2 RI_16 q2.2.1.2.2.1 (v := sV P p) (r := sT P p) s2 (by have := hP.2.2.2.1; omega) (by omega) q3 ok.2) ?_
    rintro x w2 ⟨p1, p2⟩
    exact Ev.ret ⟨rfl, (q1.sub (by simp)).tr (p1.sub (by simp)), p2⟩
  · rw [if_neg c]
    refine Ev.neg (by first | (simp (disch := omega) only [wr_eq] <;> omega) | omega) ?_
    exact Ev.ret ⟨rfl, q1.sub (by simp), q2⟩
