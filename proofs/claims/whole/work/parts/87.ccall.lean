/-! calls and ways -/
abbrev Frm : Type := Int × List Int × List Int × List Int
def calV (P : PV) (f : Int) (L : List Int) (V : Nat → List Int) : Nat → List Int := vs (vs (vs V (fN P f 0).toNat L) (fN P f 1).toNat []) (fN P f 2).toNat []
def calF (P : PV) (p f : Int) (V : Nat → List Int) : Frm := (p, V (fN P f 0).toNat, V (fN P f 1).toNat, V (fN P f 2).toNat)
def aCall (P : PV) (p : Int) (V : Nat → List Int) (D : List Frm) : Int × (Nat → List Int) × List Frm :=
  if (pTm P V (sT P p)).1 = 0 then (if fTd P (sP P p) = 1 ∧ D.length < 10 then (-2, calV P (sP P p) (pTm P V (sT P p)).2 V, calF P p (sP P p) V :: D) else (5, V, D)) else ((pTm P V (sT P p)).1, V, D)
def backV (P : PV) (x : Frm) (s : Bool) (V : Nat → List Int) : Nat → List Int :=
  if s = true then vs (vs (vs (vs V (fN P (sP P x.1) 0).toNat x.2.1) (fN P (sP P x.1) 1).toNat x.2.2.1) (fN P (sP P x.1) 2).toNat x.2.2.2) (sV P x.1).toNat (V (fN P (sP P x.1) 2).toNat) else vs (vs (vs V (fN P (sP P x.1) 0).toNat x.2.1) (fN P (sP P x.1) 1).toNat x.2.2.1) (fN P (sP P x.1) 2).toNat x.2.2.2
def bump (a : Nat → Int) (k : Nat) : Nat → Int := fun x => if x = k then a x + 1 else a x
/-- what goes on: 0 a place, 1 the end, 2 an error; its number; calls under way, variables, failures -/
abbrev Rs : Type := Int × Int × List Frm × (Nat → List Int) × (Nat → Int)
def aWay (P : PV) (p : Int) (s : Bool) : Int := if s = true then sY P p else sN P p
def aFl (p : Int) (s : Bool) (fl : Nat → Int) : Nat → Int := if s = true then fl else bump fl p.toNat
def aLv (P : PV) : List Frm → Int → Bool → (Nat → List Int) → (Nat → Int) → Rs
  | [], p, s, V, fl => if aWay P p s = -4 ∨ (aWay P p s = -1 ∧ p + 1 = sC P) then (1, 0, [], V, aFl p s fl) else if aWay P p s = -1 then (0, p + 1, [], V, aFl p s fl) else if 0 ≤ aWay P p s then (if aWay P p s < sC P then (0, aWay P p s, [], V, aFl p s fl) else (2, 7, [], V, aFl p s fl)) else (2, 6, [], V, aFl p s fl)
  | x :: D, p, s, V, fl => if aWay P p s = -4 ∨ (aWay P p s = -1 ∧ p + 1 = sC P) then (1, 0, x :: D, V, aFl p s fl) else if aWay P p s = -1 then (0, p + 1, x :: D, V, aFl p s fl) else if 0 ≤ aWay P p s then (if aWay P p s < sC P then (0, aWay P p s, x :: D, V, aFl p s fl) else (2, 7, x :: D, V, aFl p s fl)) else aLv P D x.1 (decide (aWay P p s = -2)) (backV P x (decide (aWay P p s = -2)) V) (aFl p s fl)
def aBehind (P : PV) (p o : Int) (D : List Frm) (V : Nat → List Int) (fl : Nat → Int) : Rs := if 0 < o then (2, o, D, V, fl) else if o = -2 then (if fE P (sP P p) < sC P then (0, fE P (sP P p), D, V, fl) else (2, 7, D, V, fl)) else aLv P D p (decide (o = 0)) V fl
noncomputable def aDo (P : PV) (p : Int) (V : Nat → List Int) (D : List Frm) : Int × (Nat → List Int) × List Frm := if sK P p = 97 then ((aAssign P p V).1, (aAssign P p V).2, D) else if sK P p = 115 then ((aScan P p V).1, (aScan P p V).2, D) else aCall P p V D
/-- answer, error, last, steps, calls, variables, done, failed -/
abbrev RR : Type := Int × Int × Int × Int × List Frm × (Nat → List Int) × (Nat → Int) × (Nat → Int)
noncomputable def aRun (P : PV) : Nat → Int → List Frm → (Nat → List Int) → (Nat → Int) → (Nat → Int) → Int → Int → RR
  | 0, _, D, V, dn, fl, la, mkk => (108, 0, la, mkk, D, V, dn, fl)
  | n + 1, p, D, V, dn, fl, _, mkk =>
    if (aBehind P p (aDo P p V D).1 (aDo P p V D).2.2 (aDo P p V D).2.1 fl).1 = 1 then (100, 0, p, mkk + 1, (aBehind P p (aDo P p V D).1 (aDo P p V D).2.2 (aDo P p V D).2.1 fl).2.2.1, (aBehind P p (aDo P p V D).1 (aDo P p V D).2.2 (aDo P p V D).2.1 fl).2.2.2.1, bump dn p.toNat, (aBehind P p (aDo P p V D).1 (aDo P p V D).2.2 (aDo P p V D).2.1 fl).2.2.2.2) else
    if (aBehind P p (aDo P p V D).1 (aDo P p V D).2.2 (aDo P p V D).2.1 fl).1 = 2 then (120, (aBehind P p (aDo P p V D).1 (aDo P p V D).2.2 (aDo P p V D).2.1 fl).2.1, p, mkk + 1, (aBehind P p (aDo P p V D).1 (aDo P p V D).2.2 (aDo P p V D).2.1 fl).2.2.1, (aBehind P p (aDo P p V D).1 (aDo P p V D).2.2 (aDo P p V D).2.1 fl).2.2.2.1, bump dn p.toNat, (aBehind P p (aDo P p V D).1 (aDo P p V D).2.2 (aDo P p V D).2.1 fl).2.2.2.2) else
    aRun P n (aBehind P p (aDo P p V D).1 (aDo P p V D).2.2 (aDo P p V D).2.1 fl).2.1 (aBehind P p (aDo P p V D).1 (aDo P p V D).2.2 (aDo P p V D).2.1 fl).2.2.1 (aBehind P p (aDo P p V D).1 (aDo P p V D).2.2 (aDo P p V D).2.1 fl).2.2.2.1 (bump dn p.toNat) (aBehind P p (aDo P p V D).1 (aDo P p V D).2.2 (aDo P p V D).2.1 fl).2.2.2.2 p (mkk + 1)
/-- calls under way as they may be -/
def DOK (P : PV) (D : List Frm) : Prop := ∀ x ∈ D, (0 ≤ x.1 ∧ x.1 < sC P) ∧ sK P x.1 = 99 ∧ fTd P (sP P x.1) = 1 ∧ (SO x.2.1 ∧ x.2.1.length ≤ 60) ∧ (SO x.2.2.1 ∧ x.2.2.1.length ≤ 60) ∧ (SO x.2.2.2 ∧ x.2.2.2.length ≤ 60)
def stkC (w : WS) : List Frm → Prop
  | [] => True
  | x :: D => w 78 D.length = x.1 ∧ rC w 22 60 (3 * D.length) = x.2.1 ∧ rC w 22 60 (3 * D.length + 1) = x.2.2.1 ∧ rC w 22 60 (3 * D.length + 2) = x.2.2.2 ∧ stkC w D
theorem stkC.mono {w w' : WS} : ∀ {D : List Frm}, (∀ k, k < D.length → w' 78 k = w 78 k) → (∀ k, k < 3 * D.length → rC w' 22 60 k = rC w 22 60 k) → stkC w D → stkC w' D := by
  intro D
  induction D with
  | nil => intro _ _ _; trivial
  | cons x D ih =>
    rintro h1 h2 ⟨g1, g2, g3, g4, g5⟩
    rw [List.length_cons] at h1 h2
    exact ⟨(h1 _ (by omega)).trans g1, (h2 _ (by omega)).trans g2, (h2 _ (by omega)).trans g3, (h2 _ (by omega)).trans g4, ih (fun k hk => h1 k (by omega)) (fun k hk => h2 k (by omega)) g5⟩
/-- the class's run under way -/
def CRn (P : PV) (w : WS) (V : Nat → List Int) (D : List Frm) : Prop := CB P w V ∧ w 76 14 = D.length ∧ D.length ≤ 10 ∧ stkC w D ∧ DOK P D
theorem vs_comm {V : Nat → List Int} {a b : Nat} {A B : List Int} (h : a ≠ b) : vs (vs V a A) b B = vs (vs V b B) a A := by
  funext r
  unfold vs
  by_cases h1 : r = b
  · rw [if_pos h1, if_neg (by omega), if_pos h1]
  · rw [if_neg h1]
    by_cases h2 : r = a
    · rw [if_pos h2, if_pos h2]
    · rw [if_neg h2, if_neg h2, if_neg h1]
theorem CB.clear {P : PV} {w : WS} {V : Nat → List Int} (h : CB P w V) (a : Nat) : CB P (up w 9 a 0) (vs V a []) := by
  have F : Fr [9] w (up w 9 a 0) := Fr.rf.up (by simp)
  obtain ⟨h1, ⟨o4, o13, o16, o19, o22⟩, h3, h4⟩ := h
  refine ⟨?_, ⟨RO_fr (F 6 (by simp)) o4, RO_fr (F 15 (by simp)) o13, RO_fr (F 18 (by simp)) o16, RO_fr (F 21 (by simp)) o19, RO_fr (F 24 (by simp)) o22⟩, ⟨?_, RO_clear a h3.2⟩, h4.vs SO_nil (by simp)⟩
  · rw [F 76 (by simp), pvC.fr F (by decide)]
    exact h1
  · rw [← h3.1]
    exact rC_clear (i := 7) (wd := 60) (w := w) a
theorem CB.save {P : PV} {w : WS} {V : Nat → List Int} (h : CB P w V) {r v : Int} (hr : 0 ≤ r ∧ r < 30) (hv : 0 ≤ v ∧ v < 26) : Ev (f_X6_copy 22 r 7 v w) (fun x w' => Fr [23, 24] w w' ∧ CB P w' V ∧ rC w' 22 60 = vs (rC w 22 60) r.toNat (V v.toNat)) := by
  obtain ⟨h1, ⟨o4, o13, o16, o19, o22⟩, h3, h4⟩ := h
  have lv := ln (z := 9) rfl h3.2 v.toNat
  refine Ev.mono (f_copy RI_22 o22 RI_7 h3.2 (a := r) (b := v) (by omega) (by omega) (by omega) (by show w 9 v.toNat ≤ (60 : Int); omega)) ?_
  rintro x w' ⟨-, q1, q2, q3⟩
  have q1 : Fr [23, 24] w w' := q1
  rw [h3.1] at q3
  refine ⟨q1, ⟨?_, ⟨RO_fr (q1 6 (by simp)) o4, RO_fr (q1 15 (by simp)) o13, RO_fr (q1 18 (by simp)) o16, RO_fr (q1 21 (by simp)) o19, q2⟩, h3.fr (q1 8 (by simp)) (q1 9 (by simp)), h4⟩, q3⟩
  rw [q1 76 (by simp), pvC.fr q1 (by decide)]
  exact h1
def LKc : List Nat := [8, 9, 17, 18, 23, 24, 56, 76, 78]
theorem c_doCall {P : PV} (hP : POK P) {w : WS} {V : Nat → List Int} {D : List Frm} (h : CRn P w V D) {p : Int} (hp : 0 ≤ p ∧ p < sC P) (hk : sK P p = 99) : Ev (f_X7_doCall p w) (fun v w' => v = (aCall P p V D).1 ∧ Fr LKc w w' ∧ (∀ k, k ≠ 14 → w' 76 k = w 76 k) ∧ CRn P w' (aCall P p V D).2.1 (aCall P p V D).2.2) := by
  have hs := hP.2.2.2.2.2.2.2.1 p hp.1 hp.2
  have hc := hP.2.2.2.2.2.2.1
  have ht50 := hP.2.2.2.1
  obtain ⟨s1, s2, s3, s4, s5, s6, s7⟩ := hs
  have hT := s5 (by omega)
  have hf := s7 hk
  obtain ⟨f1, f2⟩ := hP.2.2.2.2.2.2.2.2 (sP P p) hf.1 hf.2
  obtain ⟨hB, h14, hD10, hst, hDK⟩ := h
  have eT : w 65 = P.1 9 := hB.row 9
  have g1 : f_X1_get 64 p w = some (sT P p, w) := c_get40 64 rfl (by omega) eT
  unfold f_X7_doCall aCall
  refine Ev.obe g1 ?_
  refine Ev.bd (c_term hP hB hT) ?_
  rintro v w1 ⟨rfl, q1, q2, q3⟩
  have F1 : Fr LKc w w1 := q1.sub (by decide)
  have ok := pTm_ok hP hB.2.2.2 (sT P p)
  have st1 : stkC w1 D := hst.mono (fun k _ => by rw [q1 78 (by simp)]) (fun k _ => by rw [rC_fr (q1 23 (by simp)) (q1 24 (by simp))])
  have d1 : w1 76 14 = D.length := by rw [q1 76 (by simp)]; exact h14
  have e76 : ∀ k, w1 76 k = w 76 k := fun k => by rw [q1 76 (by simp)]
  by_cases c : (pTm P V (sT P p)).1 = 0
  · rw [if_pos c]
    have q3 := q3 c
    rw [c]
    refine Ev.pos rfl ?_
    have eP : w1 63 = P.1 8 := q2.row 8
    have eTd : w1 71 = P.1 12 := q2.row 12
    have g2 : f_X1_get 62 p w1 = some (sP P p, w1) := c_get40 62 rfl (by omega) eP
    have g3 : f_X1_get 70 (sP P p) w1 = some (fTd P (sP P p), w1) := by
      have := f_get (i := 70) (n := 5) (w := w1) (x := sP P p) rfl (by omega) hf
      rw [eTd] at this
      exact this
    refine Ev.obe g2 ?_
    refine Ev.obe g3 ?_
    by_cases c1 : fTd P (sP P p) = 1
    · rw [c1]
      refine Ev.pos rfl ?_
      rw [d1]
      by_cases c2 : D.length < 10
      · have hq : (1 : Int) = 1 ∧ D.length < 10 := ⟨rfl, c2⟩
        rw [if_pos hq]
        refine Ev.pos (by first | (simp (disch := omega) only [wr_eq] <;> omega) | omega) ?_
        obtain ⟨n0, n1, n2, n3, n4, n5, n6⟩ := f2 c1
        have nm : ∀ (w' : WS), CB P w' V ∨ True → ∀ i : Nat, i < 3 → w' 75 = P.1 14 → f_X1_get 74 (3 * sP P p + i) w' = some (fN P (sP P p) i, w') := by
          intro w' _ i hi e
          have := f_get (i := 74) (n := 15) (w := w') (x := 3 * sP P p + i) rfl (by omega) (by omega)
          rw [e, show (3 * sP P p + (i : Int)).toNat = 3 * (sP P p).toNat + i from by omega] at this
          exact this
        -- one name saved and emptied
        have step : ∀ (i : Nat) (W : Nat → List Int) (w' : WS) (m : Nat) (Q : Int → WS → Prop), i < 3 → CB P w' W → w' 76 14 = D.length → (∀ w2 w3, Fr [23, 24] w' w2 → CB P w2 W → rC w2 22 60 = vs (rC w' 22 60) (3 * D.length + i) (W (fN P (sP P p) i).toNat) → w3 = up w2 9 (fN P (sP P p) i).toNat 0 → CB P w3 (vs W (fN P (sP P p) i).toNat []) → Ev (f_X7_doCall_70 m p (sT P p) (sP P p) ((i : Int) + 1) w3) Q) → Ev (f_X7_doCall_70 (m + 1) p (sT P p) (sP P p) i w') Q := by
          intro i W w' m Q hi hB' hd hQ
          have hn : 0 ≤ fN P (sP P p) i ∧ fN P (sP P p) i < 26 := by
            have : i = 0 ∨ i = 1 ∨ i = 2 := by omega
            rcases this with rfl | rfl | rfl
            · exact n1
            · exact n2
            · exact n3
          rw [f_X7_doCall_70_s]
          refine Ev.pos (by first | (simp (disch := omega) only [wr_eq] <;> omega) | omega) ?_
          refine Ev.obe (nm w' (Or.inr trivial) i hi (hB'.row 14)) ?_
          rw [hd]
          refine Ev.bd (hB'.save (r := 3 * (D.length : Int) + i) (v := fN P (sP P p) i) (by omega) hn) ?_
          rintro x w2 ⟨y1, y2, y3⟩
          rw [show (3 * (D.length : Int) + i).toNat = 3 * D.length + i from by omega] at y3
          refine Ev.obe (f_clear RI_7 (a := fN P (sP P p) i) (by omega)) ?_
          exact hQ w2 _ y1 y2 y3 rfl (y2.clear _)
        obtain ⟨m, hm⟩ : ∃ m, FU = m + 4 := ⟨FU - 4, by unfold FU; omega⟩
        rw [hm]
        refine step 0 V w1 (m + 3) _ (by omega) q2 d1 ?_
        intro w2 w3 a1 a2 a3 a4 a5
        have b3 : Fr [9, 23, 24] w1 w3 := by rw [a4]; exact (a1.sub (by simp)).up (by simp)
        have d3 : w3 76 14 = D.length := by rw [b3 76 (by simp)]; exact d1
        refine step 1 _ w3 (m + 2) _ (by omega) a5 d3 ?_
        intro w4 w5 a6 a7 a8 a9 a10
        have b5 : Fr [9, 23, 24] w3 w5 := by rw [a9]; exact (a6.sub (by simp)).up (by simp)
        have d5 : w5 76 14 = D.length := by rw [b5 76 (by simp)]; exact d3
        refine step 2 _ w5 (m + 1) _ (by omega) a10 d5 ?_
        intro w6 w7 a11 a12 a13 a14 a15
        have b7 : Fr [9, 23, 24] w5 w7 := by rw [a14]; exact (a11.sub (by simp)).up (by simp)
        have d7 : w7 76 14 = D.length := by rw [b7 76 (by simp)]; exact d5
        rw [show (((2 : Nat) : Int) + 1) = 3 from rfl, f_X7_doCall_70_s]
        refine Ev.neg (by first | (simp (disch := omega) only [wr_eq] <;> omega) | omega) ?_
        have g5 := nm w7 (Or.inr trivial) 0 (by omega) (a15.row 14)
        rw [show 3 * sP P p + ((0 : Nat) : Int) = 3 * sP P p from by omega] at g5
        refine Ev.obe g5 ?_
        have B17 : Fr [9, 23, 24] w1 w7 := (b3.tr b5).tr b7
        have v16 : rC w7 16 60 (sT P p).toNat = (pTm P V (sT P p)).2 := by rw [rC_fr (B17 17 (by simp)) (B17 18 (by simp))]; exact q3
        refine Ev.bd (c_setVar a15 RI_16 a15.2.1.2.2.1 (v := fN P (sP P p) 0) (r := sT P p) n1 (by omega) (by omega) v16 ok.2) ?_
        rintro x w8 ⟨y1, y2⟩
        have d8 : w8 76 14 = D.length := by rw [y1 76 (by simp)]; exact d7
        rw [d8]
        refine Ev.obe (f_put (i := 77) (n := 10) (x := D.length) rfl (by omega) (by omega)) ?_
        rw [Int.toNat_natCast]
        have eV : vs (vs (vs (vs V (fN P (sP P p) 0).toNat []) (fN P (sP P p) 1).toNat []) (fN P (sP P p) 2).toNat []) (fN P (sP P p) 0).toNat (pTm P V (sT P p)).2 = calV P (sP P p) (pTm P V (sT P p)).2 V := by
          unfold calV
          rw [vs_comm (a := (fN P (sP P p) 2).toNat) (b := (fN P (sP P p) 0).toNat) (by omega), vs_comm (a := (fN P (sP P p) 1).toNat) (b := (fN P (sP P p) 0).toNat) (by omega), vs_vs]
        rw [eV] at y2
        have F8 : Fr LKc w w8 := (F1.tr (B17.sub (by decide))).tr (y1.sub (by decide))
        have F9 : Fr [76, 78] w8 (up (up w8 (77 + 1) D.length p) 76 14 ((up w8 (77 + 1) D.length p) 76 14 + 1)) := (Fr.rf.up (by simp)).up (by simp)
        have e9 : ∀ k, k ≠ 14 → (up (up w8 (77 + 1) D.length p) 76 14 ((up w8 (77 + 1) D.length p) 76 14 + 1)) 76 k = w8 76 k := fun k hk => by rw [up_slot _ _ _ _ hk, up_row _ _ _ (by omega)]
        have e10 : (up (up w8 (77 + 1) D.length p) 76 14 ((up w8 (77 + 1) D.length p) 76 14 + 1)) 76 14 = (D.length : Int) + 1 := by rw [up_same, up_row _ _ _ (by omega), d8]
        have e11 : ∀ k, (up (up w8 (77 + 1) D.length p) 76 14 ((up w8 (77 + 1) D.length p) 76 14 + 1)) 78 k = if k = D.length then p else w8 78 k := fun k => by
          rw [up_row _ _ _ (by omega)]
          by_cases e : k = D.length
          · rw [if_pos e, e]; exact up_same _ _ _ _
          · rw [if_neg e]; exact up_slot _ _ _ _ e
        generalize up (up w8 (77 + 1) D.length p) 76 14 ((up w8 (77 + 1) D.length p) 76 14 + 1) = w9 at F9 e9 e10 e11 ⊢
        have rows : rC w9 22 60 = vs (vs (vs (rC w1 22 60) (3 * D.length) (V (fN P (sP P p) 0).toNat)) (3 * D.length + 1) (V (fN P (sP P p) 1).toNat)) (3 * D.length + 2) (V (fN P (sP P p) 2).toNat) := by
          rw [rC_fr (F9 23 (by simp)) (F9 24 (by simp)), rC_fr (y1 23 (by simp)) (y1 24 (by simp))]
          have r7 : rC w7 22 60 = rC w6 22 60 := by rw [a14]; exact rC_fr (up_row _ _ _ (by omega)) (up_row _ _ _ (by omega))
          have r5 : rC w5 22 60 = rC w4 22 60 := by rw [a9]; exact rC_fr (up_row _ _ _ (by omega)) (up_row _ _ _ (by omega))
          have r3 : rC w3 22 60 = rC w2 22 60 := by rw [a4]; exact rC_fr (up_row _ _ _ (by omega)) (up_row _ _ _ (by omega))
          rw [r7, a13, r5, a8, r3, a3, vs_ne V _ (by omega : (fN P (sP P p) 1).toNat ≠ (fN P (sP P p) 0).toNat), vs_ne (vs V (fN P (sP P p) 0).toNat []) _ (by omega : (fN P (sP P p) 2).toNat ≠ (fN P (sP P p) 1).toNat), vs_ne V _ (by omega : (fN P (sP P p) 2).toNat ≠ (fN P (sP P p) 0).toNat)]
          rfl
        refine Ev.ret ⟨rfl, F8.tr (F9.sub (by decide)), fun k hk => ?_, ?_, ?_, ?_, ?_, ?_⟩
        · rw [e9 k hk, y1 76 (by simp), B17 76 (by simp), e76]
        · refine y2.fr F9 (by decide) (e9 9 (by omega)) (RO_fr (F9 15 (by simp)) y2.2.1.2.1) (RO_fr (F9 18 (by simp)) y2.2.1.2.2.1) (RO_fr (F9 21 (by simp)) y2.2.1.2.2.2.1) (RO_fr (F9 24 (by simp)) y2.2.1.2.2.2.2) (y2.2.2.1.fr (F9 8 (by simp)) (F9 9 (by simp))) y2.2.2.2
        · rw [e10]; rfl
        · show D.length + 1 ≤ 10; omega
        · refine ⟨by rw [e11, if_pos rfl]; rfl, ?_, ?_, ?_, ?_⟩
          · rw [rows, vs_ne _ _ (by omega), vs_ne _ _ (by omega), vs_same]; rfl
          · rw [rows, vs_ne _ _ (by omega), vs_same]; rfl
          · rw [rows, vs_same]; rfl
          · refine st1.mono (fun k hk => ?_) (fun k hk => ?_)
            · rw [e11, if_neg (by omega), y1 78 (by simp), B17 78 (by simp)]
            · rw [rows, vs_ne _ _ (by omega), vs_ne _ _ (by omega), vs_ne _ _ (by omega)]
        · intro x hx
          rcases List.mem_cons.mp hx with rfl | hx
          · exact ⟨hp, hk, c1, hB.2.2.2 _, hB.2.2.2 _, hB.2.2.2 _⟩
          · exact hDK x hx
      · have hq : ¬ ((1 : Int) = 1 ∧ D.length < 10) := fun z => c2 z.2
        rw [if_neg hq]
        refine Ev.neg (by first | (simp (disch := omega) only [wr_eq] <;> omega) | omega) ?_
        exact Ev.ret ⟨rfl, F1, fun k _ => e76 k, q2, d1, hD10, st1, hDK⟩
    · have hq : ¬ (fTd P (sP P p) = 1 ∧ D.length < 10) := fun z => c1 z.1
      rw [if_neg hq]
      refine Ev.neg (by first | (simp (disch := omega) only [wr_eq] <;> omega) | omega) ?_
      exact Ev.ret ⟨rfl, F1, fun k _ => e76 k, q2, d1, hD10, st1, hDK⟩
  · rw [if_neg c]
    refine Ev.neg (by first | (simp (disch := omega) only [wr_eq] <;> omega) | omega) ?_
    exact Ev.ret ⟨rfl, F1, fun k _ => e76 k, q2, d1, hD10, st1, hDK⟩
