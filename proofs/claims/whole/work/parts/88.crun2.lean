def LRc : List Nat := [8, 9, 14, 15, 17, 18, 20, 21, 23, 24, 39, 40, 41, 42, 43, 44, 45, 46, 47, 49, 50, 51, 52, 53, 56, 76, 78, 80, 82]
/-- what of the class a run may change -/
def FR (w w' : WS) : Prop := Fr LRc w w' ∧ ∀ k, k ≠ 11 → k ≠ 12 → k ≠ 13 → k ≠ 14 → w' 76 k = w 76 k
theorem FR.rf {w : WS} : FR w w := ⟨Fr.rf, fun _ _ _ _ _ => rfl⟩
theorem FR.tr {a b c : WS} (h : FR a b) (k : FR b c) : FR a c := ⟨h.1.tr k.1, fun q h1 h2 h3 h4 => (k.2 q h1 h2 h3 h4).trans (h.2 q h1 h2 h3 h4)⟩
theorem FR.of {a b : WS} {L : List Nat} (h : Fr L a b) (hL : ∀ c ∈ L, c ∈ LRc) (h76 : 76 ∉ L) : FR a b := ⟨h.sub hL, fun q _ _ _ _ => by rw [h 76 h76]⟩
theorem bump_up (w : WS) (c k : Nat) : (up w c k (w c k + 1)) c = bump (w c) k := by
  funext x
  unfold bump
  by_cases e : x = k
  · rw [if_pos e, e, up_same]
  · rw [if_neg e, up_slot _ _ _ _ e]
theorem CRn.fr {P : PV} {w w' : WS} {V : Nat → List Int} {D : List Frm} (h : CRn P w V D) {L : List Nat} (F : Fr L w w') (hL : ∀ c ∈ L, c ∈ [76, 80, 82]) (h9 : w' 76 9 = w 76 9) (h14 : w' 76 14 = w 76 14) : CRn P w' V D := by
  obtain ⟨hB, g1, g2, g3, g4⟩ := h
  have e : ∀ c, c ≠ 76 → c ≠ 80 → c ≠ 82 → w' c = w c := fun c a1 a2 a3 => F c (fun q => by have := hL c q; simp at this; omega)
  refine ⟨?_, h14.trans g1, g2, g3.mono (fun k _ => by rw [e 78 (by omega) (by omega) (by omega)]) (fun k _ => by rw [rC_fr (e 23 (by omega) (by omega) (by omega)) (e 24 (by omega) (by omega) (by omega))]), g4⟩
  refine hB.fr F (fun c hc q => ?_) h9 (RO_fr (e 15 (by omega) (by omega) (by omega)) hB.2.1.2.1) (RO_fr (e 18 (by omega) (by omega) (by omega)) hB.2.1.2.2.1) (RO_fr (e 21 (by omega) (by omega) (by omega)) hB.2.1.2.2.2.1) (RO_fr (e 24 (by omega) (by omega) (by omega)) hB.2.1.2.2.2.2) (hB.2.2.1.fr (e 8 (by omega) (by omega) (by omega)) (e 9 (by omega) (by omega) (by omega))) hB.2.2.2
  have h1 := hL c q
  simp at h1
  rcases h1 with rfl | rfl | rfl
  · exact absurd hc (by decide)
  · exact absurd hc (by decide)
  · exact absurd hc (by decide)
theorem c_comeBack {P : PV} (hP : POK P) {w : WS} {V : Nat → List Int} {x : Frm} {D : List Frm} (h : CRn P w V (x :: D)) {a : Int} (ha : a = 0 ∨ a = 1) : Ev (f_X7_comeBack a w) (fun v w' => v = x.1 ∧ FR w w' ∧ w' 82 = w 82 ∧ w' 80 = w 80 ∧ w' 76 11 = w 76 11 ∧ w' 76 12 = w 76 12 ∧ w' 76 13 = w 76 13 ∧ CRn P w' (backV P x (decide (a = 1)) V) D) := by
  obtain ⟨hB, h14, hD10, ⟨k1, k2, k3, k4, k5⟩, hDK⟩ := h
  obtain ⟨xp, xk, xt, xa, xb, xc⟩ := hDK x List.mem_cons_self
  have hc40 := hP.2.2.2.2.2.2.1
  obtain ⟨s1, s2, s3, s4, s5, s6, s7⟩ := hP.2.2.2.2.2.2.2.1 x.1 xp.1 xp.2
  have hf := s7 xk
  obtain ⟨n0, n1, n2, n3, n4, n5, n6⟩ := (hP.2.2.2.2.2.2.2.2 (sP P x.1) hf.1 hf.2).2 xt
  rw [List.length_cons] at h14 hD10
  have e14 : w 76 14 - 1 = (D.length : Int) := by omega
  unfold f_X7_comeBack
  rw [up_same, e14]
  have F0 : Fr [76] w (up w 76 14 (D.length : Int)) := Fr.rf.up (by simp)
  have B0 : CB P (up w 76 14 (D.length : Int)) V := hB.fr F0 (by decide) (up_slot _ _ _ _ (by omega)) (RO_fr (F0 15 (by simp)) hB.2.1.2.1) (RO_fr (F0 18 (by simp)) hB.2.1.2.2.1) (RO_fr (F0 21 (by simp)) hB.2.1.2.2.2.1) (RO_fr (F0 24 (by simp)) hB.2.1.2.2.2.2) (hB.2.2.1.fr (F0 8 (by simp)) (F0 9 (by simp))) hB.2.2.2
  have d0 : (up w 76 14 (D.length : Int)) 76 14 = D.length := up_same _ _ _ _
  have sl0 : ∀ k, k ≠ 14 → (up w 76 14 (D.length : Int)) 76 k = w 76 k := fun k hk => up_slot _ _ _ _ hk
  have c78 : (up w 76 14 (D.length : Int)) 78 = w 78 := F0 78 (by simp)
  have r0 : rC (up w 76 14 (D.length : Int)) 22 60 = rC w 22 60 := rC_fr (F0 23 (by simp)) (F0 24 (by simp))
  have g1 : f_X1_get 77 (D.length : Int) (up w 76 14 (D.length : Int)) = some (x.1, up w 76 14 (D.length : Int)) := by
    have := f_get (i := 77) (n := 10) (w := up w 76 14 (D.length : Int)) (x := D.length) rfl (by omega) (by omega)
    rw [c78, Int.toNat_natCast, k1] at this
    exact this
  refine Ev.obe g1 ?_
  generalize up w 76 14 (D.length : Int) = w1 at F0 B0 d0 sl0 c78 r0
  have eP : w1 63 = P.1 8 := B0.row 8
  have g2 : f_X1_get 62 x.1 w1 = some (sP P x.1, w1) := c_get40 62 rfl (by omega) eP
  refine Ev.obe g2 ?_
  have nm : ∀ (w' : WS), w' 75 = P.1 14 → ∀ i : Nat, i < 3 → f_X1_get 74 (3 * sP P x.1 + i) w' = some (fN P (sP P x.1) i, w') := by
    intro w' e i hi
    have := f_get (i := 74) (n := 15) (w := w') (x := 3 * sP P x.1 + i) rfl (by omega) (by omega)
    rw [e, show (3 * sP P x.1 + (i : Int)).toNat = 3 * (sP P x.1).toNat + i from by omega] at this
    exact this
  refine Ev.obe (nm w1 (B0.row 14) 2 (by omega)) ?_
  have lv := ln (z := 9) rfl B0.2.2.1.2 (fN P (sP P x.1) 2).toNat
  refine Ev.bd (f_copy RI_19 B0.2.1.2.2.2.1 RI_7 B0.2.2.1.2 (a := 0) (b := fN P (sP P x.1) 2) (by omega) n3 (by omega) (by show w1 9 _ ≤ (60 : Int); omega)) ?_
  rintro v w2 ⟨-, q1, q2, q3⟩
  have q1 : Fr [20, 21] w1 w2 := q1
  rw [B0.2.2.1.1] at q3
  have B2 : CB P w2 V := B0.fr q1 (by decide) (by rw [q1 76 (by simp)]) (RO_fr (q1 15 (by simp)) B0.2.1.2.1) (RO_fr (q1 18 (by simp)) B0.2.1.2.2.1) q2 (RO_fr (q1 24 (by simp)) B0.2.1.2.2.2.2) (B0.2.2.1.fr (q1 8 (by simp)) (q1 9 (by simp))) B0.2.2.2
  have sc2 : rC w2 19 60 (0 : Int).toNat = V (fN P (sP P x.1) 2).toNat := by rw [q3, vs_same]
  have step : ∀ (i : Nat) (W : Nat → List Int) (w' : WS) (m : Nat) (L : List Int) (Q : Int → WS → Prop), i < 3 → CB P w' W → w' 76 14 = D.length → rC w' 22 60 (3 * D.length + i) = L → (SO L ∧ L.length ≤ 60) → (∀ w3, Fr [8, 9] w' w3 → CB P w3 (vs W (fN P (sP P x.1) i).toNat L) → Ev (f_X7_comeBack_64 m a x.1 (sP P x.1) ((i : Int) + 1) w3) Q) → Ev (f_X7_comeBack_64 (m + 1) a x.1 (sP P x.1) i w') Q := by
    intro i W w' m L Q hi hB' hd hL hl hQ
    have hn : 0 ≤ fN P (sP P x.1) i ∧ fN P (sP P x.1) i < 26 := by
      have : i = 0 ∨ i = 1 ∨ i = 2 := by omega
      rcases this with rfl | rfl | rfl
      · exact n1
      · exact n2
      · exact n3
    rw [f_X7_comeBack_64_s]
    refine Ev.pos (by first | (simp (disch := omega) only [wr_eq] <;> omega) | omega) ?_
    refine Ev.obe (nm w' (hB'.row 14) i hi) ?_
    rw [hd]
    have hL' : rC w' 22 60 (3 * (D.length : Int) + i).toNat = L := by rw [show (3 * (D.length : Int) + i).toNat = 3 * D.length + i from by omega]; exact hL
    refine Ev.bd (c_setVar hB' RI_22 hB'.2.1.2.2.2.2 (v := fN P (sP P x.1) i) (r := 3 * (D.length : Int) + i) hn (by omega) (by omega) hL' hl) ?_
    rintro y w3 ⟨y1, y2⟩
    exact hQ w3 y1 y2
  obtain ⟨m, hm⟩ : ∃ m, FU = m + 4 := ⟨FU - 4, by unfold FU; omega⟩
  rw [hm]
  have r2 : rC w2 22 60 = rC w 22 60 := (rC_fr (q1 23 (by simp)) (q1 24 (by simp))).trans r0
  have d2 : w2 76 14 = D.length := by rw [q1 76 (by simp)]; exact d0
  refine step 0 V w2 (m + 3) x.2.1 _ (by omega) B2 d2 (by rw [r2]; exact k2) xa ?_
  intro w3 y1 B3
  refine step 1 _ w3 (m + 2) x.2.2.1 _ (by omega) B3 (by rw [y1 76 (by simp)]; exact d2) (by rw [rC_fr (y1 23 (by simp)) (y1 24 (by simp)), r2]; exact k3) xb ?_
  intro w4 y2 B4
  have y12 := y1.tr y2
  refine step 2 _ w4 (m + 1) x.2.2.2 _ (by omega) B4 (by rw [y12 76 (by simp)]; exact d2) (by rw [rC_fr (y12 23 (by simp)) (y12 24 (by simp)), r2]; exact k4) xc ?_
  intro w5 y3 B5
  have y13 := y12.tr y3
  rw [show (((2 : Nat) : Int) + 1) = 3 from rfl, f_X7_comeBack_64_s]
  refine Ev.neg (by first | (simp (disch := omega) only [wr_eq] <;> omega) | omega) ?_
  have F5 : Fr [8, 9, 20, 21] w1 w5 := (q1.sub (by simp)).tr (y13.sub (by simp))
  have fin : ∀ (w6 : WS) (V' : Nat → List Int), Fr [8, 9] w5 w6 → CB P w6 V' → FR w w6 ∧ w6 82 = w 82 ∧ w6 80 = w 80 ∧ w6 76 11 = w 76 11 ∧ w6 76 12 = w 76 12 ∧ w6 76 13 = w 76 13 ∧ CRn P w6 V' D := by
    intro w6 V' z1 z2
    have F6 : Fr [8, 9, 20, 21] w1 w6 := F5.tr (z1.sub (by simp))
    have s6 : ∀ k, k ≠ 14 → w6 76 k = w 76 k := fun k hk => by rw [F6 76 (by simp)]; exact sl0 k hk
    refine ⟨⟨(F0.sub (by decide)).tr (F6.sub (by decide)), fun k _ _ _ h4 => s6 k h4⟩, (F6 82 (by simp)).trans (F0 82 (by simp)), (F6 80 (by simp)).trans (F0 80 (by simp)), s6 11 (by omega), s6 12 (by omega), s6 13 (by omega), z2, by rw [F6 76 (by simp)]; exact d0, by omega, ?_, fun y hy => hDK y (List.mem_cons_of_mem _ hy)⟩
    refine k5.mono (fun k _ => by rw [F6 78 (by simp), c78]) (fun k _ => ?_)
    rw [rC_fr (F6 23 (by simp)) (F6 24 (by simp)), r0]
  unfold backV
  rcases ha with rfl | rfl
  · refine Ev.pos rfl (Ev.ret ⟨rfl, ?_⟩)
    rw [if_neg (by decide)]
    exact fin w5 _ Fr.rf B5
  · refine Ev.neg (by decide) ?_
    rw [if_pos (by decide)]
    have eV5 : w5 61 = P.1 7 := B5.row 7
    have g7 : f_X1_get 60 x.1 w5 = some (sV P x.1, w5) := c_get40 60 rfl (by omega) eV5
    refine Ev.obe g7 ?_
    have sc5 : rC w5 19 60 (0 : Int).toNat = V (fN P (sP P x.1) 2).toNat := by rw [rC_fr (y13 20 (by simp)) (y13 21 (by simp))]; exact sc2
    refine Ev.bd (c_setVar B5 RI_19 B5.2.1.2.2.2.1 (v := sV P x.1) (r := 0) s2 (by omega) (by omega) sc5 (hB.2.2.2 _)) ?_
    rintro y w6 ⟨z1, z2⟩
    exact Ev.ret ⟨rfl, fin w6 _ z1 z2⟩
/-- the class's way to go on says what the value says -/
def RsC (P : PV) (R : Rs) (e0 v : Int) (w' : WS) : Prop := (R.1 = 0 ∧ v = R.2.1 ∧ (0 ≤ v ∧ v < sC P) ∧ w' 76 11 = e0) ∨ (R.1 = 1 ∧ v = -1 ∧ w' 76 11 = e0) ∨ (R.1 = 2 ∧ v = -2 ∧ w' 76 11 = R.2.1)
theorem c_placeOf {P : PV} {w : WS} (h57 : w 57 6 = sC P) (hc : 0 ≤ sC P ∧ sC P ≤ 40) {x : Int} (hx : 0 ≤ x ∧ x ≤ 39) : f_X7_placeOf x w = if x < sC P then some (x, w) else some (-2, up w 76 11 7) := by
  unfold f_X7_placeOf f_X7_breakOff
  rw [h57, f_isBelow (by omega) (by omega), ob_some]
  by_cases q : x < sC P
  · rw [if_pos (show 0 ≤ x ∧ x < sC P from ⟨hx.1, q⟩), if_neg (by decide), if_pos q]
  · rw [if_neg (show ¬ (0 ≤ x ∧ x < sC P) from fun z => q z.2), if_pos (by rfl), if_neg q]
    rfl
theorem c_leave_loop {P : PV} (hP : POK P) : ∀ (D : List Frm) (m : Nat) (p : Int) (s : Int) (k : Nat) (w : WS) (V : Nat → List Int), D.length < m → D.length + k ≤ 10 → (0 ≤ p ∧ p < sC P) → (s = 0 ∨ s = 1) → CRn P w V D → Ev (f_X7_leave_8 m p s k w) (fun v w' => FR w w' ∧ w' 80 = w 80 ∧ w' 76 12 = w 76 12 ∧ w' 76 13 = w 76 13 ∧ RsC P (aLv P D p (decide (s = 1)) V (w 82)) (w 76 11) v w' ∧ w' 82 = (aLv P D p (decide (s = 1)) V (w 82)).2.2.2.2 ∧ CRn P w' (aLv P D p (decide (s = 1)) V (w 82)).2.2.2.1 (aLv P D p (decide (s = 1)) V (w 82)).2.2.1) := by
  have hc40 := hP.2.2.2.2.2.2.1
  -- one statement left: what its way says, given what is done for a way back
  have one : ∀ (D : List Frm) (m : Nat) (p : Int) (s : Int) (k : Nat) (w : WS) (V : Nat → List Int) (R : Rs), D.length + k ≤ 10 → (0 ≤ p ∧ p < sC P) → (s = 0 ∨ s = 1) → CRn P w V D → R = (if aWay P p (decide (s = 1)) = -4 ∨ (aWay P p (decide (s = 1)) = -1 ∧ p + 1 = sC P) then (1, 0, D, V, aFl p (decide (s = 1)) (w 82)) else if aWay P p (decide (s = 1)) = -1 then (0, p + 1, D, V, aFl p (decide (s = 1)) (w 82)) else if 0 ≤ aWay P p (decide (s = 1)) then (if aWay P p (decide (s = 1)) < sC P then (0, aWay P p (decide (s = 1)), D, V, aFl p (decide (s = 1)) (w 82)) else (2, 7, D, V, aFl p (decide (s = 1)) (w 82))) else R) → (∀ (w1 : WS) (t : Int), FR w w1 → w1 80 = w 80 → w1 76 12 = w 76 12 → w1 76 13 = w 76 13 → w1 76 11 = w 76 11 → w1 82 = aFl p (decide (s = 1)) (w 82) → CRn P w1 V D → (aWay P p (decide (s = 1)) = -2 ∧ t = 1 ∨ aWay P p (decide (s = 1)) = -3 ∧ t = 0) → Ev (if wr (w1 76 14) = 0 then (ob (f_X7_breakOff 6 w1) fun r4 w4 => some (r4, w4)) else f_X7_leave_136 (fun x0 x1 x2 x => f_X7_leave_8 m x0 x1 x2 x) k t w1) (fun v w' => FR w w' ∧ w' 80 = w 80 ∧ w' 76 12 = w 76 12 ∧ w' 76 13 = w 76 13 ∧ RsC P R (w 76 11) v w' ∧ w' 82 = R.2.2.2.2 ∧ CRn P w' R.2.2.2.1 R.2.2.1)) → Ev (f_X7_leave_8 (m + 1) p s k w) (fun v w' => FR w w' ∧ w' 80 = w 80 ∧ w' 76 12 = w 76 12 ∧ w' 76 13 = w 76 13 ∧ RsC P R (w 76 11) v w' ∧ w' 82 = R.2.2.2.2 ∧ CRn P w' R.2.2.2.1 R.2.2.1) := by
    intro D m p s k w V R hDk hp hs h hR hB
    obtain ⟨s1, s2, s3, s4, s5, s6, s7⟩ := hP.2.2.2.2.2.2.2.1 p hp.1 hp.2
    rw [f_X7_leave_8_s]
    refine Ev.neg (by first | (simp (disch := omega) only [wr_eq] <;> omega) | omega) ?_
    have tail : ∀ w1 : WS, FR w w1 → w1 80 = w 80 → w1 76 12 = w 76 12 → w1 76 13 = w 76 13 → w1 76 11 = w 76 11 → w1 82 = aFl p (decide (s = 1)) (w 82) → CRn P w1 V D → Ev (f_X7_leave_28 (fun x0 x1 x2 x => f_X7_leave_8 m x0 x1 x2 x) p s k w1) (fun v w' => FR w w' ∧ w' 80 = w 80 ∧ w' 76 12 = w 76 12 ∧ w' 76 13 = w 76 13 ∧ RsC P R (w 76 11) v w' ∧ w' 82 = R.2.2.2.2 ∧ CRn P w' R.2.2.2.1 R.2.2.1) := by
      intro w1 f1 f2 f3 f4 f5 f6 hC
      have B1 := hC.1
      have e57 : w1 57 6 = sC P := congrFun (B1.row 15) 3
      have wy : ∀ way : Int, way = aWay P p (decide (s = 1)) → (-4 ≤ way ∧ way ≤ 39) → Ev (f_X7_leave_58 (fun x0 x1 x2 x => f_X7_leave_8 m x0 x1 x2 x) p k way w1) (fun v w' => FR w w' ∧ w' 80 = w 80 ∧ w' 76 12 = w 76 12 ∧ w' 76 13 = w 76 13 ∧ RsC P R (w 76 11) v w' ∧ w' 82 = R.2.2.2.2 ∧ CRn P w' R.2.2.2.1 R.2.2.1) := by
        intro way hw hwr
        rw [← hw] at hR hB
        unfold f_X7_leave_58
        have stop : R = (1, 0, D, V, aFl p (decide (s = 1)) (w 82)) → Ev (some ((-1 : Int), w1)) (fun v w' => FR w w' ∧ w' 80 = w 80 ∧ w' 76 12 = w 76 12 ∧ w' 76 13 = w 76 13 ∧ RsC P R (w 76 11) v w' ∧ w' 82 = R.2.2.2.2 ∧ CRn P w' R.2.2.2.1 R.2.2.1) := by
          intro e
          rw [e]
          exact Ev.ret ⟨f1, f2, f3, f4, Or.inr (Or.inl ⟨rfl, rfl, f5⟩), f6, hC⟩
        by_cases c4 : way = -4
        · refine Ev.pos (by first | (simp (disch := omega) only [wr_eq] <;> omega) | omega) ?_
          rw [if_pos (Or.inl c4)] at hR
          exact stop hR
        · refine Ev.neg (by first | (simp (disch := omega) only [wr_eq] <;> omega) | omega) ?_
          by_cases c1 : way = -1
          · refine Ev.pos (by first | (simp (disch := omega) only [wr_eq] <;> omega) | omega) ?_
            rw [e57]
            by_cases c5 : p + 1 = sC P
            · refine Ev.pos (by first | (simp (disch := omega) only [wr_eq] <;> omega) | omega) ?_
              rw [if_pos (Or.inr ⟨c1, c5⟩)] at hR
              exact stop hR
            · refine Ev.neg (by first | (simp (disch := omega) only [wr_eq] <;> omega) | omega) ?_
              have hq : ¬ (way = -4 ∨ (way = -1 ∧ p + 1 = sC P)) := by omega
              rw [if_neg hq, if_pos c1] at hR
              unfold f_X7_leave_88
              refine Ev.pos (by first | (simp (disch := omega) only [wr_eq] <;> omega) | omega) ?_
              rw [hR]
              exact Ev.ret ⟨f1, f2, f3, f4, Or.inl ⟨rfl, rfl, by omega, f5⟩, f6, hC⟩
          · refine Ev.neg (by first | (simp (disch := omega) only [wr_eq] <;> omega) | omega) ?_
            have hq : ¬ (way = -4 ∨ (way = -1 ∧ p + 1 = sC P)) := by omega
            rw [if_neg hq, if_neg c1] at hR
            unfold f_X7_leave_88
            refine Ev.neg (by first | (simp (disch := omega) only [wr_eq] <;> omega) | omega) ?_
            by_cases c0 : 0 ≤ way
            · rw [if_pos c0] at hR
              refine Ev.neg (by first | (simp (disch := omega) only [wr_eq] <;> omega) | omega) ?_
              rw [c_placeOf e57 hc40 ⟨c0, hwr.2⟩]
              by_cases c6 : way < sC P
              · rw [if_pos c6] at hR ⊢
                rw [hR, ob_some]
                exact Ev.ret ⟨f1, f2, f3, f4, Or.inl ⟨rfl, rfl, ⟨c0, c6⟩, f5⟩, f6, hC⟩
              · rw [if_neg c6] at hR ⊢
                rw [hR, ob_some]
                have F7 : Fr [76] w1 (up w1 76 11 7) := Fr.rf.up (by simp)
                refine Ev.ret ⟨f1.tr ⟨F7.sub (by decide), fun q h1 _ _ _ => up_slot _ _ _ _ h1⟩, (F7 80 (by simp)).trans f2, (up_slot _ _ _ _ (by omega)).trans f3, (up_slot _ _ _ _ (by omega)).trans f4, Or.inr (Or.inr ⟨rfl, rfl, up_same _ _ _ _⟩), (F7 82 (by simp)).trans f6, hC.fr F7 (by simp) (up_slot _ _ _ _ (by omega)) (up_slot _ _ _ _ (by omega))⟩
            · refine Ev.pos (by first | (simp (disch := omega) only [wr_eq] <;> omega) | omega) ?_
              by_cases c2 : way = -2
              · have := hB w1 1 f1 f2 f3 f4 f5 f6 hC (Or.inl ⟨c2, rfl⟩)
                rw [if_pos (show wr way = wr (-2) from by rw [c2])]
                exact this
              · have := hB w1 0 f1 f2 f3 f4 f5 f6 hC (Or.inr ⟨by omega, rfl⟩)
                rw [if_neg (show ¬ wr way = wr (-2) from (by first | (simp (disch := omega) only [wr_eq] <;> omega) | omega))]
                exact this
      unfold f_X7_leave_28
      have eY : w1 67 = P.1 10 := B1.row 10
      have eN : w1 69 = P.1 11 := B1.row 11
      have gY : f_X1_get 66 p w1 = some (sY P p, w1) := c_get40 66 rfl (by omega) eY
      have gN : f_X1_get 68 p w1 = some (sN P p, w1) := c_get40 68 rfl (by omega) eN
      rcases hs with rfl | rfl
      · refine Ev.pos rfl (Ev.obe gN (wy (sN P p) ?_ s4))
        unfold aWay
        rw [if_neg (by decide)]
      · refine Ev.neg (by decide) (Ev.obe gY (wy (sY P p) ?_ s3))
        unfold aWay
        rw [if_pos (by decide)]
    rcases hs with rfl | rfl
    · refine Ev.pos rfl ?_
      refine Ev.obe (f_increase (i := 81) (n := 40) rfl (by omega) (by omega)) ?_
      have F7 : Fr [82] w (up w (81 + 1) p.toNat (w (81 + 1) p.toNat + 1)) := Fr.rf.up (by simp)
      refine tail _ ⟨F7.sub (by decide), fun q _ _ _ _ => by rw [F7 76 (by simp)]⟩ (F7 80 (by simp)) (by rw [F7 76 (by simp)]) (by rw [F7 76 (by simp)]) (by rw [F7 76 (by simp)]) ?_ (h.fr F7 (by simp) (by rw [F7 76 (by simp)]) (by rw [F7 76 (by simp)]))
      unfold aFl
      rw [if_neg (by decide)]
      exact bump_up w 82 p.toNat
    · refine Ev.neg (by decide) ?_
      refine tail w FR.rf rfl rfl rfl rfl ?_ h
      unfold aFl
      rw [if_pos (by decide)]
  intro D
  induction D with
  | nil =>
    intro m p s k w V hm hk hp hs h
    obtain ⟨m, rfl⟩ : ∃ j, m = j + 1 := ⟨m - 1, by omega⟩
    refine one [] m p s k w V _ hk hp hs h ?_ ?_
    · unfold aLv
      by_cases c1 : aWay P p (decide (s = 1)) = -4 ∨ (aWay P p (decide (s = 1)) = -1 ∧ p + 1 = sC P)
      · rw [if_pos c1, if_pos c1]
      · rw [if_neg c1, if_neg c1]
        by_cases c2 : aWay P p (decide (s = 1)) = -1
        · rw [if_pos c2, if_pos c2]
        · rw [if_neg c2, if_neg c2]
          by_cases c3 : 0 ≤ aWay P p (decide (s = 1))
          · rw [if_pos c3, if_pos c3]
          · rw [if_neg c3, if_neg c3]
    · intro w1 t f1 f2 f3 f4 f5 f6 hC hw
      have h14 : w1 76 14 = 0 := hC.2.1
      rw [h14]
      refine Ev.pos rfl ?_
      have hR : aLv P [] p (decide (s = 1)) V (w 82) = (2, 6, [], V, aFl p (decide (s = 1)) (w 82)) := by
        unfold aLv
        rw [if_neg (by omega), if_neg (by omega), if_neg (by omega)]
      rw [hR]
      have F7 : Fr [76] w1 (up w1 76 11 6) := Fr.rf.up (by simp)
      show Ev (some ((-2 : Int), up w1 76 11 6)) _
      exact Ev.ret ⟨f1.tr ⟨F7.sub (by decide), fun q h1 _ _ _ => up_slot _ _ _ _ h1⟩, (F7 80 (by simp)).trans f2, (up_slot _ _ _ _ (by omega)).trans f3, (up_slot _ _ _ _ (by omega)).trans f4, Or.inr (Or.inr ⟨rfl, rfl, up_same _ _ _ _⟩), (F7 82 (by simp)).trans f6, hC.fr F7 (by simp) (up_slot _ _ _ _ (by omega)) (up_slot _ _ _ _ (by omega))⟩
  | cons x D ih =>
    intro m p s k w V hm hk hp hs h
    rw [List.length_cons] at hm hk
    obtain ⟨m, rfl⟩ : ∃ j, m = j + 1 := ⟨m - 1, by omega⟩
    refine one (x :: D) m p s k w V _ (by rw [List.length_cons]; omega) hp hs h ?_ ?_
    · unfold aLv
      by_cases c1 : aWay P p (decide (s = 1)) = -4 ∨ (aWay P p (decide (s = 1)) = -1 ∧ p + 1 = sC P)
      · rw [if_pos c1, if_pos c1]
      · rw [if_neg c1, if_neg c1]
        by_cases c2 : aWay P p (decide (s = 1)) = -1
        · rw [if_pos c2, if_pos c2]
        · rw [if_neg c2, if_neg c2]
          by_cases c3 : 0 ≤ aWay P p (decide (s = 1))
          · rw [if_pos c3, if_pos c3]
          · rw [if_neg c3, if_neg c3]
    · intro w1 t f1 f2 f3 f4 f5 f6 hC hw
      have h14 : w1 76 14 = (D.length : Int) + 1 := hC.2.1
      rw [h14]
      refine Ev.neg (by first | (simp (disch := omega) only [wr_eq] <;> omega) | omega) ?_
      have ht : t = 0 ∨ t = 1 := by omega
      have hR : aLv P (x :: D) p (decide (s = 1)) V (w 82) = aLv P D x.1 (decide (t = 1)) (backV P x (decide (t = 1)) V) (aFl p (decide (s = 1)) (w 82)) := by
        have e : decide (aWay P p (decide (s = 1)) = -2) = decide (t = 1) := by
          rcases hw with ⟨e1, e2⟩ | ⟨e1, e2⟩
          · rw [e1, e2]; rfl
          · rw [e1, e2]; rfl
        conv => lhs; unfold aLv
        rw [if_neg (by omega), if_neg (by omega), if_neg (by omega), e]
      rw [hR]
      unfold f_X7_leave_136
      have hx := hC.2.2.2.2 x List.mem_cons_self
      refine Ev.bd (c_comeBack hP hC ht) ?_
      rintro v w2 ⟨rfl, y1, y2, y3, y4, y5, y6, y7⟩
      have ek : ((k : Int) + 1) = ((k + 1 : Nat) : Int) := by omega
      rw [ek]
      refine Ev.mono (ih m x.1 t (k + 1) w2 _ (by omega) (by omega) hx.1 ht y7) ?_
      rintro v w3 ⟨z1, z2, z3, z4, z5, z6, z7⟩
      rw [y2, f6] at z5 z6 z7
      rw [y4, f5] at z5
      exact ⟨(f1.tr y1).tr z1, z2.trans (y3.trans f2), z3.trans (y5.trans f3), z4.trans (y6.trans f4), z5, z6, z7⟩
