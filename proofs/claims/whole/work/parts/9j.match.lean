/-! a match, between calls -/
def stV (S : St) (V : Nat → List Int) : St := (S.1, S.2.1, S.2.2.1, V, S.2.2.2.2)
def KcL : List Nat := [8, 9, 11, 12, 14, 15, 17, 18, 20, 21, 23, 24, 39, 40, 41, 42, 43, 44, 45, 46, 47, 49, 50, 51, 52, 53, 56, 84]
theorem KC_lt : ∀ c ∈ KcL, c < 85 := by decide
theorem LPc_KC : ∀ c ∈ LPc, c ∉ KcL := by decide
theorem JC.via {S : St} {w w' : WS} (h : JC S w) (F : Fr KcL w w') (o10 : RO w' 10 60 26) (o13 : RO w' 13 60 1) (o16 : RO w' 16 60 50) (o19 : RO w' 19 60 1) (o22 : RO w' 22 60 30) {V : Nat → List Int} (hv : VC w' V) : JC (stV S V) w' := by
  obtain ⟨⟨a1, a2⟩, a3, a4, a5, ⟨b1, b2, b3, b4, b5, b6⟩, a7⟩ := h
  have e0 := F 0 (by decide)
  refine ⟨⟨(congrFun (rC_fr (F 2 (by decide)) (F 3 (by decide))) 0).trans a1, RO_fr (F 3 (by decide)) a2⟩, by rw [e0]; exact a3, by rw [e0, pvC_eq (w := w) (fun c hc => F c (LPc_KC c hc))]; exact a4, hv, ⟨RO_fr (F 6 (by decide)) b1, o10, o13, o16, o19, o22⟩, ?_⟩
  unfold cSt
  rw [F 76 (by decide), e0, F 80 (by decide), F 82 (by decide)]
  exact a7
def KmL : List Nat := [85, 89, 90, 97, 98, 99, 100, 101, 102, 103, 104, 105, 106, 107, 108, 109, 110, 111, 112, 113, 127, 128, 129, 130, 131, 132, 133, 134]
theorem KM_ge : ∀ c ∈ KmL, 85 ≤ c ∧ c < 135 := by decide
theorem LPr_KM : ∀ c ∈ LPr, c ∉ KmL := by decide
theorem JM.via {S : St} {w w' : WS} (h : JM S w) (F : Fr KmL w w') (s : ∀ k, k ∈ LPs → w' 85 k = w 85 k) (o99 : RM w' 99 60 50) (o130 : RM w' 130 60 30) {V : Nat → List Int} (hv : VM w' V) : JM (stV S V) w' := by
  obtain ⟨⟨a1, a2⟩, a3, a4, a5, ⟨b1, b2, b3⟩, a7, a8⟩ := h
  refine ⟨⟨(s 2 (by decide)).trans a1, by show sg (w' 86) _ _ = _; rw [F 86 (by decide)]; exact a2⟩, (s 5 (by decide)).trans a3, by rw [pvR_eq (w := w) (fun c hc => F c (LPr_KM c hc)) (fun k hk => s k (by revert hk; unfold LPs; simp; omega))]; exact a4, hv, ⟨RM_fr (F 88 (by decide)) b1, o99, o130⟩, ?_, ?_⟩
  · rw [s 59 (by decide), s 61 (by decide), s 62 (by decide), s 60 (by decide), s 63 (by decide), F 125 (by decide), F 126 (by decide)]
    exact a7
  · rw [s 72 (by decide), s 73 (by decide), s 74 (by decide), s 75 (by decide), s 76 (by decide)]
    exact a8
theorem ClQ_val {q : TQ} {w w' : WS} (h0 : q.1 = 0) (hJ : JC q.2.2 w') (hF : ∀ c, 85 ≤ c → w' c = w c) {v : Int} (hv : v = wr q.2.1) : Ev (if 0 ≤ wr 0 ∧ wr 0 < 1 then some (0, up w' 135 (wr 0).toNat v) else none) (ClQ q w) := by
  rw [hv]
  exact ClQ_put h0 hJ hF
theorem x_isPattern {a n : Int} (ha : IR a) {w : WS} (hn : w 85 11 = n) (hr : 0 ≤ n ∧ n ≤ 50) : f_X9_isPattern a w = some (if 0 ≤ a ∧ a < n then 1 else 0, w) := by
  unfold IR at ha
  unfold f_X9_isPattern
  rw [hn, wr_eq (a := a) (by omega), wr_eq (a := n - 1) (by omega), f_in (by omega) (by omega) (by omega), ob_some]
  by_cases c : 0 ≤ a ∧ a < n
  · rw [if_pos (show 0 ≤ a ∧ a ≤ n - 1 by omega), if_pos c]; exact if_pos (Or.inr rfl)
  · rw [if_neg (show ¬ (0 ≤ a ∧ a ≤ n - 1) by omega), if_neg c]; exact if_pos (Or.inl rfl)
theorem x_isTerm {a n : Int} (ha : IR a) {w : WS} (hn : w 85 15 = n) (hr : 0 ≤ n ∧ n ≤ 50) : f_X9_isTerm a w = some (if 0 ≤ a ∧ a < n then 1 else 0, w) := by
  unfold IR at ha
  unfold f_X9_isTerm
  rw [hn, wr_eq (a := a) (by omega), wr_eq (a := n - 1) (by omega), f_in (by omega) (by omega) (by omega), ob_some]
  by_cases c : 0 ≤ a ∧ a < n
  · rw [if_pos (show 0 ≤ a ∧ a ≤ n - 1 by omega), if_pos c]; exact if_pos (Or.inr rfl)
  · rw [if_neg (show ¬ (0 ≤ a ∧ a ≤ n - 1) by omega), if_neg c]; exact if_pos (Or.inl rfl)
noncomputable def mtE (a : Int) (S : St) : MS := aEnd (pE S.2.2.1 S.1 a) (aSt0 S.2.2.2.1)
noncomputable def tq_match (a : Int) (S : St) : TQ := if 0 ≤ a ∧ a < pN S.2.2.1 then (if (mtE a S).1 = 6 then (2, 0, S) else if (mtE a S).1 = 4 then (0, 1, (S.1, S.2.1, S.2.2.1, asgT S.1 (vOf (mtE a S)) (tOf (mtE a S)), S.2.2.2.2.1, (1, 1, sOf (mtE a S), cOf (mtE a S), bOf (mtE a S), (S.1.length : Int)))) else (0, 0, (S.1, S.2.1, S.2.2.1, vOf (mtE a S), S.2.2.2.2.1, (1, 0, sOf (mtE a S), cOf (mtE a S), bOf (mtE a S), (S.1.length : Int))))) else (1, 0, S)
theorem mt_ok {a : Int} {S : St} (hW : WF S) (ha : 0 ≤ a ∧ a < pN S.2.2.1) : EOK (pE S.2.2.1 S.1 a) ∧ AOK (pE S.2.2.1 S.1 a) (mtE a S) ∧ 4 ≤ (mtE a S).1 ∧ (mtE a S).1 ≤ 6 := by
  have hE := hW.2.2.1.E hW.1 ha
  have hA := AOK.end_ hE (aSt0_ok (E := pE S.2.2.1 S.1 a) hW.2.2.2.1) (by show 3 ≤ 6; omega)
  exact ⟨hE, hA⟩
theorem tq_match_WF {a : Int} {S : St} (hW : WF S) : WF (tq_match a S).2.2 := by
  unfold tq_match
  by_cases c : 0 ≤ a ∧ a < pN S.2.2.1
  · rw [if_pos c]
    obtain ⟨h1, h2, h3, h4⟩ := mt_ok hW c
    by_cases c6 : (mtE a S).1 = 6
    · rw [if_pos c6]; exact hW
    rw [if_neg c6]
    by_cases c4 : (mtE a S).1 = 4
    · rw [if_pos c4]
      obtain ⟨a1, a2, a3, a4, a5⟩ := h2.md4 c4
      exact ⟨hW.1, hW.2.1, hW.2.2.1, asgT_ok hW.1 _ h2.vok, hW.2.2.2.2.1, Or.inr rfl, Or.inr rfl, fun _ => ⟨a3, a4, a5, by show (S.1.length : Int) ≤ 60; have := hW.1.2; omega⟩⟩
    · rw [if_neg c4]
      exact ⟨hW.1, hW.2.1, hW.2.2.1, h2.vok, hW.2.2.2.2.1, Or.inr rfl, Or.inl rfl, fun q => absurd (show (0 : Int) = 1 from q) (by decide)⟩
  · rw [if_neg c]; exact hW
theorem JC.E {S : St} {w : WS} (h : JC S w) (a : Int) : (w 27, w 29, w 31, rC w 4 20, rC w 1 60 0, w 0 12, a, pN S.2.2.1) = pE S.2.2.1 S.1 a := by
  have e := h.2.2.1
  have r := fun i => congrFun (congrArg Prod.fst e) i
  have t : rC w 4 20 = S.2.2.1.2 := congrArg Prod.snd e
  have e12 : w 0 12 = S.2.2.1.1 15 0 := congrFun (r 15) 0
  rw [show w 27 = S.2.2.1.1 0 from r 0, show w 29 = S.2.2.1.1 1 from r 1, show w 31 = S.2.2.1.1 2 from r 2, t, h.1.1, e12]
  rfl
theorem JM.E {S : St} {w : WS} (h : JM S w) (a : Int) : (w 91, w 92, w 93, rM w 87 88 20, S.1, w 85 21, a, pN S.2.2.1) = pE S.2.2.1 S.1 a := by
  have e := h.2.2.1
  have r := fun i => congrFun (congrArg Prod.fst e) i
  have t : rM w 87 88 20 = S.2.2.1.2 := congrArg Prod.snd e
  have e12 : w 85 21 = S.2.2.1.1 15 0 := congrFun (r 15) 0
  rw [show w 91 = S.2.2.1.1 0 from r 0, show w 92 = S.2.2.1.1 1 from r 1, show w 93 = S.2.2.1.1 2 from r 2, t, e12]
  rfl
theorem cl_matchq {S : St} {w : WS} (hW : WF S) (h : JC S w) {a : Int} (ha : IR a) : Ev (f_L_match a w) (ClQ (tq_match a S) w) := by
  have hP := hW.2.2.1
  have hc := hW.cnt.1
  have h25 := h.cnt.1
  have hl := hW.1.2
  unfold f_L_match tq_match
  refine Ev.ocX ?_
  unfold f_X8_match
  by_cases c : 0 ≤ a ∧ a < pN S.2.2.1
  · rw [if_pos c]
    refine Ex.ok (by rw [x_needPattern ha (by unfold IR; omega), h25, if_pos c]) ?_
    obtain ⟨hE, hA, h4, h6⟩ := mt_ok hW c
    have o := h.2.2.2.2.1
    refine Ex.bd (f_copyAll RI_10 RI_7 (by omega) o.2.1 h.2.2.2.1.2) ?_
    rintro v w1 ⟨-, q1, q2, q3⟩
    have q1 : Fr [11, 12] w w1 := q1
    rw [h.2.2.2.1.1] at q3
    have e : ∀ c, c ≠ 11 → c ≠ 12 → w1 c = w c := fun c h1 h2 => q1 c (by simp; omega)
    have hEA := hE.2.2.2.2.2.2.2.1
    have o7 : RO w1 7 60 26 := RO_fr (e 9 (by omega) (by omega)) h.2.2.2.1.2
    have r7 : rC w1 7 60 = S.2.2.2.1 := (rC_fr (e 8 (by omega) (by omega)) (e 9 (by omega) (by omega))).trans h.2.2.2.1.1
    have r4 : rC w1 4 20 = rC w 4 20 := rC_fr (e 5 (by omega) (by omega)) (e 6 (by omega) (by omega))
    have r1 : rC w1 1 60 = rC w 1 60 := rC_fr (e 2 (by omega) (by omega)) (e 3 (by omega) (by omega))
    have e0 : w1 0 = w 0 := e 0 (by omega) (by omega)
    have e12 : w 0 12 = S.2.2.1.1 15 0 := congrFun (congrFun (congrArg Prod.fst h.2.2.1) 15) 0
    have pre := c_prepare RI_1 (w := w1) (RO_fr (e 3 (by omega) (by omega)) h.1.2) (RO_fr (e 6 (by omega) (by omega)) o.1) (RO_fr (e 15 (by omega) (by omega)) o.2.2.1) o7 (r := 0) (p := a) (an := w1 0 12) (by omega) (by omega) (by rw [e0, e12]; exact hEA) (pN S.2.2.1)
    rw [e 27 (by omega) (by omega), e 29 (by omega) (by omega), e 31 (by omega) (by omega), r4, r1, r7, e0, show rC w 1 60 (0 : Int).toNat = rC w 1 60 0 from rfl, h.E a] at pre
    rw [e0]
    refine Ex.bd pre ?_
    rintro v w2 ⟨-, p1, p2⟩
    refine Ex.bd (c_seek hE (aSt0_ok hW.2.2.2.1) p2 (Or.inr rfl)) ?_
    rintro v w3 ⟨rfl, s1, s2⟩
    have em : aEnd (pE S.2.2.1 S.1 a) (aSt0 S.2.2.2.1) = mtE a S := rfl
    rw [em] at s1 ⊢
    generalize mtE a S = R at *
    have F3 : Fr KcL w w3 := ((q1.sub (by decide)).tr (p1.sub (by decide))).tr (s2.sub (by decide))
    have o10 : RO w3 10 60 26 := RO_fr ((s2 12 (by decide)).trans (p1 12 (by simp))) q2
    have r10 : rC w3 10 60 = S.2.2.2.1 := (rC_fr ((s2 11 (by decide)).trans (p1 11 (by simp))) ((s2 12 (by decide)).trans (p1 12 (by simp)))).trans q3
    have o16 : RO w3 16 60 50 := RO_fr ((s2 18 (by decide)).trans ((p1 18 (by simp)).trans (e 18 (by omega) (by omega)))) o.2.2.2.1
    have o19 : RO w3 19 60 1 := RO_fr ((s2 21 (by decide)).trans ((p1 21 (by simp)).trans (e 21 (by omega) (by omega)))) o.2.2.2.2.1
    have o22 : RO w3 22 60 30 := RO_fr ((s2 24 (by decide)).trans ((p1 24 (by simp)).trans (e 24 (by omega) (by omega)))) o.2.2.2.2.2
    obtain ⟨x1, x2⟩ := s1.any (by omega)
    have J3 := h.via F3 o10 x1.2.2.2.2.2.2.1 o16 o19 o22 x2
    by_cases c6 : R.1 = 6
    · rw [if_pos c6, c6]
      refine Ex.pos rfl ?_
      refine Ex.bd (f_copyAll RI_7 RI_10 (by omega) J3.2.2.2.1.2 o10) ?_
      rintro v w4 ⟨-, t1, t2, t3⟩
      have t1 : Fr [8, 9] w3 w4 := t1
      rw [r10] at t3
      have F4 : Fr KcL w w4 := F3.tr (t1.sub (by decide))
      have J4 := h.via F4 (RO_fr (t1 12 (by simp)) o10) (RO_fr (t1 15 (by simp)) x1.2.2.2.2.2.2.1) (RO_fr (t1 18 (by simp)) o16) (RO_fr (t1 21 (by simp)) o19) (RO_fr (t1 24 (by simp)) o22) (V := S.2.2.2.1) ⟨t3, t2⟩
      refine Ex.ret (Ev.neg (by decide) (Ev.neg (by decide) (Ev.pos rfl (Ev.ret ⟨rfl, fun q => absurd (show (2 : Int) = 0 from q) (by decide), J4, fun c hc _ => F4 c (fun q => by have := KC_lt c q; omega)⟩))))
    rw [if_neg c6]
    have J3' := J3
    obtain ⟨⟨a1, a2⟩, a3, a4, a5, ⟨b1, b2, b3, b4, b5, b6⟩, a7⟩ := J3
    -- what is set down of the match
    have put : ∀ (w4 : WS) (ok x y z : Int), (ok = 0 ∨ ok = 1) → w4 = (up (up (up (up (up w3 0 13 1) 0 14 ok) 0 17 z) 0 15 x) 0 16 y) → f_X6_length 1 0 w4 = some ((S.1.length : Int), w4) ∧ JC (S.1, S.2.1, S.2.2.1, vOf R, S.2.2.2.2.1, (1, ok, x, y, z, (S.1.length : Int))) (up w4 0 18 (S.1.length : Int)) ∧ (∀ c, c ≠ 0 → (up w4 0 18 (S.1.length : Int)) c = w3 c) ∧ (up w4 0 18 (S.1.length : Int)) 0 14 = ok := by
      intro w4 ok x y z hok hw
      have g : ∀ c, c ≠ 0 → w4 c = w3 c := fun c hc => by rw [hw, up_row _ _ _ hc, up_row _ _ _ hc, up_row _ _ _ hc, up_row _ _ _ hc, up_row _ _ _ hc]
      have s13 : w4 0 13 = 1 := by rw [hw, up_slot _ _ _ _ (by omega), up_slot _ _ _ _ (by omega), up_slot _ _ _ _ (by omega), up_slot _ _ _ _ (by omega), up_same]
      have s14 : w4 0 14 = ok := by rw [hw, up_slot _ _ _ _ (by omega), up_slot _ _ _ _ (by omega), up_slot _ _ _ _ (by omega), up_same]
      have s17 : w4 0 17 = z := by rw [hw, up_slot _ _ _ _ (by omega), up_slot _ _ _ _ (by omega), up_same]
      have s15 : w4 0 15 = x := by rw [hw, up_slot _ _ _ _ (by omega), up_same]
      have s16 : w4 0 16 = y := by rw [hw, up_same]
      have so : ∀ k, k ≠ 13 → k ≠ 14 → k ≠ 15 → k ≠ 16 → k ≠ 17 → w4 0 k = w3 0 k := fun k h1 h2 h3 h4 h5 => by rw [hw, up_slot _ _ _ _ h4, up_slot _ _ _ _ h3, up_slot _ _ _ _ h5, up_slot _ _ _ _ h2, up_slot _ _ _ _ h1]
      clear hw
      have gl : ∀ c, c ≠ 0 → (up w4 0 18 (S.1.length : Int)) c = w3 c := fun c hc => (up_row _ _ _ hc).trans (g c hc)
      refine ⟨?_, ⟨⟨(congrFun (rC_fr (gl 2 (by omega)) (gl 3 (by omega))) 0).trans a1, RO_fr (gl 3 (by omega)) a2⟩, ?_, ?_, a5.fr (gl 8 (by omega)) (gl 9 (by omega)), ⟨RO_fr (gl 6 (by omega)) b1, RO_fr (gl 12 (by omega)) b2, RO_fr (gl 15 (by omega)) b3, RO_fr (gl 18 (by omega)) b4, RO_fr (gl 21 (by omega)) b5, RO_fr (gl 24 (by omega)) b6⟩, ?_⟩, gl, ?_⟩
      · rw [f_length RI_1 (a := 0) (by omega), show w4 (1 + 2) (0 : Int).toNat = (S.1.length : Int) from (congrFun (g 3 (by omega)) 0).trans J3'.lnT.1]
      · rw [up_slot _ _ _ _ (by omega), so 2 (by omega) (by omega) (by omega) (by omega) (by omega)]; exact a3
      · rw [up_slot _ _ _ _ (by omega), so 12 (by omega) (by omega) (by omega) (by omega) (by omega), pvC_eq (w := w3) (fun c hc => gl c (by intro q; rw [q] at hc; exact absurd hc (by decide)))]
        exact a4
      · refine ⟨?_, ?_, ?_, ?_, fun _ => ⟨?_, ?_, ?_⟩⟩
        · show ((up w4 0 18 (S.1.length : Int)) 76 10, (up w4 0 18 (S.1.length : Int)) 76 11, (up w4 0 18 (S.1.length : Int)) 76 12, (up w4 0 18 (S.1.length : Int)) 76 13, (up w4 0 18 (S.1.length : Int)) 76 14, (up w4 0 18 (S.1.length : Int)) 80, (up w4 0 18 (S.1.length : Int)) 82) = _
          rw [gl 76 (by omega), gl 80 (by omega), gl 82 (by omega)]
          exact a7.1
        · show (up w4 0 18 (S.1.length : Int)) 0 13 = 1
          exact (up_slot _ _ _ _ (by omega)).trans s13
        · show (up w4 0 18 (S.1.length : Int)) 0 14 = ok
          exact (up_slot _ _ _ _ (by omega)).trans s14
        · show (up w4 0 18 (S.1.length : Int)) 0 17 = z
          exact (up_slot _ _ _ _ (by omega)).trans s17
        · show (up w4 0 18 (S.1.length : Int)) 0 15 = x
          exact (up_slot _ _ _ _ (by omega)).trans s15
        · show (up w4 0 18 (S.1.length : Int)) 0 16 = y
          exact (up_slot _ _ _ _ (by omega)).trans s16
        · show (up w4 0 18 (S.1.length : Int)) 0 18 = (S.1.length : Int)
          exact up_same _ _ _ _
      · rw [up_slot _ _ _ _ (by omega)]; exact s14
    have F85 : ∀ c, 85 ≤ c → w3 c = w c := fun c hc => F3 c (fun q => by have := KC_lt c q; omega)
    have n39 : ∀ (u : WS) (k : Nat) (v : Int), (up u 0 k v) 39 = u 39 := fun u k v => up_row _ _ _ (by omega)
    by_cases c4 : R.1 = 4
    · rw [if_pos c4, c4]
      refine Ex.neg (by decide) (Ex.pos rfl ?_)
      obtain ⟨y1, y2, y3, y4, y5, y6⟩ := s1.md4 c4
      obtain ⟨z1, z2, z3, z4, z5⟩ := hA.md4 c4
      unfold f_X8_match_83
      rw [if_pos (Or.inr rfl)]
      simp only [n39]
      rw [y4, y5, y6]
      obtain ⟨k1, k2, k3, k4⟩ := put _ 1 (sOf R) (cOf R) (bOf R) (Or.inr rfl) rfl
      generalize up (up (up (up (up w3 0 13 1) 0 14 1) 0 17 (bOf R)) 0 15 (sOf R)) 0 16 (cOf R) = w4 at k1 k2 k3 k4 ⊢
      refine Ex.obe k1 ?_
      generalize up w4 0 18 (S.1.length : Int) = w5 at k2 k3 k4 ⊢
      rw [k4]
      refine Ex.neg (by decide) ?_
      have E5 : EC (pE S.2.2.1 S.1 a) w5 := by
        obtain ⟨u1, u2, u3, u4, u5, u6, u7, u8, u9, u10⟩ := y1
        exact ⟨(k3 27 (by omega)).trans u1, (k3 29 (by omega)).trans u2, (k3 31 (by omega)).trans u3, (rC_fr (k3 5 (by omega)) (k3 6 (by omega))).trans u4, RO_fr (k3 6 (by omega)) u5, (congrFun (rC_fr (k3 14 (by omega)) (k3 15 (by omega))) 0).trans u6, RO_fr (k3 15 (by omega)) u7, by rw [k3 39 (by omega)]; exact u8, by rw [k3 39 (by omega)]; exact u9, by rw [k3 39 (by omega)]; exact u10⟩
      have T5 : tkC w5 (tOf R) := y3.fr (by rw [k3 50 (by omega)]) (k3 51 (by omega)) (k3 52 (by omega)) (k3 53 (by omega))
      refine Ex.bd (c_assignTaken (E := pE S.2.2.1 S.1 a) hl z1 (by omega) E5 k2.2.2.2.1 T5) ?_
      rintro v w6 ⟨-, t1, t2⟩
      have t2 : VC w6 (asgT S.1 (vOf R) (tOf R)) := t2
      rw [t1 0 (by simp), k4]
      refine Ex.pos (Or.inr rfl) (Ex.ret (Ev.pos rfl (Ev.neg (by decide) ?_)))
      have o5 := k2.2.2.2.2.1
      have J6 := k2.via (t1.sub (by decide)) (RO_fr (t1 12 (by simp)) o5.2.1) (RO_fr (t1 15 (by simp)) o5.2.2.1) (RO_fr (t1 18 (by simp)) o5.2.2.2.1) (RO_fr (t1 21 (by simp)) o5.2.2.2.2.1) (RO_fr (t1 24 (by simp)) o5.2.2.2.2.2) t2
      exact ClQ_val (q := (0, 1, (S.1, S.2.1, S.2.2.1, asgT S.1 (vOf R) (tOf R), S.2.2.2.2.1, (1, 1, sOf R, cOf R, bOf R, (S.1.length : Int))))) rfl J6 (fun c hc => (t1 c (by simp; omega)).trans ((k3 c (by omega)).trans (F85 c hc))) rfl
    · rw [if_neg c4]
      have m5 : R.1 = 5 := by omega
      rw [m5]
      refine Ex.neg (by decide) (Ex.neg (by decide) ?_)
      have y6 : w3 39 12 = bOf R := by
        obtain ⟨md, g, cc, K, C, T, b, V, s⟩ := R
        have m5 : md = 5 := m5
        subst m5
        exact s1.2.1
      unfold f_X8_match_83
      rw [if_pos (Or.inl rfl)]
      simp only [n39]
      rw [y6]
      obtain ⟨k1, k2, k3, k4⟩ := put _ 0 (w3 39 11) (w3 39 14) (bOf R) (Or.inl rfl) rfl
      generalize up (up (up (up (up w3 0 13 1) 0 14 0) 0 17 (bOf R)) 0 15 (w3 39 11)) 0 16 (w3 39 14) = w4 at k1 k2 k3 k4 ⊢
      refine Ex.obe k1 ?_
      generalize up w4 0 18 (S.1.length : Int) = w5 at k2 k3 k4 ⊢
      rw [k4]
      refine Ex.pos rfl (Ex.pos (Or.inl rfl) (Ex.ret (Ev.pos rfl (Ev.pos rfl ?_))))
      have J6 : JC (S.1, S.2.1, S.2.2.1, vOf R, S.2.2.2.2.1, (1, 0, sOf R, cOf R, bOf R, (S.1.length : Int))) w5 := by
        obtain ⟨l1, l2, l3, l4, l5, l6⟩ := k2
        exact ⟨l1, l2, l3, l4, l5, l6.1, l6.2.1, l6.2.2.1, l6.2.2.2.1, fun q => absurd (show (0 : Int) = 1 from q) (by decide)⟩
      exact ClQ_val (q := (0, 0, (S.1, S.2.1, S.2.2.1, vOf R, S.2.2.2.2.1, (1, 0, sOf R, cOf R, bOf R, (S.1.length : Int))))) rfl J6 (fun c hc => (k3 c (by omega)).trans (F85 c hc)) rfl
  · rw [if_neg c]
    refine Ex.no (t := 3) (by rw [x_needPattern ha (by unfold IR; omega), h25, if_neg c]) (by decide) ?_
    exact Ev.neg (by decide) (Ev.pos rfl (Ev.ret (ClQ_no h 1 0 (by decide))))
