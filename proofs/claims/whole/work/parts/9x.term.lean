/-! term, the class (f_X8_term and f_L_term stand here until the generated part holds them) -/
def isTK (k : Int) : Prop := k = 116 ∨ k = 118 ∨ k = 119 ∨ k = 43 ∨ k = 45 ∨ k = 42 ∨ k = 47 ∨ k = 38 ∨ k = 35 ∨ k = 114 ∨ k = 100 ∨ k = 61 ∨ k = 60
def tmOK (k a b N n : Int) : Prop := (k = 116 ∧ 0 ≤ a ∧ a < N) ∨ (k = 118 ∧ 0 ≤ a ∧ a < 26) ∨ ((k = 119 ∨ k = 35 ∨ k = 114) ∧ 0 ≤ a ∧ a < n) ∨ ((k = 43 ∨ k = 45 ∨ k = 42 ∨ k = 47 ∨ k = 38 ∨ k = 100 ∨ k = 61 ∨ k = 60) ∧ 0 ≤ a ∧ a < n ∧ 0 ≤ b ∧ b < n)
theorem x_tparts {k a b : Int} (hk : isTK k) (ha : IR a) (hb : IR b) {w : WS} {N n : Int} (h2 : w 0 2 = N) (h32 : w 32 4 = n) (hN : IR N) (hn : IR n) : f_X8_termPartsExist k a b w = some (@ite Int (tmOK k a b N n) (Classical.propDecidable _) 1 0, w) := by
  have h26 : IR 26 := by unfold IR; omega
  unfold f_X8_termPartsExist
  rw [h2, h32]
  have two : (∀ q : Prop, q → True) → tmOK k a b N n = tmOK k a b N n → (tmOK k a b N n ↔ ((0 ≤ a ∧ a < n) ∧ (0 ≤ b ∧ b < n))) → (ob (f_X8_isBelow a n w) fun r6 w6 => if wr r6 = 0 then some ((0 : Int), w6) else ob (f_X8_isBelow b (w6 32 4) w6) fun r7 w7 => if wr r7 = 0 then some (0, w7) else some (1, w7)) = some (@ite Int (tmOK k a b N n) (Classical.propDecidable _) 1 0, w) := by
    intro _ _ hC
    refine (pb2 ha hb hn (m := fun w1 => w1 32 4) (by show IR (w 32 4); rw [h32]; exact hn)).trans ?_
    rw [h32]
    exact congrArg (fun x => some (x, w)) (itc hC.symm)
  rcases hk with rfl | rfl | rfl | rfl | rfl | rfl | rfl | rfl | rfl | rfl | rfl | rfl | rfl
  all_goals simp (disch := omega) only [wr_eq, Int.reduceEq, ↓reduceIte]
  · rw [pb1 ha hN]; exact congrArg (fun x => some (x, w)) (itc (by unfold tmOK; omega))
  · rw [pb1 ha h26]; exact congrArg (fun x => some (x, w)) (itc (by unfold tmOK; omega))
  · rw [pb1 ha hn]; exact congrArg (fun x => some (x, w)) (itc (by unfold tmOK; omega))
  · exact two (fun _ _ => trivial) rfl (by unfold tmOK; omega)
  · exact two (fun _ _ => trivial) rfl (by unfold tmOK; omega)
  · exact two (fun _ _ => trivial) rfl (by unfold tmOK; omega)
  · exact two (fun _ _ => trivial) rfl (by unfold tmOK; omega)
  · exact two (fun _ _ => trivial) rfl (by unfold tmOK; omega)
  · rw [pb1 ha hn]; exact congrArg (fun x => some (x, w)) (itc (by unfold tmOK; omega))
  · rw [pb1 ha hn]; exact congrArg (fun x => some (x, w)) (itc (by unfold tmOK; omega))
  · exact two (fun _ _ => trivial) rfl (by unfold tmOK; omega)
  · exact two (fun _ _ => trivial) rfl (by unfold tmOK; omega)
  · exact two (fun _ _ => trivial) rfl (by unfold tmOK; omega)
def kTrm : List Int := [116, 118, 119, 43, 45, 42, 47, 38, 35, 114, 100, 61, 60]
theorem kTrm_mem (k : Int) : k ∈ kTrm ↔ isTK k := by
  unfold kTrm isTK
  simp only [List.mem_cons, List.not_mem_nil, or_false]
def f_X8_term (a1 : Int) (a2 : Int) (a3 : Int) (w : WS) : Option (Nat × Int × WS) := if wr (kIx kTrm a1 0) < 0 then some (1, 0, w) else ob (f_X8_termPartsExist a1 a2 a3 w) fun r1 w1 => if wr r1 = 0 then some (3, 0, w1) else ob (f_X0_isFull 32 w1) fun r2 w2 => if wr r2 = 0 then (ob (f_X0_add 32 a1 a2 a3 w2) fun r3 w3 => some (0, r3, w3)) else some (2, 0, w2)
def f_L_term (a1 : Int) (a2 : Int) (a3 : Int) (w : WS) : Option (Int × WS) := oc (f_X8_term a1 a2 a3 w) (fun r1 w1 => if 0 ≤ wr 0 ∧ wr 0 < 1 then some (0, (up w1 135 (wr 0).toNat (wr r1))) else none) (fun t w2 => if t = 1 then some (1, w2) else if t = 3 then some (2, w2) else if t = 2 then some (3, w2) else none)
noncomputable def tq_term (k a b : Int) (S : St) : TQ := @ite TQ (isTK k) (Classical.propDecidable _) (@ite TQ (tmOK k a b S.2.1 (tN S.2.2.1)) (Classical.propDecidable _) (if tN S.2.2.1 < 50 then (0, tN S.2.2.1, stP S (addT S.2.2.1 k a b)) else (3, 0, S)) (2, 0, S)) (1, 0, S)
theorem tq_t1 {k a b : Int} {S : St} (h : ¬ isTK k) : tq_term k a b S = (1, 0, S) := if_neg h
theorem tq_t2 {k a b : Int} {S : St} (h : isTK k) (h2 : ¬ tmOK k a b S.2.1 (tN S.2.2.1)) : tq_term k a b S = (2, 0, S) := (if_pos h).trans (if_neg h2)
theorem tq_t3 {k a b : Int} {S : St} (h : isTK k) (h2 : tmOK k a b S.2.1 (tN S.2.2.1)) (h3 : ¬ tN S.2.2.1 < 50) : tq_term k a b S = (3, 0, S) := (if_pos h).trans ((if_pos h2).trans (if_neg h3))
theorem tq_t0 {k a b : Int} {S : St} (h : isTK k) (h2 : tmOK k a b S.2.1 (tN S.2.2.1)) (h3 : tN S.2.2.1 < 50) : tq_term k a b S = (0, tN S.2.2.1, stP S (addT S.2.2.1 k a b)) := (if_pos h).trans ((if_pos h2).trans (if_pos h3))
theorem cl_term {S : St} {w : WS} (hW : WF S) (h : JC S w) {k a b : Int} (ha : IR a) (hb : IR b) : Ev (f_L_term k a b w) (ClQ (tq_term k a b S) w) := by
  have hc := hW.cnt.2.1
  have hN := hW.2.1
  have h32 := h.cnt.2.1
  unfold f_L_term
  refine Ev.ocX ?_
  unfold f_X8_term
  obtain ⟨i1, i2⟩ := kIx_rng kTrm k 0 (by omega) (by omega) (by unfold kTrm; simp)
  by_cases c1 : isTK k
  case neg =>
    rw [tq_t1 c1, i2 (fun q => c1 ((kTrm_mem k).mp q))]
    exact Ex.pos (by decide) (Ex.ret (Ev.neg (by decide) (Ev.pos rfl (Ev.ret (ClQ_no h 1 0 (by decide))))))
  have i1 := i1 ((kTrm_mem k).mpr c1)
  have il : (kTrm.length : Int) = 13 := rfl
  refine Ex.neg (by rw [wr_eq (by omega)]; omega) ?_
  refine Ex.obe (x_tparts c1 ha hb h.2.1 h32 (by unfold IR; omega) (by unfold IR; omega)) ?_
  by_cases c2 : tmOK k a b S.2.1 (tN S.2.2.1)
  case neg =>
    rw [if_neg c2, tq_t2 c1 c2]
    exact Ex.pos rfl (Ex.ret (Ev.neg (by decide) (Ev.neg (by decide) (Ev.pos rfl (Ev.ret (ClQ_no h 2 0 (by decide)))))))
  rw [if_pos c2]
  refine Ex.neg (by decide) ?_
  have full : f_X0_isFull 32 w = some (if tN S.2.2.1 < 50 then 0 else 1, w) := by
    unfold f_X0_isFull
    rw [h32, show (wdt 32 : Int) = 50 from rfl, wr_eq (a := tN S.2.2.1) (by omega), wr_eq (a := 50) (by omega)]
    by_cases c : tN S.2.2.1 < 50
    · rw [if_pos c, if_pos c]
    · rw [if_neg c, if_neg c]
  refine Ex.obe full ?_
  by_cases c3 : tN S.2.2.1 < 50
  case neg =>
    rw [if_neg c3, tq_t3 c1 c2 c3]
    exact Ex.neg (by decide) (Ex.ret (Ev.neg (by decide) (Ev.neg (by decide) (Ev.neg (by decide) (Ev.pos rfl (Ev.ret (ClQ_no h 3 0 (by decide))))))))
  rw [if_pos c3, tq_t0 c1 c2 c3]
  refine Ex.pos rfl ?_
  unfold f_X0_add
  have add : Ev (ob (f_X1_put (32 + 1) (w 32 4) k w) fun _ w1 => ob (f_X1_put (32 + 3) (w 32 4) a w1) fun _ w2 => ob (f_X1_put (32 + 5) (w 32 4) b w2) fun _ w3 => some ((w 32 4), (up w3 32 4 ((w3 32 4) + 1)))) (fun r w' => r = tN S.2.2.1 ∧ JC (stP S (addT S.2.2.1 k a b)) w' ∧ ∀ c, 85 ≤ c → w' c = w c) := by
    refine Ev.obe (f_put (i := 33) (n := 50) rfl (by omega) (by omega)) ?_
    refine Ev.obe (f_put (i := 35) (n := 50) rfl (by omega) (by omega)) ?_
    refine Ev.obe (f_put (i := 37) (n := 50) rfl (by omega) (by omega)) ?_
    rw [h32]
    generalize hw6 : up (up (up w (33 + 1) (tN S.2.2.1).toNat k) (35 + 1) (tN S.2.2.1).toNat a) (37 + 1) (tN S.2.2.1).toNat b = w6
    have g : ∀ c, c ≠ 34 → c ≠ 36 → c ≠ 38 → w6 c = w c := fun c h1 h2 h3 => by rw [← hw6, up_row _ _ _ h3, up_row _ _ _ h2, up_row _ _ _ h1]
    have g1 : w6 34 = uf (w 34) (tN S.2.2.1).toNat k := by rw [← hw6, up_row _ _ _ (by omega), up_row _ _ _ (by omega)]; exact up_uf _ _ _ _
    have g2 : w6 36 = uf (w 36) (tN S.2.2.1).toNat a := by rw [← hw6, up_row _ _ _ (by omega)]; exact (up_uf _ _ _ _).trans (by rw [up_row _ _ _ (by omega)])
    have g3 : w6 38 = uf (w 38) (tN S.2.2.1).toNat b := by rw [← hw6]; exact (up_uf _ _ _ _).trans (by rw [up_row _ _ _ (by omega), up_row _ _ _ (by omega)])
    have g32 : w6 32 4 = tN S.2.2.1 := (congrFun (g 32 (by omega) (by omega) (by omega)) 4).trans h32
    clear hw6
    rw [g32]
    have G : ∀ c, c ≠ 32 → (up w6 32 4 (tN S.2.2.1 + 1)) c = w6 c := fun c hc => up_row _ _ _ hc
    have G4 : (up w6 32 4 (tN S.2.2.1 + 1)) 32 4 = tN S.2.2.1 + 1 := up_same _ _ _ _
    generalize up w6 32 4 (tN S.2.2.1 + 1) = w7 at G G4 ⊢
    have e : ∀ c, (c < 32 ∨ 38 < c) → w7 c = w c := fun c hc => (G c (by omega)).trans (g c (by omega) (by omega) (by omega))
    obtain ⟨⟨a1, a2⟩, a3, a4, a5, ⟨b1, b2, b3, b4, b5, b6⟩, a7⟩ := h
    have e0 := e 0 (by omega)
    refine Ev.ret ⟨rfl, ⟨⟨(congrFun (rC_fr (e 2 (by omega)) (e 3 (by omega))) 0).trans a1, RO_fr (e 3 (by omega)) a2⟩, by rw [e0]; exact a3, ?_, a5.fr (e 8 (by omega)) (e 9 (by omega)), ⟨RO_fr (e 6 (by omega)) b1, RO_fr (e 12 (by omega)) b2, RO_fr (e 15 (by omega)) b3, RO_fr (e 18 (by omega)) b4, RO_fr (e 21 (by omega)) b5, RO_fr (e 24 (by omega)) b6⟩, ?_⟩, fun c hc => e c (by omega)⟩
    · rw [e0]
      exact pvC_addT a4 (fun c _ h1 h2 h3 h4 => (G c h4).trans (g c h1 h2 h3)) ((G 34 (by omega)).trans g1) ((G 36 (by omega)).trans g2) ((G 38 (by omega)).trans g3) G4
    · unfold cSt
      rw [e 76 (by omega), e0, e 80 (by omega), e 82 (by omega)]
      exact a7
  refine Ex.bd add ?_
  rintro r w1 ⟨rfl, q1, q2⟩
  exact Ex.ret (Ev.pos rfl (ClQ_put (q := (0, tN S.2.2.1, stP S (addT S.2.2.1 k a b))) rfl q1 q2))
