theorem cl_pattern {S : St} {w : WS} (hW : WF S) (h : JC S w) {k a b : Int} (ha : IR a) (hb : IR b) : Ev (f_L_pattern k a b w) (ClQ (tq_pattern k a b S) w) := by
  have hc := hW.cnt.1
  have hN := hW.2.1
  have h25 := h.cnt.1
  unfold f_L_pattern
  refine Ev.ocX ?_
  unfold f_X8_pattern
  obtain ⟨i1, i2⟩ := kIx_rng kPat k 0 (by omega) (by omega) (by unfold kPat; simp)
  by_cases c1 : isPK k
  case neg =>
    rw [tq_p1 c1, i2 (fun q => c1 ((kPat_mem k).mp q))]
    exact Ex.pos (by decide) (Ex.ret (Ev.neg (by decide) (Ev.pos rfl (Ev.ret (ClQ_no h 1 0 (by decide))))))
  have i1 := i1 ((kPat_mem k).mpr c1)
  have il : (kPat.length : Int) = 23 := rfl
  refine Ex.neg (by rw [wr_eq (by omega)]; omega) ?_
  refine Ex.obe (x_parts c1 ha hb h.2.1 h25 (by unfold IR; omega) (by unfold IR; omega)) ?_
  by_cases c2 : ptOK k a b S.2.1 (pN S.2.2.1)
  case neg =>
    rw [if_neg c2, tq_p2 c1 c2]
    exact Ex.pos rfl (Ex.ret (Ev.neg (by decide) (Ev.neg (by decide) (Ev.pos rfl (Ev.ret (ClQ_no h 2 0 (by decide)))))))
  rw [if_pos c2]
  refine Ex.neg (by decide) ?_
  have full : f_X0_isFull 25 w = some (if pN S.2.2.1 < 50 then 0 else 1, w) := by
    unfold f_X0_isFull
    rw [h25, show (wdt 25 : Int) = 50 from rfl, wr_eq (a := pN S.2.2.1) (by omega), wr_eq (a := 50) (by omega)]
    by_cases c : pN S.2.2.1 < 50
    · rw [if_pos c, if_pos c]
    · rw [if_neg c, if_neg c]
  refine Ex.obe full ?_
  by_cases c3 : pN S.2.2.1 < 50
  case neg =>
    rw [if_neg c3, tq_p3 c1 c2 c3]
    exact Ex.neg (by decide) (Ex.ret (Ev.neg (by decide) (Ev.neg (by decide) (Ev.neg (by decide) (Ev.pos rfl (Ev.ret (ClQ_no h 3 0 (by decide))))))))
  rw [if_pos c3, tq_p0 c1 c2 c3]
  refine Ex.pos rfl ?_
  unfold f_X0_add
  have add : Ev (ob (f_X1_put (25 + 1) (w 25 4) k w) fun _ w1 => ob (f_X1_put (25 + 3) (w 25 4) a w1) fun _ w2 => ob (f_X1_put (25 + 5) (w 25 4) b w2) fun _ w3 => some ((w 25 4), (up w3 25 4 ((w3 25 4) + 1)))) (fun r w' => r = pN S.2.2.1 ∧ JC (stP S (addP S.2.2.1 k a b)) w' ∧ ∀ c, 85 ≤ c → w' c = w c) := by
    refine Ev.obe (f_put (i := 26) (n := 50) rfl (by omega) (by omega)) ?_
    refine Ev.obe (f_put (i := 28) (n := 50) rfl (by omega) (by omega)) ?_
    refine Ev.obe (f_put (i := 30) (n := 50) rfl (by omega) (by omega)) ?_
    rw [h25]
    generalize hw6 : up (up (up w (26 + 1) (pN S.2.2.1).toNat k) (28 + 1) (pN S.2.2.1).toNat a) (30 + 1) (pN S.2.2.1).toNat b = w6
    have g : ∀ c, c ≠ 27 → c ≠ 29 → c ≠ 31 → w6 c = w c := fun c h1 h2 h3 => by rw [← hw6, up_row _ _ _ h3, up_row _ _ _ h2, up_row _ _ _ h1]
    have g1 : w6 27 = uf (w 27) (pN S.2.2.1).toNat k := by rw [← hw6, up_row _ _ _ (by omega), up_row _ _ _ (by omega)]; exact up_uf _ _ _ _
    have g2 : w6 29 = uf (w 29) (pN S.2.2.1).toNat a := by rw [← hw6, up_row _ _ _ (by omega)]; exact (up_uf _ _ _ _).trans (by rw [up_row _ _ _ (by omega)])
    have g3 : w6 31 = uf (w 31) (pN S.2.2.1).toNat b := by rw [← hw6]; exact (up_uf _ _ _ _).trans (by rw [up_row _ _ _ (by omega), up_row _ _ _ (by omega)])
    have g25 : w6 25 4 = pN S.2.2.1 := (congrFun (g 25 (by omega) (by omega) (by omega)) 4).trans h25
    clear hw6
    rw [g25]
    have G : ∀ c, c ≠ 25 → (up w6 25 4 (pN S.2.2.1 + 1)) c = w6 c := fun c hc => up_row _ _ _ hc
    have G4 : (up w6 25 4 (pN S.2.2.1 + 1)) 25 4 = pN S.2.2.1 + 1 := up_same _ _ _ _
    generalize up w6 25 4 (pN S.2.2.1 + 1) = w7 at G G4 ⊢
    have e : ∀ c, (c < 25 ∨ 31 < c) → w7 c = w c := fun c hc => (G c (by omega)).trans (g c (by omega) (by omega) (by omega))
    obtain ⟨⟨a1, a2⟩, a3, a4, a5, ⟨b1, b2, b3, b4, b5, b6⟩, a7⟩ := h
    have e0 := e 0 (by omega)
    refine Ev.ret ⟨rfl, ⟨⟨(congrFun (rC_fr (e 2 (by omega)) (e 3 (by omega))) 0).trans a1, RO_fr (e 3 (by omega)) a2⟩, by rw [e0]; exact a3, ?_, a5.fr (e 8 (by omega)) (e 9 (by omega)), ⟨RO_fr (e 6 (by omega)) b1, RO_fr (e 12 (by omega)) b2, RO_fr (e 15 (by omega)) b3, RO_fr (e 18 (by omega)) b4, RO_fr (e 21 (by omega)) b5, RO_fr (e 24 (by omega)) b6⟩, ?_⟩, fun c hc => e c (by omega)⟩
    · rw [e0]
      exact pvC_addP a4 (fun c _ h1 h2 h3 h4 => (G c h4).trans (g c h1 h2 h3)) ((G 27 (by omega)).trans g1) ((G 29 (by omega)).trans g2) ((G 31 (by omega)).trans g3) G4
    · unfold cSt
      rw [e 76 (by omega), e0, e 80 (by omega), e 82 (by omega)]
      exact a7
  refine Ex.bd add ?_
  rintro r w1 ⟨rfl, q1, q2⟩
  exact Ex.ret (Ev.pos rfl (ClQ_put (q := (0, pN S.2.2.1, stP S (addP S.2.2.1 k a b))) rfl q1 q2))
