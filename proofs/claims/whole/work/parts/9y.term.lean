/-! term, the reference -/
theorem addT_ok {P : PV} (h : POK P) (hn : tN P < 50) {k a b N : Int} (hN : N ≤ 30) (hk : tmOK k a b N (tN P)) : POK (addT P k a b) := by
  obtain ⟨p1, p2, p3, p4, p5, p6, p7, p8, p9⟩ := h
  have eN : tN (addT P k a b) = tN P + 1 := rfl
  refine ⟨p1, p2, fun q q1 => ?_, ⟨by rw [eN]; omega, by rw [eN]; omega⟩, p5, p6, p7, fun q q0 q1 => ?_, p9⟩
  · rw [eN] at q1
    show TK1 (uf (P.1 3) (tN P).toNat k q) (uf (P.1 4) (tN P).toNat a q) (uf (P.1 5) (tN P).toNat b q) q
    by_cases e : q = (tN P).toNat
    · rw [e, uf_same, uf_same, uf_same]
      unfold TK1
      unfold tmOK at hk
      have en : (((tN P).toNat : Nat) : Int) = tN P := by omega
      rw [en]
      rcases hk with z | z | z | z
      · exact Or.inl ⟨z.1, z.2.1, by omega⟩
      · exact Or.inr (Or.inl z)
      · exact Or.inr (Or.inr (Or.inl z))
      · exact Or.inr (Or.inr (Or.inr z))
    · rw [uf_ne e, uf_ne e, uf_ne e]
      exact p3 q (by omega)
  · obtain ⟨s1, s2, s3, s4, s5, s6, s7⟩ := p8 q q0 q1
    refine ⟨s1, s2, s3, s4, fun z => ⟨(s5 z).1, ?_⟩, fun z => ⟨(s6 z).1, ?_⟩, s7⟩
    · show sT P q < tN P + 1
      have := (s5 z).2
      omega
    · rcases (s6 z).2 with y | y
      · exact Or.inl y
      · refine Or.inr ⟨y.1, ?_⟩
        show sT P q < tN P + 1
        have := y.2
        omega
theorem tq_term_WF {k a b : Int} {S : St} (hW : WF S) : WF (tq_term k a b S).2.2 := by
  by_cases h1 : isTK k
  · by_cases h2 : tmOK k a b S.2.1 (tN S.2.2.1)
    · by_cases h3 : tN S.2.2.1 < 50
      · rw [tq_t0 h1 h2 h3]
        obtain ⟨k1, k2, k3, k4, k5, k6⟩ := hW
        exact ⟨k1, k2, addT_ok k3 h3 k2.2 h2, k4, k5, k6⟩
      · rw [tq_t3 h1 h2 h3]; exact hW
    · rw [tq_t2 h1 h2]; exact hW
  · rw [tq_t1 h1]; exact hW
theorem x_tsort0 {k : Int} (hk : ¬ isTK k) (hr : IR k) (w : WS) : Ev (f_X9_termSort k w) (fun v w1 => v = 0 ∧ w1 = w) := by
  unfold IR at hr
  unfold f_X9_termSort
  rw [wr_eq (a := k) hr]
  repeat' (refine Ev.ite (fun c => ?_) (fun c => ?_))
  all_goals first | exact Ev.ret ⟨rfl, rfl⟩ | exact absurd (by unfold isTK; omega) hk
theorem rf_term {S : St} {w : WS} (hW : WF S) (h : JM S w) {k a b : Int} (hk : 0 ≤ k ∧ k < 65536) (ha : IR a) (hb : IR b) : Ev (f_X9_term k a b w) (RfQ (tq_term k a b S) w) := by
  have hc := hW.cnt.2.1
  have hN := hW.2.1
  have ha' := ha
  unfold IR at ha'
  have z0 : (up w 85 0 0) 85 0 = 0 := up_same _ _ _ _
  have z15 : (up w 85 0 0) 85 15 = tN S.2.2.1 := (up_slot _ _ _ _ (by omega)).trans h.cnt.2.1
  have z5 : (up w 85 0 0) 85 5 = S.2.1 := (up_slot _ _ _ _ (by omega)).trans h.2.1
  have fin : ∀ (s o : Int), (o = 0 ∨ o = 1) → (s = 0 ∧ ¬ isTK k ∨ (0 < s ∧ s ≤ 7) ∧ isTK k ∧ (o = 1 ↔ tmOK k a b S.2.1 (tN S.2.2.1))) → Ev (f_X9_term_65 k a b s o (up w 85 0 0)) (RfQ (tq_term k a b S) w) := by
    intro s o ho hs
    unfold f_X9_term_65 f_X9_term_78
    rcases hs with ⟨rfl, n⟩ | ⟨s1, n, io⟩
    · refine Ev.pos rfl ?_
      rw [tq_t1 n, f_fails0 z0 1 (by omega) 1 (Or.inr rfl), if_neg (by decide), ob_some]
      exact Ev.neg (by decide) (Ev.ret (RfQ_no h 1 0 _ (by decide)))
    · refine Ev.neg (by first | (simp (disch := omega) only [wr_eq] <;> omega) | omega) ?_
      rw [f_fails0 z0 1 (by omega) 0 (Or.inl rfl), if_pos rfl, ob_some]
      refine Ev.pos rfl ?_
      unfold f_X9_term_96
      rcases ho with rfl | rfl
      · refine Ev.pos rfl ?_
        rw [tq_t2 n (fun q => absurd (io.mpr q) (by decide)), f_fails0 z0 2 (by omega) 1 (Or.inr rfl), if_neg (by decide), ob_some]
        exact Ev.neg (by decide) (Ev.ret (RfQ_no h 2 0 _ (by decide)))
      · refine Ev.neg (by decide) ?_
        have io := io.mp rfl
        rw [f_fails0 z0 2 (by omega) 0 (Or.inl rfl), if_pos rfl, ob_some, z15]
        refine Ev.pos rfl ?_
        unfold f_X9_term_118
        by_cases c3 : tN S.2.2.1 < 50
        case neg =>
          refine Ev.pos (by rw [show tN S.2.2.1 = 50 from by omega]) ?_
          rw [tq_t3 n io c3, f_fails0 z0 3 (by omega) 1 (Or.inr rfl), if_neg (by decide), ob_some]
          exact Ev.neg (by decide) (Ev.ret (RfQ_no h 3 0 _ (by decide)))
        refine Ev.neg (by first | (simp (disch := omega) only [wr_eq] <;> omega) | omega) ?_
        rw [tq_t0 n io c3, f_fails0 z0 3 (by omega) 0 (Or.inl rfl), if_pos rfl, ob_some]
        refine Ev.pos rfl ?_
        have J0 := h.z 0
        have F0 : ∀ c, c < 85 ∨ 135 ≤ c → (up w 85 0 0) c = w c := fun c hc => up_row _ _ _ (by omega)
        generalize up w 85 0 0 = w0 at J0 F0 z0 z15 ⊢
        obtain ⟨m, hm⟩ : ∃ m : Nat, tN S.2.2.1 = m := ⟨(tN S.2.2.1).toNat, by omega⟩
        have z15' : w0 85 15 = (m : Int) := z15.trans hm
        have nc : nC k = k := by unfold nC; omega
        simp (disch := omega) only [up_row, up_same, z15', ixn, Int.toNat_natCast, nc]
        refine Ev.pos (by first | (simp (disch := omega) only [wr_eq] <;> omega) | omega) ?_; refine Ev.pos (by first | (simp (disch := omega) only [wr_eq] <;> omega) | omega) ?_; refine Ev.pos (by first | (simp (disch := omega) only [wr_eq] <;> omega) | omega) ?_
        generalize hw6 : up (up (up w0 94 m k) 95 m a) 96 m b = w6
        have g : ∀ c, (c < 94 ∨ 96 < c) → w6 c = w0 c := fun c h1 => by rw [← hw6, up_row _ _ _ (by omega), up_row _ _ _ (by omega), up_row _ _ _ (by omega)]
        have g1 : w6 94 = uf (w0 94) m k := by rw [← hw6, up_row _ _ _ (by omega), up_row _ _ _ (by omega)]; exact up_uf _ _ _ _
        have g2 : w6 95 = uf (w0 95) m a := by rw [← hw6, up_row _ _ _ (by omega)]; exact (up_uf _ _ _ _).trans (by rw [up_row _ _ _ (by omega)])
        have g3 : w6 96 = uf (w0 96) m b := by rw [← hw6]; exact (up_uf _ _ _ _).trans (by rw [up_row _ _ _ (by omega), up_row _ _ _ (by omega)])
        clear hw6
        have mk' : (tN S.2.2.1).toNat = m := by omega
        have G : ∀ c, c ≠ 85 → (up w6 85 15 ((m : Int) + 1)) c = w6 c := fun c hc => up_row _ _ _ hc
        have G11 : (up w6 85 15 ((m : Int) + 1)) 85 15 = (m : Int) + 1 := up_same _ _ _ _
        have Gs : ∀ q, q ≠ 15 → (up w6 85 15 ((m : Int) + 1)) 85 q = w0 85 q := fun q hq => (up_slot _ _ _ _ hq).trans (congrFun (g 85 (by omega)) q)
        generalize up w6 85 15 ((m : Int) + 1) = w7 at G G11 Gs ⊢
        have e : ∀ c, c ≠ 85 → (c < 94 ∨ 96 < c) → w7 c = w0 c := fun c h1 h2 => (G c h1).trans (g c h2)
        obtain ⟨⟨a1, a2⟩, a3, a4, a5, ⟨b1, b2, b3⟩, a7, a8⟩ := J0
        refine Ev.ret ⟨(Gs 0 (by omega)).trans z0, fun _ => by show (m : Int) + 1 - 1 = tN S.2.2.1; omega, ⟨⟨(Gs 2 (by omega)).trans a1, by show sg (w7 86) _ _ = _; rw [e 86 (by omega) (by omega)]; exact a2⟩, (Gs 5 (by omega)).trans a3, ?_, a5.fr (e 89 (by omega) (by omega)) (e 90 (by omega) (by omega)), ⟨RM_fr (e 88 (by omega) (by omega)) b1, RM_fr (e 99 (by omega) (by omega)) b2, RM_fr (e 130 (by omega) (by omega)) b3⟩, ?_, ?_⟩, fun c hc => (e c (by omega) (by omega)).trans (F0 c hc)⟩
        · exact pvR_addT a4 (fun c hc h2 => e c (by have := LPr_ge c hc; omega) h2) (fun q hq => Gs q (by simp at hq; omega)) (by rw [mk', G 94 (by omega)]; exact g1) (by rw [mk', G 95 (by omega)]; exact g2) (by rw [mk', G 96 (by omega)]; exact g3) (by rw [hm]; exact G11)
        · rw [Gs 59 (by omega), Gs 61 (by omega), Gs 62 (by omega), Gs 60 (by omega), Gs 63 (by omega), e 125 (by omega) (by omega), e 126 (by omega) (by omega)]
          exact a7
        · rw [Gs 72 (by omega), Gs 73 (by omega), Gs 74 (by omega), Gs 75 (by omega), Gs 76 (by omega)]
          exact a8
  have one : ∀ (s : Int) (C : Prop) [Decidable C], (0 < s ∧ s ≤ 7) → isTK k → (C ↔ tmOK k a b S.2.1 (tN S.2.2.1)) → Ev (f_X9_term_65 k a b s (if C then (1 : Int) else 0) (up w 85 0 0)) (RfQ (tq_term k a b S) w) := by
    intro s C _ hs pk' hC
    by_cases c : C
    · rw [if_pos c]; exact fin s 1 (Or.inr rfl) (Or.inr ⟨hs, pk', ⟨fun _ => hC.mp c, fun _ => rfl⟩⟩)
    · rw [if_neg c]; exact fin s 0 (Or.inl rfl) (Or.inr ⟨hs, pk', ⟨fun z => absurd z (by decide), fun q => absurd (hC.mpr q) c⟩⟩)
  unfold f_X9_term
  by_cases c1 : isTK k
  case neg =>
    refine Ev.bd (x_tsort0 c1 (by unfold IR; omega) _) ?_
    rintro v w1 ⟨rfl, rfl⟩
    refine Ev.neg (by decide) (Ev.neg (by decide) ?_)
    rw [x_isTerm ha z15 hc, ob_some]
    refine Ev.ite (fun _ => fin 0 0 (Or.inl rfl) (Or.inl ⟨rfl, c1⟩)) (fun _ => ?_)
    refine Ev.neg (by decide) ?_
    rw [x_isTerm hb z15 hc, ob_some]
    exact Ev.ite (fun _ => fin 0 0 (Or.inl rfl) (Or.inl ⟨rfl, c1⟩)) (fun _ => fin 0 1 (Or.inr rfl) (Or.inl ⟨rfl, c1⟩))
  have tx : f_X9_termSort k (up w 85 0 0) = some (1, up w 85 0 0) → (tmOK k a b S.2.1 (tN S.2.2.1) ↔ (0 ≤ a ∧ a < S.2.1)) → Ev (f_X9_term k a b w) (RfQ (tq_term k a b S) w) := by
    intro hs cs
    unfold f_X9_term
    rw [hs, ob_some]
    refine Ev.pos rfl ?_
    rw [x_isText ha z5 (by omega), ob_some]
    exact one 1 _ (by omega) c1 cs.symm
  have vr : f_X9_termSort k (up w 85 0 0) = some (2, up w 85 0 0) → (tmOK k a b S.2.1 (tN S.2.2.1) ↔ (0 ≤ a ∧ a < 26)) → Ev (f_X9_term k a b w) (RfQ (tq_term k a b S) w) := by
    intro hs cs
    unfold f_X9_term
    rw [hs, ob_some]
    refine Ev.neg (by decide) (Ev.pos rfl ?_)
    rw [x_isVariable ha, ob_some]
    exact one 2 _ (by omega) c1 cs.symm
  have un : f_X9_termSort k (up w 85 0 0) = some (3, up w 85 0 0) → (tmOK k a b S.2.1 (tN S.2.2.1) ↔ (0 ≤ a ∧ a < tN S.2.2.1)) → Ev (f_X9_term k a b w) (RfQ (tq_term k a b S) w) := by
    intro hs cs
    unfold f_X9_term
    rw [hs, ob_some]
    refine Ev.neg (by decide) (Ev.neg (by decide) ?_)
    rw [x_isTerm ha z15 hc, ob_some]
    by_cases c : 0 ≤ a ∧ a < tN S.2.2.1
    · rw [if_pos c]
      exact Ev.neg (by decide) (Ev.pos rfl (fin 3 1 (Or.inr rfl) (Or.inr ⟨by omega, c1, ⟨fun _ => cs.mpr c, fun _ => rfl⟩⟩)))
    · rw [if_neg c]
      exact Ev.pos rfl (fin 3 0 (Or.inl rfl) (Or.inr ⟨by omega, c1, ⟨fun z => absurd z (by decide), fun q => absurd (cs.mp q) c⟩⟩))
  have bi : f_X9_termSort k (up w 85 0 0) = some (4, up w 85 0 0) → (tmOK k a b S.2.1 (tN S.2.2.1) ↔ ((0 ≤ a ∧ a < tN S.2.2.1) ∧ (0 ≤ b ∧ b < tN S.2.2.1))) → Ev (f_X9_term k a b w) (RfQ (tq_term k a b S) w) := by
    intro hs cs
    unfold f_X9_term
    rw [hs, ob_some]
    refine Ev.neg (by decide) (Ev.neg (by decide) ?_)
    rw [x_isTerm ha z15 hc, ob_some]
    by_cases c : 0 ≤ a ∧ a < tN S.2.2.1
    · rw [if_pos c]
      refine Ev.neg (by decide) (Ev.neg (by decide) ?_)
      rw [x_isTerm hb z15 hc, ob_some]
      by_cases d : 0 ≤ b ∧ b < tN S.2.2.1
      · rw [if_pos d]
        exact Ev.neg (by decide) (fin 4 1 (Or.inr rfl) (Or.inr ⟨by omega, c1, ⟨fun _ => cs.mpr ⟨c, d⟩, fun _ => rfl⟩⟩))
      · rw [if_neg d]
        exact Ev.pos rfl (fin 4 0 (Or.inl rfl) (Or.inr ⟨by omega, c1, ⟨fun z => absurd z (by decide), fun q => absurd (cs.mp q).2 d⟩⟩))
    · rw [if_neg c]
      exact Ev.pos rfl (fin 4 0 (Or.inl rfl) (Or.inr ⟨by omega, c1, ⟨fun z => absurd z (by decide), fun q => absurd (cs.mp q).1 c⟩⟩))
  have val : ∀ (x s : Int), k = x → f_X9_termSort x (up w 85 0 0) = some (s, up w 85 0 0) → f_X9_termSort k (up w 85 0 0) = some (s, up w 85 0 0) := fun x s e q => by rw [e]; exact q
  have c1' := c1
  unfold isTK at c1'
  unfold f_X9_term at tx vr un bi
  unfold tmOK at tx vr un bi
  rcases c1' with e | e | e | e | e | e | e | e | e | e | e | e | e
  · exact tx (val 116 1 e rfl) (by omega)
  · exact vr (val 118 2 e rfl) (by omega)
  · exact un (val 119 3 e rfl) (by omega)
  · exact bi (val 43 4 e rfl) (by omega)
  · exact bi (val 45 4 e rfl) (by omega)
  · exact bi (val 42 4 e rfl) (by omega)
  · exact bi (val 47 4 e rfl) (by omega)
  · exact bi (val 38 4 e rfl) (by omega)
  · exact un (val 35 3 e rfl) (by omega)
  · exact un (val 114 3 e rfl) (by omega)
  · exact bi (val 100 4 e rfl) (by omega)
  · exact bi (val 61 4 e rfl) (by omega)
  · exact bi (val 60 4 e rfl) (by omega)
