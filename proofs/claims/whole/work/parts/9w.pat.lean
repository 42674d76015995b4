/-! pattern, the reference -/
theorem x_sort0 {k : Int} (hk : ¬ isPK k) (hr : IR k) (w : WS) : Ev (f_X9_sortOf k w) (fun v w1 => v = 0 ∧ w1 = w) := by
  unfold IR at hr
  unfold f_X9_sortOf
  rw [wr_eq (a := k) hr]
  repeat' (refine Ev.ite (fun c => ?_) (fun c => ?_))
  all_goals first | exact Ev.ret ⟨rfl, rfl⟩ | exact absurd (by unfold isPK; omega) hk
theorem x_isText {a n : Int} (ha : IR a) {w : WS} (hn : w 85 5 = n) (hr : 0 ≤ n ∧ n ≤ 50) : f_X9_isText a w = some (if 0 ≤ a ∧ a < n then 1 else 0, w) := by
  unfold IR at ha
  unfold f_X9_isText
  rw [hn, wr_eq (a := a) (by omega), wr_eq (a := n - 1) (by omega), f_in (by omega) (by omega) (by omega), ob_some]
  by_cases c : 0 ≤ a ∧ a < n
  · rw [if_pos (show 0 ≤ a ∧ a ≤ n - 1 by omega), if_pos c]; exact if_pos (Or.inr rfl)
  · rw [if_neg (show ¬ (0 ≤ a ∧ a ≤ n - 1) by omega), if_neg c]; exact if_pos (Or.inl rfl)
theorem rf_pattern {S : St} {w : WS} (hW : WF S) (h : JM S w) {k a b : Int} (hk : 0 ≤ k ∧ k < 65536) (ha : IR a) (hb : IR b) : Ev (f_X9_pattern k a b w) (RfQ (tq_pattern k a b S) w) := by
  have hc := hW.cnt.1
  have hN := hW.2.1
  have ha' := ha
  unfold IR at ha'
  have z0 : (up w 85 0 0) 85 0 = 0 := up_same _ _ _ _
  have z11 : (up w 85 0 0) 85 11 = pN S.2.2.1 := (up_slot _ _ _ _ (by omega)).trans h.cnt.1
  have z5 : (up w 85 0 0) 85 5 = S.2.1 := (up_slot _ _ _ _ (by omega)).trans h.2.1
  -- what comes behind the look at the parts
  have fin : ∀ (s o : Int), (o = 0 ∨ o = 1) → (s = 0 ∧ ¬ isPK k ∨ (0 < s ∧ s ≤ 7) ∧ isPK k ∧ (o = 1 ↔ ptOK k a b S.2.1 (pN S.2.2.1))) → Ev (f_X9_pattern_134 k a b s o (up w 85 0 0)) (RfQ (tq_pattern k a b S) w) := by
    intro s o ho hs
    unfold f_X9_pattern_134 f_X9_pattern_147
    rcases hs with ⟨rfl, n⟩ | ⟨s1, n, io⟩
    · refine Ev.pos rfl ?_
      rw [tq_p1 n, f_fails0 z0 1 (by omega) 1 (Or.inr rfl), if_neg (by decide), ob_some]
      exact Ev.neg (by decide) (Ev.ret (RfQ_no h 1 0 _ (by decide)))
    · refine Ev.neg (by first | (simp (disch := omega) only [wr_eq] <;> omega) | omega) ?_
      rw [f_fails0 z0 1 (by omega) 0 (Or.inl rfl), if_pos rfl, ob_some]
      refine Ev.pos rfl ?_
      unfold f_X9_pattern_165
      rcases ho with rfl | rfl
      · refine Ev.pos rfl ?_
        rw [tq_p2 n (fun q => absurd (io.mpr q) (by decide)), f_fails0 z0 2 (by omega) 1 (Or.inr rfl), if_neg (by decide), ob_some]
        exact Ev.neg (by decide) (Ev.ret (RfQ_no h 2 0 _ (by decide)))
      · refine Ev.neg (by decide) ?_
        have io := io.mp rfl
        rw [f_fails0 z0 2 (by omega) 0 (Or.inl rfl), if_pos rfl, ob_some, z11]
        refine Ev.pos rfl ?_
        unfold f_X9_pattern_187
        by_cases c3 : pN S.2.2.1 < 50
        case neg =>
          refine Ev.pos (by rw [show pN S.2.2.1 = 50 from by omega]) ?_
          rw [tq_p3 n io c3, f_fails0 z0 3 (by omega) 1 (Or.inr rfl), if_neg (by decide), ob_some]
          exact Ev.neg (by decide) (Ev.ret (RfQ_no h 3 0 _ (by decide)))
        refine Ev.neg (by first | (simp (disch := omega) only [wr_eq] <;> omega) | omega) ?_
        rw [tq_p0 n io c3, f_fails0 z0 3 (by omega) 0 (Or.inl rfl), if_pos rfl, ob_some]
        refine Ev.pos rfl ?_
        have J0 := h.z 0
        have F0 : ∀ c, c < 85 ∨ 135 ≤ c → (up w 85 0 0) c = w c := fun c hc => up_row _ _ _ (by omega)
        generalize up w 85 0 0 = w0 at J0 F0 z0 z11 ⊢
        obtain ⟨m, hm⟩ : ∃ m : Nat, pN S.2.2.1 = m := ⟨(pN S.2.2.1).toNat, by omega⟩
        have z11' : w0 85 11 = (m : Int) := z11.trans hm
        have nc : nC k = k := by unfold nC; omega
        simp (disch := omega) only [up_row, up_same, z11', ixn, Int.toNat_natCast, nc]
        refine Ev.pos (by first | (simp (disch := omega) only [wr_eq] <;> omega) | omega) ?_; refine Ev.pos (by first | (simp (disch := omega) only [wr_eq] <;> omega) | omega) ?_; refine Ev.pos (by first | (simp (disch := omega) only [wr_eq] <;> omega) | omega) ?_
        generalize hw6 : up (up (up w0 91 m k) 92 m a) 93 m b = w6
        have g : ∀ c, (c < 91 ∨ 93 < c) → w6 c = w0 c := fun c h1 => by rw [← hw6, up_row _ _ _ (by omega), up_row _ _ _ (by omega), up_row _ _ _ (by omega)]
        have g1 : w6 91 = uf (w0 91) m k := by rw [← hw6, up_row _ _ _ (by omega), up_row _ _ _ (by omega)]; exact up_uf _ _ _ _
        have g2 : w6 92 = uf (w0 92) m a := by rw [← hw6, up_row _ _ _ (by omega)]; exact (up_uf _ _ _ _).trans (by rw [up_row _ _ _ (by omega)])
        have g3 : w6 93 = uf (w0 93) m b := by rw [← hw6]; exact (up_uf _ _ _ _).trans (by rw [up_row _ _ _ (by omega), up_row _ _ _ (by omega)])
        clear hw6
        have mk' : (pN S.2.2.1).toNat = m := by omega
        have G : ∀ c, c ≠ 85 → (up w6 85 11 ((m : Int) + 1)) c = w6 c := fun c hc => up_row _ _ _ hc
        have G11 : (up w6 85 11 ((m : Int) + 1)) 85 11 = (m : Int) + 1 := up_same _ _ _ _
        have Gs : ∀ q, q ≠ 11 → (up w6 85 11 ((m : Int) + 1)) 85 q = w0 85 q := fun q hq => (up_slot _ _ _ _ hq).trans (congrFun (g 85 (by omega)) q)
        generalize up w6 85 11 ((m : Int) + 1) = w7 at G G11 Gs ⊢
        have e : ∀ c, c ≠ 85 → (c < 91 ∨ 93 < c) → w7 c = w0 c := fun c h1 h2 => (G c h1).trans (g c h2)
        obtain ⟨⟨a1, a2⟩, a3, a4, a5, ⟨b1, b2, b3⟩, a7, a8⟩ := J0
        refine Ev.ret ⟨(Gs 0 (by omega)).trans z0, fun _ => by show (m : Int) + 1 - 1 = pN S.2.2.1; omega, ⟨⟨(Gs 2 (by omega)).trans a1, by show sg (w7 86) _ _ = _; rw [e 86 (by omega) (by omega)]; exact a2⟩, (Gs 5 (by omega)).trans a3, ?_, a5.fr (e 89 (by omega) (by omega)) (e 90 (by omega) (by omega)), ⟨RM_fr (e 88 (by omega) (by omega)) b1, RM_fr (e 99 (by omega) (by omega)) b2, RM_fr (e 130 (by omega) (by omega)) b3⟩, ?_, ?_⟩, fun c hc => (e c (by omega) (by omega)).trans (F0 c hc)⟩
        · exact pvR_addP a4 (fun c hc h2 => e c (by have := LPr_ge c hc; omega) h2) (fun q hq => Gs q (by simp at hq; omega)) (by rw [mk', G 91 (by omega)]; exact g1) (by rw [mk', G 92 (by omega)]; exact g2) (by rw [mk', G 93 (by omega)]; exact g3) (by rw [hm]; exact G11)
        · rw [Gs 59 (by omega), Gs 61 (by omega), Gs 62 (by omega), Gs 60 (by omega), Gs 63 (by omega), e 125 (by omega) (by omega), e 126 (by omega) (by omega)]
          exact a7
        · rw [Gs 72 (by omega), Gs 73 (by omega), Gs 74 (by omega), Gs 75 (by omega), Gs 76 (by omega)]
          exact a8
  have yes : ∀ s, (s = 0 ∧ ¬ isPK k ∨ (0 < s ∧ s ≤ 7) ∧ isPK k ∧ ptOK k a b S.2.1 (pN S.2.2.1)) → Ev (f_X9_pattern_129 k a b s (up w 85 0 0)) (RfQ (tq_pattern k a b S) w) := fun s hs => fin s 1 (Or.inr rfl) (hs.imp id (fun q => ⟨q.1, q.2.1, ⟨fun _ => q.2.2, fun _ => rfl⟩⟩))
  have no : ∀ s, (s = 0 ∧ ¬ isPK k ∨ (0 < s ∧ s ≤ 7) ∧ isPK k ∧ ¬ ptOK k a b S.2.1 (pN S.2.2.1)) → Ev (f_X9_pattern_133 k a b s (up w 85 0 0)) (RfQ (tq_pattern k a b S) w) := fun s hs => fin s 0 (Or.inl rfl) (hs.imp id (fun q => ⟨q.1, q.2.1, ⟨fun z => absurd z (by decide), fun z => absurd z q.2.2⟩⟩))
  have one : ∀ (s : Int) (C : Prop) [Decidable C], (0 < s ∧ s ≤ 7) → isPK k → (C ↔ ptOK k a b S.2.1 (pN S.2.2.1)) → Ev (if wr (if C then (1 : Int) else 0) = 0 then f_X9_pattern_133 k a b s (up w 85 0 0) else f_X9_pattern_129 k a b s (up w 85 0 0)) (RfQ (tq_pattern k a b S) w) := by
    intro s C _ hs pk' hC
    by_cases c : C
    · rw [if_pos c]; exact Ev.neg (by decide) (yes s (Or.inr ⟨hs, pk', hC.mp c⟩))
    · rw [if_neg c]; exact Ev.pos rfl (no s (Or.inr ⟨hs, pk', fun q => c (hC.mpr q)⟩))
  unfold f_X9_pattern
  by_cases c1 : isPK k
  case neg =>
    refine Ev.bd (x_sort0 c1 (by unfold IR; omega) _) ?_
    rintro v w1 ⟨rfl, rfl⟩
    refine Ev.neg (by decide) (Ev.neg (by decide) (Ev.neg (by decide) (Ev.neg (by decide) (Ev.neg (by decide) (Ev.neg (by decide) ?_)))))
    rw [x_isVariable ha, ob_some]
    exact Ev.ite (fun _ => no 0 (Or.inl ⟨rfl, c1⟩)) (fun _ => yes 0 (Or.inl ⟨rfl, c1⟩))
  have srt : ∀ s : Int, f_X9_sortOf k (up w 85 0 0) = some (s, up w 85 0 0) → (s = 7 ∧ (∀ q : Prop, q → True) ∧ ptOK k a b S.2.1 (pN S.2.2.1) ∨ s = 1 ∧ (ptOK k a b S.2.1 (pN S.2.2.1) ↔ (0 ≤ a ∧ a < S.2.1)) ∧ True ∨ s = 2 ∧ (ptOK k a b S.2.1 (pN S.2.2.1) ↔ ((0 ≤ a ∧ a < pN S.2.2.1) ∧ (0 ≤ b ∧ b < pN S.2.2.1))) ∧ True ∨ s = 3 ∧ (ptOK k a b S.2.1 (pN S.2.2.1) ↔ (0 ≤ a ∧ a ≤ 60)) ∧ True ∨ s = 4 ∧ (ptOK k a b S.2.1 (pN S.2.2.1) ↔ (0 ≤ a ∧ a < pN S.2.2.1)) ∧ True ∨ s = 5 ∧ (ptOK k a b S.2.1 (pN S.2.2.1) ↔ ((0 ≤ a ∧ a < pN S.2.2.1) ∧ (0 ≤ b ∧ b < 26))) ∧ True ∨ s = 6 ∧ (ptOK k a b S.2.1 (pN S.2.2.1) ↔ (0 ≤ a ∧ a < 26)) ∧ True) → Ev (ob (f_X9_sortOf k (up w 85 0 0)) fun r1 w1 => if wr r1 = wr 7 then f_X9_pattern_129 k a b r1 w1 else if wr r1 = wr 1 then (ob (f_X9_isText a w1) fun r5 w5 => if wr r5 = 0 then f_X9_pattern_133 k a b r1 w5 else f_X9_pattern_129 k a b r1 w5) else if wr r1 = wr 2 then (ob (f_X9_isPattern a w1) fun r6 w6 => if wr r6 = 0 then f_X9_pattern_133 k a b r1 w6 else ob (f_X9_isPattern b w6) fun r7 w7 => if wr r7 = 0 then f_X9_pattern_133 k a b r1 w7 else f_X9_pattern_129 k a b r1 w7) else if wr r1 = wr 3 then (ob (f_X9_in (wr a) 0 60 w1) fun r8 w8 => if wr r8 = 0 then f_X9_pattern_133 k a b r1 w8 else f_X9_pattern_129 k a b r1 w8) else if wr r1 = wr 4 then (ob (f_X9_isPattern a w1) fun r9 w9 => if wr r9 = 0 then f_X9_pattern_133 k a b r1 w9 else f_X9_pattern_129 k a b r1 w9) else if wr r1 = wr 5 then (ob (f_X9_isPattern a w1) fun r10 w10 => if wr r10 = 0 then f_X9_pattern_133 k a b r1 w10 else ob (f_X9_isVariable b w10) fun r11 w11 => if wr r11 = 0 then f_X9_pattern_133 k a b r1 w11 else f_X9_pattern_129 k a b r1 w11) else ob (f_X9_isVariable a w1) fun r12 w12 => if wr r12 = 0 then f_X9_pattern_133 k a b r1 w12 else f_X9_pattern_129 k a b r1 w12) (RfQ (tq_pattern k a b S) w) := by
    intro s hs cs
    rw [hs, ob_some]
    have two : ∀ (C D : Prop) [Decidable C] [Decidable D], (0 < s ∧ s ≤ 7) → (ptOK k a b S.2.1 (pN S.2.2.1) ↔ (C ∧ D)) → ∀ (F : WS → Option (Int × WS)), F (up w 85 0 0) = some (if D then 1 else 0, up w 85 0 0) → Ev (if wr (if C then (1 : Int) else 0) = 0 then f_X9_pattern_133 k a b s (up w 85 0 0) else ob (F (up w 85 0 0)) fun r7 w7 => if wr r7 = 0 then f_X9_pattern_133 k a b s w7 else f_X9_pattern_129 k a b s w7) (RfQ (tq_pattern k a b S) w) := by
      intro C D _ _ hs7 hC F hF
      by_cases c : C
      · rw [if_pos c]
        refine Ev.neg (by decide) ?_
        rw [hF, ob_some]
        exact one s D hs7 c1 ⟨fun q => hC.mpr ⟨c, q⟩, fun q => (hC.mp q).2⟩
      · rw [if_neg c]
        exact Ev.pos rfl (no s (Or.inr ⟨hs7, c1, fun q => c (hC.mp q).1⟩))
    rcases cs with ⟨rfl, -, cs⟩ | ⟨rfl, cs, -⟩ | ⟨rfl, cs, -⟩ | ⟨rfl, cs, -⟩ | ⟨rfl, cs, -⟩ | ⟨rfl, cs, -⟩ | ⟨rfl, cs, -⟩
    · exact Ev.pos rfl (yes 7 (Or.inr ⟨by omega, c1, cs⟩))
    · refine Ev.neg (by decide) (Ev.pos rfl ?_)
      rw [x_isText ha z5 (by omega), ob_some]
      exact one 1 _ (by omega) c1 cs.symm
    · refine Ev.neg (by decide) (Ev.neg (by decide) (Ev.pos rfl ?_))
      rw [x_isPattern ha z11 hc, ob_some]
      exact two _ _ (by omega) cs (fun x => f_X9_isPattern b x) (x_isPattern hb z11 hc)
    · refine Ev.neg (by decide) (Ev.neg (by decide) (Ev.neg (by decide) (Ev.pos rfl ?_)))
      rw [wr_eq ha', f_in (by omega) (by omega) (by omega), ob_some]
      exact one 3 _ (by omega) c1 cs.symm
    · refine Ev.neg (by decide) (Ev.neg (by decide) (Ev.neg (by decide) (Ev.neg (by decide) (Ev.pos rfl ?_))))
      rw [x_isPattern ha z11 hc, ob_some]
      exact one 4 _ (by omega) c1 cs.symm
    · refine Ev.neg (by decide) (Ev.neg (by decide) (Ev.neg (by decide) (Ev.neg (by decide) (Ev.neg (by decide) (Ev.pos rfl ?_)))))
      rw [x_isPattern ha z11 hc, ob_some]
      exact two _ _ (by omega) cs (fun x => f_X9_isVariable b x) (x_isVariable hb _)
    · refine Ev.neg (by decide) (Ev.neg (by decide) (Ev.neg (by decide) (Ev.neg (by decide) (Ev.neg (by decide) (Ev.neg (by decide) ?_)))))
      rw [x_isVariable ha, ob_some]
      exact one 6 _ (by omega) c1 cs.symm
  have val : ∀ (x s : Int), k = x → f_X9_sortOf x (up w 85 0 0) = some (s, up w 85 0 0) → f_X9_sortOf k (up w 85 0 0) = some (s, up w 85 0 0) := fun x s e q => by rw [e]; exact q
  have c1' := c1
  unfold isPK at c1'
  unfold ptOK at srt
  rcases c1' with e | e | e | e | e | e | e | e | e | e | e | e | e | e | e | e | e | e | e | e | e | e | e
  · exact srt 1 (val 108 1 e rfl) (Or.inr (Or.inl ⟨rfl, by omega, trivial⟩))
  · exact srt 2 (val 124 2 e rfl) (Or.inr (Or.inr (Or.inl ⟨rfl, by omega, trivial⟩)))
  · exact srt 2 (val 38 2 e rfl) (Or.inr (Or.inr (Or.inl ⟨rfl, by omega, trivial⟩)))
  · exact srt 1 (val 110 1 e rfl) (Or.inr (Or.inl ⟨rfl, by omega, trivial⟩))
  · exact srt 1 (val 111 1 e rfl) (Or.inr (Or.inl ⟨rfl, by omega, trivial⟩))
  · exact srt 1 (val 115 1 e rfl) (Or.inr (Or.inl ⟨rfl, by omega, trivial⟩))
  · exact srt 1 (val 107 1 e rfl) (Or.inr (Or.inl ⟨rfl, by omega, trivial⟩))
  · exact srt 3 (val 35 3 e rfl) (Or.inr (Or.inr (Or.inr (Or.inl ⟨rfl, by omega, trivial⟩))))
  · exact srt 3 (val 116 3 e rfl) (Or.inr (Or.inr (Or.inr (Or.inl ⟨rfl, by omega, trivial⟩))))
  · exact srt 3 (val 114 3 e rfl) (Or.inr (Or.inr (Or.inr (Or.inl ⟨rfl, by omega, trivial⟩))))
  · exact srt 3 (val 112 3 e rfl) (Or.inr (Or.inr (Or.inr (Or.inl ⟨rfl, by omega, trivial⟩))))
  · exact srt 3 (val 113 3 e rfl) (Or.inr (Or.inr (Or.inr (Or.inl ⟨rfl, by omega, trivial⟩))))
  · exact srt 7 (val 109 7 e rfl) (Or.inl ⟨rfl, fun _ _ => trivial, by omega⟩)
  · exact srt 7 (val 42 7 e rfl) (Or.inl ⟨rfl, fun _ _ => trivial, by omega⟩)
  · exact srt 4 (val 103 4 e rfl) (Or.inr (Or.inr (Or.inr (Or.inr (Or.inl ⟨rfl, by omega, trivial⟩)))))
  · exact srt 7 (val 120 7 e rfl) (Or.inl ⟨rfl, fun _ _ => trivial, by omega⟩)
  · exact srt 7 (val 102 7 e rfl) (Or.inl ⟨rfl, fun _ _ => trivial, by omega⟩)
  · exact srt 7 (val 122 7 e rfl) (Or.inl ⟨rfl, fun _ _ => trivial, by omega⟩)
  · exact srt 7 (val 105 7 e rfl) (Or.inl ⟨rfl, fun _ _ => trivial, by omega⟩)
  · exact srt 5 (val 36 5 e rfl) (Or.inr (Or.inr (Or.inr (Or.inr (Or.inr (Or.inl ⟨rfl, by omega, trivial⟩))))))
  · exact srt 5 (val 46 5 e rfl) (Or.inr (Or.inr (Or.inr (Or.inr (Or.inr (Or.inl ⟨rfl, by omega, trivial⟩))))))
  · exact srt 6 (val 64 6 e rfl) (Or.inr (Or.inr (Or.inr (Or.inr (Or.inr (Or.inr ⟨rfl, by omega, trivial⟩))))))
  · exact srt 6 (val 118 6 e rfl) (Or.inr (Or.inr (Or.inr (Or.inr (Or.inr (Or.inr ⟨rfl, by omega, trivial⟩))))))
