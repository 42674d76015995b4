/-! texts and variables between calls -/
def DQ (q : Int × St) (w : WS) (v : Int) (w' : WS) : Prop := v = q.1 ∧ JC q.2 w' ∧ ∀ c, 85 ≤ c → w' c = w c
theorem f_holds {i wd n : Nat} (hi : RI i wd n) {w : WS} (ho : RO w i wd n) {a b : Int} (ha : 0 ≤ a ∧ a < n) (hb : IR b) : f_X6_holds i a b w = some (if 0 ≤ b ∧ b < ((rC w i wd a.toNat).length : Int) then 1 else 0, w) := by
  unfold IR at hb
  have hl := ln (z := i + 2) rfl ho a.toNat
  obtain ⟨h1, h2, h3, h4, h5, h6, -⟩ := hi
  refine Ev.toEq ?_
  unfold f_X6_holds
  rw [h3, wr_eq (a := a) (by omega), wr_eq (a := b) (by omega), wr_eq (a := (n : Int)) (by omega), ← hl.1]
  refine Ev.neg (by first | (simp (disch := omega) only [wr_eq] <;> omega) | omega) ?_; refine Ev.pos (by first | (simp (disch := omega) only [wr_eq] <;> omega) | omega) ?_
  have hi : ∀ {c : Prop} {d : Decidable c} (h : c), (@ite Int c d 1 0) = 1 := fun h => if_pos h
  have lo : ∀ {c : Prop} {d : Decidable c} (h : ¬ c), (@ite Int c d 1 0) = 0 := fun h => if_neg h
  have hlw : ((rC w i wd a.toNat).length : Int) < 2147483648 := by omega
  generalize (rC w i wd a.toNat).length = L at *
  refine Ev.ite (fun c => Ev.ret ⟨(lo (by omega)).symm, rfl⟩) (fun c => ?_)
  refine Ev.pos ha ?_
  rw [wr_eq (a := (L : Int)) (by omega)]
  exact Ev.ite (fun c2 => Ev.ret ⟨(hi (by omega)).symm, rfl⟩) (fun c2 => Ev.ret ⟨(lo (by omega)).symm, rfl⟩)
theorem x_needVariable {a : Int} (ha : IR a) (w : WS) : f_X8_needVariable a w = some (if 0 ≤ a ∧ a < 26 then 0 else 3, 0, w) := by
  unfold IR at ha
  unfold f_X8_needVariable
  rw [f_isBelow (by omega) (by omega), ob_some]
  by_cases c : 0 ≤ a ∧ a < 26
  · rw [if_pos c, if_pos c]; exact if_neg (by decide)
  · rw [if_neg c, if_neg c]; exact if_pos rfl
theorem JC.lnT {S : St} {w : WS} (h : JC S w) : w 3 0 = S.1.length ∧ S.1.length ≤ 60 := by
  have hl := ln (z := 3) (w := w) rfl h.1.2 0
  rw [h.1.1] at hl
  exact ⟨hl.1.symm, by omega⟩
theorem JC.lnV {S : St} {w : WS} (h : JC S w) (r : Nat) : w 9 r = (S.2.2.2.1 r).length ∧ (S.2.2.2.1 r).length ≤ 60 := by
  have hl := ln (z := 9) (w := w) rfl h.2.2.2.1.2 r
  rw [h.2.2.2.1.1] at hl
  exact ⟨hl.1.symm, by omega⟩
theorem cl_wipe {S : St} {w : WS} (h : JC S w) : Ev (f_X8_wipe w) (DQ (S.1.length, ([], S.2)) w) := by
  unfold f_X8_wipe
  refine Ev.obe (f_length RI_1 (a := 0) (by omega)) ?_
  refine Ev.obe (f_clear RI_1 (a := 0) (by omega)) ?_
  have F : Fr [2, 3] w (up w (1 + 2) (0 : Int).toNat 0) := Fr.rf.up (by simp)
  refine Ev.ret ⟨h.lnT.1, h.typed F (RO_clear _ h.1.2) ?_, fun c hc => F c (by simp; omega)⟩
  rw [rC_clear]
  exact vs_same _ _ _
theorem rf_wipe {S : St} {w : WS} (h : JM S w) : Ev (f_X9_wipe w) (RfQ (0, S.1.length, ([], S.2)) w) := by
  unfold f_X9_wipe
  have F : FX [85, 86] [0, 2] w (up (up w 85 0 0) 85 2 0) := (FX.rf.put 0 _ (by simp) (by simp)).put 2 _ (by simp) (by simp)
  exact Ev.ret ⟨by rw [up_slot _ _ _ _ (by omega), up_same], fun _ => (up_slot _ _ _ _ (by omega)).trans h.1.1, h.typed F (up_same _ _ _ _) rfl, fun c hc => F.1 c (by simp; omega)⟩
theorem pvC_texts {w w' : WS} (e : ∀ c, c ∈ LPc → c ≠ 5 → c ≠ 6 → w' c = w c) (an : Int) : pvC w' an = ((pvC w an).1, rC w' 4 20) := by
  unfold pvC
  rw [e 27 (by decide) (by decide) (by decide), e 29 (by decide) (by decide) (by decide), e 31 (by decide) (by decide) (by decide), e 34 (by decide) (by decide) (by decide), e 36 (by decide) (by decide) (by decide), e 38 (by decide) (by decide) (by decide), e 59 (by decide) (by decide) (by decide), e 61 (by decide) (by decide) (by decide), e 63 (by decide) (by decide) (by decide), e 65 (by decide) (by decide) (by decide), e 67 (by decide) (by decide) (by decide), e 69 (by decide) (by decide) (by decide), e 71 (by decide) (by decide) (by decide), e 73 (by decide) (by decide) (by decide), e 75 (by decide) (by decide) (by decide), e 25 (by decide) (by decide) (by decide), e 32 (by decide) (by decide) (by decide), e 57 (by decide) (by decide) (by decide)]
theorem pvR_texts {w w' : WS} (e : ∀ c, c ∈ LPr → c ≠ 87 → c ≠ 88 → w' c = w c) (s : ∀ k, k ∈ [21, 11, 15, 51] → w' 85 k = w 85 k) : pvR w' = ((pvR w).1, rM w' 87 88 20) := by
  have en : nmR w' = nmR w := by
    funext k
    unfold nmR
    rw [e 122 (by decide) (by decide) (by decide), e 123 (by decide) (by decide) (by decide), e 124 (by decide) (by decide) (by decide)]
  unfold pvR
  rw [e 91 (by decide) (by decide) (by decide), e 92 (by decide) (by decide) (by decide), e 93 (by decide) (by decide) (by decide), e 94 (by decide) (by decide) (by decide), e 95 (by decide) (by decide) (by decide), e 96 (by decide) (by decide) (by decide), e 114 (by decide) (by decide) (by decide), e 115 (by decide) (by decide) (by decide), e 116 (by decide) (by decide) (by decide), e 117 (by decide) (by decide) (by decide), e 118 (by decide) (by decide) (by decide), e 119 (by decide) (by decide) (by decide), e 120 (by decide) (by decide) (by decide), e 121 (by decide) (by decide) (by decide), en, s 21 (by simp), s 11 (by simp), s 15 (by simp), s 51 (by simp)]
def tq_text (S : St) : TQ := if 20 < S.1.length then (1, 0, S) else if S.2.1 < 30 then (0, S.2.1, ([], S.2.1 + 1, (S.2.2.1.1, vs S.2.2.1.2 S.2.1.toNat S.1), S.2.2.2)) else (2, 0, S)
theorem tq_text_WF {S : St} (h : WF S) : WF (tq_text S).2.2 := by
  unfold tq_text
  by_cases c : 20 < S.1.length
  · rw [if_pos c]; exact h
  rw [if_neg c]
  by_cases c2 : S.2.1 < 30
  · rw [if_pos c2]
    obtain ⟨h1, h2, h3, h4, h5⟩ := h
    refine ⟨⟨SO_nil, by simp⟩, ⟨by show 0 ≤ S.2.1 + 1; omega, by show S.2.1 + 1 ≤ 30; omega⟩, ?_, h4, h5⟩
    obtain ⟨p1, p2, p3, p4, p5, p6, p7, p8, p9⟩ := h3
    refine ⟨p1, p2, p3, p4, fun r => ?_, p6, p7, p8, p9⟩
    show SO (vs S.2.2.1.2 S.2.1.toNat S.1 r) ∧ (vs S.2.2.1.2 S.2.1.toNat S.1 r).length ≤ 20
    by_cases e : r = S.2.1.toNat
    · rw [e, vs_same]; exact ⟨h1.1, by omega⟩
    · rw [vs_ne _ _ e]; exact p5 r
  · rw [if_neg c2]; exact h
theorem cl_text {S : St} {w : WS} (hW : WF S) (h : JC S w) : Ev (f_L_text w) (ClQ (tq_text S) w) := by
  have h3 := h.lnT.1
  have hl := hW.1.2
  have hN := hW.2.1
  unfold f_L_text
  refine Ev.ocX ?_
  unfold f_X8_text tq_text
  refine Ex.obe (f_length RI_1 (a := 0) (by omega)) ?_
  rw [show w (1 + 2) (0 : Int).toNat = (S.1.length : Int) from h3]
  by_cases c : 20 < S.1.length
  · rw [if_pos c]
    refine Ex.pos (by first | (simp (disch := omega) only [wr_eq] <;> omega) | omega) (Ex.ret ?_)
    exact Ev.neg (by decide) (Ev.pos rfl (Ev.ret (ClQ_no h 1 0 (by decide))))
  rw [if_neg c]
  refine Ex.neg (by first | (simp (disch := omega) only [wr_eq] <;> omega) | omega) ?_
  rw [h.2.1]
  by_cases c2 : S.2.1 < 30
  · rw [if_pos c2]
    refine Ex.pos (by first | (simp (disch := omega) only [wr_eq] <;> omega) | omega) ?_
    refine Ex.bd (f_copy RI_4 h.2.2.2.2.1.1 RI_1 h.1.2 (a := S.2.1) (b := 0) (by omega) (by omega) (by omega) (by show w 3 0 ≤ (20 : Int); omega)) ?_
    rintro v w1 ⟨-, q1, q2, q3⟩
    have q1 : Fr [5, 6] w w1 := q1
    refine Ex.obe (f_clear RI_1 (a := 0) (by omega)) ?_
    have F : Fr [2, 3, 5, 6] w (up w1 (1 + 2) (0 : Int).toNat 0) := (q1.sub (by simp)).up (by simp)
    have o1 : RO (up w1 (1 + 2) (0 : Int).toNat 0) 1 60 1 := RO_clear _ (RO_fr (q1 3 (by simp)) h.1.2)
    have r1 : rC (up w1 (1 + 2) (0 : Int).toNat 0) 1 60 0 = [] := by rw [rC_clear]; exact vs_same _ _ _
    have r5 : rC (up w1 (1 + 2) (0 : Int).toNat 0) 4 20 = vs S.2.2.1.2 S.2.1.toNat S.1 := by
      rw [rC_fr (up_row _ _ _ (by omega)) (up_row _ _ _ (by omega)), q3, show rC w 4 20 = S.2.2.1.2 from congrArg Prod.snd h.2.2.1, show rC w 1 60 (0 : Int).toNat = S.1 from h.1.1]
    have o5 : RO (up w1 (1 + 2) (0 : Int).toNat 0) 4 20 30 := RO_fr (up_row _ _ _ (by omega)) q2
    generalize up w1 (1 + 2) (0 : Int).toNat 0 = w2 at F o1 r1 r5 o5 ⊢
    have e : ∀ c, c ≠ 2 → c ≠ 3 → c ≠ 5 → c ≠ 6 → w2 c = w c := fun c h1 h2 h3 h4 => F c (by simp; omega)
    have e0 : w2 0 = w 0 := e 0 (by omega) (by omega) (by omega) (by omega)
    have z2 : w1 0 2 = S.2.1 := by rw [q1 0 (by simp)]; exact h.2.1
    have y2 : w2 0 2 = S.2.1 := by rw [e0]; exact h.2.1
    rw [y2]
    refine Ex.ret (Ev.pos rfl ?_)
    refine ClQ_put (q := (0, S.2.1, ([], S.2.1 + 1, (S.2.2.1.1, vs S.2.2.1.2 S.2.1.toNat S.1), S.2.2.2))) rfl ?_ (fun c hc => ?_)
    · have G : ∀ c, c ≠ 0 → (up w2 0 2 (S.2.1 + 1)) c = w2 c := fun c hc => up_row _ _ _ hc
      have G0 : ∀ k, k ≠ 2 → (up w2 0 2 (S.2.1 + 1)) 0 k = w 0 k := fun k hk => by rw [up_slot _ _ _ _ hk, e0]
      obtain ⟨⟨a1, a2⟩, a3, a4, a5, ⟨b1, b2, b3, b4, b5, b6⟩, a7⟩ := h
      have e' : ∀ c, c ≠ 0 → c ≠ 2 → c ≠ 3 → c ≠ 5 → c ≠ 6 → (up w2 0 2 (S.2.1 + 1)) c = w c := fun c h0 h1 h2 h3 h4 => (G c h0).trans (e c h1 h2 h3 h4)
      refine ⟨⟨(congrFun (rC_fr (G 2 (by omega)) (G 3 (by omega))) 0).trans r1, RO_fr (G 3 (by omega)) o1⟩, up_same _ _ _ _, ?_, a5.fr (e' 8 (by omega) (by omega) (by omega) (by omega) (by omega)) (e' 9 (by omega) (by omega) (by omega) (by omega) (by omega)), ⟨RO_fr (G 6 (by omega)) o5, RO_fr (e' 12 (by omega) (by omega) (by omega) (by omega) (by omega)) b2, RO_fr (e' 15 (by omega) (by omega) (by omega) (by omega) (by omega)) b3, RO_fr (e' 18 (by omega) (by omega) (by omega) (by omega) (by omega)) b4, RO_fr (e' 21 (by omega) (by omega) (by omega) (by omega) (by omega)) b5, RO_fr (e' 24 (by omega) (by omega) (by omega) (by omega) (by omega)) b6⟩, ?_⟩
      · rw [G0 12 (by omega), pvC_texts (w := w) (fun c hc h5 h6 => e' c (by intro q; rw [q] at hc; exact absurd hc (by decide)) (by intro q; rw [q] at hc; exact absurd hc (by decide)) (by intro q; rw [q] at hc; exact absurd hc (by decide)) h5 h6), a4, rC_fr (G 5 (by omega)) (G 6 (by omega)), r5]
      · unfold cSt
        rw [e' 76 (by omega) (by omega) (by omega) (by omega) (by omega), e' 80 (by omega) (by omega) (by omega) (by omega) (by omega), e' 82 (by omega) (by omega) (by omega) (by omega) (by omega), G0 13 (by omega), G0 14 (by omega), G0 15 (by omega), G0 16 (by omega), G0 17 (by omega), G0 18 (by omega)]
        exact a7
    · rw [up_row _ _ _ (by omega)]
      exact e c (by omega) (by omega) (by omega) (by omega)
  · rw [if_neg c2]
    refine Ex.neg (by first | (simp (disch := omega) only [wr_eq] <;> omega) | omega) (Ex.ret ?_)
    exact Ev.neg (by decide) (Ev.neg (by decide) (Ev.pos rfl (Ev.ret (ClQ_no h 2 0 (by decide)))))
