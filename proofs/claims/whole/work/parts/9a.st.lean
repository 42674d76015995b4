/-! what a class and a reference stand for together -/
abbrev RRc : Type := Int × Int × Int × Int × Int × (Nat → Int) × (Nat → Int)
abbrev MRc : Type := Int × Int × Int × Int × Int × Int
/-- typed, how many texts, program, variables, the last run (ran, error, last, steps, depth, done, failed), the last match (had, whether, from, to, begun, length) -/
abbrev St : Type := List Int × Int × PV × (Nat → List Int) × RRc × MRc
def cSt (w : WS) : RRc × MRc := ((w 76 10, w 76 11, w 76 12, w 76 13, w 76 14, w 80, w 82), (w 0 13, w 0 14, w 0 15, w 0 16, w 0 17, w 0 18))
/-- from, to and length say something only behind a match that was there -/
def cEq (x y : RRc × MRc) : Prop := x.1 = y.1 ∧ x.2.1 = y.2.1 ∧ x.2.2.1 = y.2.2.1 ∧ x.2.2.2.2.2.1 = y.2.2.2.2.2.1 ∧ (y.2.2.1 = 1 → x.2.2.2.1 = y.2.2.2.1 ∧ x.2.2.2.2.1 = y.2.2.2.2.1 ∧ x.2.2.2.2.2.2 = y.2.2.2.2.2.2)
def mEq (x : Int × Int × Int × Int × Int) (M : MRc) : Prop := x.1 = M.1 ∧ x.2.1 = M.2.1 ∧ x.2.2.2.2 = M.2.2.2.2.1 ∧ (M.2.1 = 1 → x.2.2.1 = M.2.2.1 ∧ x.2.2.2.1 = M.2.2.2.1)
def JC (S : St) (w : WS) : Prop := (rC w 1 60 0 = S.1 ∧ RO w 1 60 1) ∧ w 0 2 = S.2.1 ∧ pvC w (w 0 12) = S.2.2.1 ∧ VC w S.2.2.2.1 ∧ (RO w 4 20 30 ∧ RO w 10 60 26 ∧ RO w 13 60 1 ∧ RO w 16 60 50 ∧ RO w 19 60 1 ∧ RO w 22 60 30) ∧ cEq (cSt w) S.2.2.2.2
def JM (S : St) (w : WS) : Prop := (w 85 2 = S.1.length ∧ sg (w 86) 0 S.1.length = S.1) ∧ w 85 5 = S.2.1 ∧ pvR w = S.2.2.1 ∧ VM w S.2.2.2.1 ∧ (RM w 88 20 30 ∧ RM w 99 60 50 ∧ RM w 130 60 30) ∧ (w 85 59, w 85 61, w 85 62, w 85 60, w 85 63, w 125, w 126) = S.2.2.2.2.1 ∧ mEq (w 85 72, w 85 73, w 85 74, w 85 75, w 85 76) S.2.2.2.2.2
def sm (f : Nat → Int) : Nat → Int
  | 0 => 0
  | n + 1 => sm f n + f n
def RWF (R : RRc) (_ : Int) : Prop := (R.1 = 0 ∨ R.1 = 1) ∧ (0 ≤ R.2.1 ∧ R.2.1 ≤ 8) ∧ (0 ≤ R.2.2.1 ∧ R.2.2.1 ≤ 39) ∧ (0 ≤ R.2.2.2.1 ∧ R.2.2.2.1 ≤ 1000) ∧ (0 ≤ R.2.2.2.2.1 ∧ R.2.2.2.2.1 ≤ 10) ∧ (∀ k, 0 ≤ R.2.2.2.2.2.1 k ∧ (40 ≤ k → R.2.2.2.2.2.1 k = 0)) ∧ (∀ k, 0 ≤ R.2.2.2.2.2.2 k ∧ (40 ≤ k → R.2.2.2.2.2.2 k = 0)) ∧ sm R.2.2.2.2.2.1 40 = R.2.2.2.1 ∧ (R.1 = 1 → 1 ≤ R.2.2.2.1)
def MWF (M : MRc) : Prop := (M.1 = 0 ∨ M.1 = 1) ∧ (M.2.1 = 0 ∨ M.2.1 = 1) ∧ (M.2.1 = 1 → 0 ≤ M.2.2.1 ∧ M.2.2.1 ≤ M.2.2.2.1 ∧ M.2.2.2.1 ≤ M.2.2.2.2.2 ∧ M.2.2.2.2.2 ≤ 60)
def WF (S : St) : Prop := (SO S.1 ∧ S.1.length ≤ 60) ∧ (0 ≤ S.2.1 ∧ S.2.1 ≤ 30) ∧ POK S.2.2.1 ∧ VOK S.2.2.2.1 ∧ RWF S.2.2.2.2.1 (sC S.2.2.1) ∧ MWF S.2.2.2.2.2
theorem pvC_eq {w w' : WS} (e : ∀ c, c ∈ LPc → w' c = w c) (an : Int) : pvC w' an = pvC w an := by
  unfold pvC
  rw [e 27 (by decide), e 29 (by decide), e 31 (by decide), e 34 (by decide), e 36 (by decide), e 38 (by decide), e 59 (by decide), e 61 (by decide), e 63 (by decide), e 65 (by decide), e 67 (by decide), e 69 (by decide), e 71 (by decide), e 73 (by decide), e 75 (by decide), e 25 (by decide), e 32 (by decide), e 57 (by decide), rC_fr (e 5 (by decide)) (e 6 (by decide))]
theorem pvR_eq {w w' : WS} (e : ∀ c, c ∈ LPr → w' c = w c) (s : ∀ k, k ∈ [21, 11, 15, 51] → w' 85 k = w 85 k) : pvR w' = pvR w := by
  have en : nmR w' = nmR w := by
    funext k
    unfold nmR
    rw [e 122 (by decide), e 123 (by decide), e 124 (by decide)]
  unfold pvR
  rw [e 91 (by decide), e 92 (by decide), e 93 (by decide), e 94 (by decide), e 95 (by decide), e 96 (by decide), e 114 (by decide), e 115 (by decide), e 116 (by decide), e 117 (by decide), e 118 (by decide), e 119 (by decide), e 120 (by decide), e 121 (by decide), en, s 21 (by simp), s 11 (by simp), s 15 (by simp), s 51 (by simp), rM_fr (e 87 (by decide)) (e 88 (by decide))]
theorem LPc_lt : ∀ c ∈ LPc, c < 85 := by decide
theorem LPr_ge : ∀ c ∈ LPr, 86 ≤ c ∧ c < 135 := by decide
theorem JC.fr {S : St} {w w' : WS} (h : JC S w) (e : ∀ c, c < 85 → w' c = w c) : JC S w' := by
  obtain ⟨⟨a1, a2⟩, a3, a4, a5, ⟨b1, b2, b3, b4, b5, b6⟩, a7⟩ := h
  have e0 := e 0 (by omega)
  have e76 := e 76 (by omega)
  have ep : pvC w' (w' 0 12) = pvC w (w 0 12) := by
    rw [e0]
    exact pvC_eq (fun c hc => e c (LPc_lt c hc)) _
  refine ⟨⟨by rw [rC_fr (e 2 (by omega)) (e 3 (by omega))]; exact a1, RO_fr (e 3 (by omega)) a2⟩, by rw [e0]; exact a3, by rw [ep]; exact a4, a5.fr (e 8 (by omega)) (e 9 (by omega)), ⟨RO_fr (e 6 (by omega)) b1, RO_fr (e 12 (by omega)) b2, RO_fr (e 15 (by omega)) b3, RO_fr (e 18 (by omega)) b4, RO_fr (e 21 (by omega)) b5, RO_fr (e 24 (by omega)) b6⟩, ?_⟩
  unfold cSt
  rw [e76, e0, e 80 (by omega), e 82 (by omega)]
  exact a7
/-- of the reference's object, the slots that say something between calls -/
def LPs : List Nat := [2, 5, 11, 15, 21, 51, 59, 60, 61, 62, 63, 72, 73, 74, 75, 76]
theorem JM.fx {S : St} {w w' : WS} (h : JM S w) (e : ∀ c, 86 ≤ c → c < 135 → c ∈ [86, 89, 90, 99, 130, 125, 126] ∨ c ∈ LPr → w' c = w c) (s : ∀ k, k ∈ LPs → w' 85 k = w 85 k) : JM S w' := by
  obtain ⟨⟨a1, a2⟩, a3, a4, a5, ⟨b1, b2, b3⟩, a7, a8⟩ := h
  have ep : pvR w' = pvR w := pvR_eq (fun c hc => e c (LPr_ge c hc).1 (LPr_ge c hc).2 (Or.inr hc)) (fun k hk => s k (by revert hk; unfold LPs; simp; omega))
  refine ⟨⟨by rw [s 2 (by decide)]; exact a1, by rw [e 86 (by omega) (by omega) (by decide)]; exact a2⟩, by rw [s 5 (by decide)]; exact a3, by rw [ep]; exact a4, a5.fr (e 89 (by omega) (by omega) (by decide)) (e 90 (by omega) (by omega) (by decide)), ⟨RM_fr (e 88 (by omega) (by omega) (by decide)) b1, RM_fr (e 99 (by omega) (by omega) (by decide)) b2, RM_fr (e 130 (by omega) (by omega) (by decide)) b3⟩, ?_, ?_⟩
  · rw [s 59 (by decide), s 61 (by decide), s 62 (by decide), s 60 (by decide), s 63 (by decide), e 125 (by omega) (by omega) (by decide), e 126 (by omega) (by omega) (by decide)]
    exact a7
  · rw [s 72 (by decide), s 73 (by decide), s 74 (by decide), s 75 (by decide), s 76 (by decide)]
    exact a8
theorem JM.fr {S : St} {w w' : WS} (h : JM S w) (e : ∀ c, 85 ≤ c → c < 135 → w' c = w c) : JM S w' := h.fx (fun c a b _ => e c (by omega) b) (fun k _ => by rw [e 85 (by omega) (by omega)])
/-- the code of what failed says nothing between calls -/
theorem JM.z {S : St} {w : WS} (h : JM S w) (k : Int) : JM S (up w 85 0 k) := h.fx (fun c a _ _ => up_row _ _ _ (by omega)) (fun q hq => up_slot _ _ _ _ (by intro e; rw [e] at hq; exact absurd hq (by decide)))
/-- what a call answers and leaves: the code of what failed, the answer, what stands for it -/
abbrev TQ : Type := Int × Int × St
def ClQ (q : TQ) (w : WS) (v : Int) (w' : WS) : Prop := v = q.1 ∧ (q.1 = 0 → w' 135 0 = wr q.2.1) ∧ JC q.2.2 w' ∧ ∀ c, 85 ≤ c → c ≠ 135 → w' c = w c
def RfQ (q : TQ) (w : WS) (v : Int) (w' : WS) : Prop := w' 85 0 = q.1 ∧ (q.1 = 0 → v = q.2.1) ∧ JM q.2.2 w' ∧ ∀ c, c < 85 ∨ 135 ≤ c → w' c = w c
/-- what a call that may throw comes to -/
def Ex (F : Option (Nat × Int × WS)) (Q : Nat → Int → WS → Prop) : Prop := ∃ t v w, F = some (t, v, w) ∧ Q t v w
theorem Ex.ret {Q : Nat → Int → WS → Prop} {t : Nat} {v : Int} {w : WS} (h : Q t v w) : Ex (some (t, v, w)) Q := ⟨t, v, w, rfl, h⟩
theorem Ex.pos {c : Prop} {d : Decidable c} {t e : Option (Nat × Int × WS)} {Q : Nat → Int → WS → Prop} (h : c) (k : Ex t Q) : Ex (@ite _ c d t e) Q := by rw [if_pos h]; exact k
theorem Ex.neg {c : Prop} {d : Decidable c} {t e : Option (Nat × Int × WS)} {Q : Nat → Int → WS → Prop} (h : ¬ c) (k : Ex e Q) : Ex (@ite _ c d t e) Q := by rw [if_neg h]; exact k
theorem Ex.obe {F : Option (Int × WS)} {K : Int → WS → Option (Nat × Int × WS)} {Q : Nat → Int → WS → Prop} {v : Int} {w : WS} (e : F = some (v, w)) (k : Ex (K v w) Q) : Ex (ob F K) Q := by rw [e]; exact k
theorem Ex.bd {F : Option (Int × WS)} {K : Int → WS → Option (Nat × Int × WS)} {A : Int → WS → Prop} {Q : Nat → Int → WS → Prop} (h : Ev F A) (k : ∀ v w, A v w → Ex (K v w) Q) : Ex (ob F K) Q := by
  obtain ⟨v, w, e, h⟩ := h
  rw [e]
  exact k v w h
theorem Ex.ok {F : Option (Nat × Int × WS)} {K : Int → WS → Option (Nat × Int × WS)} {Q : Nat → Int → WS → Prop} {v : Int} {w : WS} (e : F = some (0, v, w)) (k : Ex (K v w) Q) : Ex (ox F K) Q := by rw [e]; exact k
theorem Ex.no {F : Option (Nat × Int × WS)} {K : Int → WS → Option (Nat × Int × WS)} {Q : Nat → Int → WS → Prop} {t : Nat} {v : Int} {w : WS} (e : F = some (t, v, w)) (ht : t ≠ 0) (k : Q t 0 w) : Ex (ox F K) Q := by
  rw [e]
  show Ex (if t = 0 then K v w else some (t, 0, w)) Q
  rw [if_neg ht]
  exact Ex.ret k
theorem Ev.ocX {F : Option (Nat × Int × WS)} {g : Int → WS → Option (Int × WS)} {h : Nat → WS → Option (Int × WS)} {A : Int → WS → Prop} (k : Ex F (fun t v w => Ev (if t = 0 then g v w else h t w) A)) : Ev (oc F g h) A := by
  obtain ⟨t, v, w, e, k⟩ := k
  rw [e]
  exact k
/-- the answer that a call of the class gives goes into the law's row -/
theorem ClQ_put {q : TQ} {w w' : WS} (h0 : q.1 = 0) (hJ : JC q.2.2 w') (hF : ∀ c, 85 ≤ c → w' c = w c) : Ev (if 0 ≤ wr 0 ∧ wr 0 < 1 then some (0, up w' 135 (wr 0).toNat (wr q.2.1)) else none) (ClQ q w) := by
  refine Ev.pos (by first | (simp (disch := omega) only [wr_eq] <;> omega) | omega) (Ev.ret ⟨h0.symm, fun _ => up_same _ _ _ _, hJ.fr (fun c hc => up_row _ _ _ (by omega)), fun c h1 h2 => ?_⟩)
  rw [up_row _ _ _ h2]
  exact hF c h1
theorem RfQ_no {w : WS} {S : St} (hJ : JM S w) (k r v : Int) (hk : k ≠ 0) : RfQ (k, r, S) w v (up (up w 85 0 0) 85 0 k) := ⟨up_same _ _ _ _, fun e => absurd e hk, (hJ.z 0).z k, fun c hc => by rw [up_row _ _ _ (by omega), up_row _ _ _ (by omega)]⟩
