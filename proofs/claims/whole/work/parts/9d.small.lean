/-! the reference's texts and variables between calls -/
theorem JM.lnV {S : St} {w : WS} (h : JM S w) (r : Nat) : w 90 r = (S.2.2.2.1 r).length ∧ (S.2.2.2.1 r).length ≤ 60 := by
  have hl := lnM (s := 89) h.2.2.2.1.2 r
  rw [h.2.2.2.1.1] at hl
  exact ⟨hl.1.symm, by omega⟩
theorem rf_text {S : St} {w : WS} (hW : WF S) (h : JM S w) : Ev (f_X9_text w) (RfQ (tq_text S) w) := by
  have hl := hW.1.2
  have hN := hW.2.1
  have z0 : (up w 85 0 0) 85 0 = 0 := up_same _ _ _ _
  have z2 : (up w 85 0 0) 85 2 = S.1.length := (up_slot _ _ _ _ (by omega)).trans h.1.1
  have z5 : (up w 85 0 0) 85 5 = S.2.1 := (up_slot _ _ _ _ (by omega)).trans h.2.1
  unfold f_X9_text tq_text
  rw [z2]
  by_cases c : 20 < S.1.length
  · rw [if_pos c]
    refine Ev.pos (by first | (simp (disch := omega) only [wr_eq] <;> omega) | omega) ?_
    unfold f_X9_text_20
    rw [f_fails0 z0 1 (by omega) 1 (Or.inr rfl), if_neg (by decide), ob_some]
    exact Ev.neg (by decide) (Ev.ret (RfQ_no h 1 0 _ (by decide)))
  rw [if_neg c]
  refine Ev.neg (by first | (simp (disch := omega) only [wr_eq] <;> omega) | omega) ?_
  unfold f_X9_text_20
  rw [f_fails0 z0 1 (by omega) 0 (Or.inl rfl), if_pos rfl, ob_some, z5]
  refine Ev.pos rfl ?_
  unfold f_X9_text_42
  by_cases c2 : S.2.1 < 30
  · rw [if_pos c2]
    refine Ev.neg (by first | (simp (disch := omega) only [wr_eq] <;> omega) | omega) ?_
    rw [f_fails0 z0 2 (by omega) 0 (Or.inl rfl), if_pos rfl, ob_some]
    refine Ev.pos rfl ?_
    obtain ⟨n, hn⟩ : ∃ n : Nat, S.2.1 = n := ⟨S.2.1.toNat, by omega⟩
    rw [hn, Int.toNat_natCast]
    rw [hn] at z5 c2
    have F0 : FX [85] [0] w (up w 85 0 0) := FX.rf.put 0 _ (by simp) (by simp)
    have J0 := h.z 0
    have r0 : rM (up w 85 0 0) 87 88 20 = S.2.2.1.2 := by rw [rM_fr (F0.1 87 (by simp)) (F0.1 88 (by simp))]; exact congrArg Prod.snd h.2.2.1
    have hT0 : sg ((up w 85 0 0) 86) 0 S.1.length = S.1 := J0.1.2
    have hp0 := J0.2.2.1
    generalize up w 85 0 0 = w0 at F0 J0 z0 z2 z5 r0 hT0 hp0 ⊢
    have key := rM_ww (w := w0) (s := 87) (z := 88) (st := 20) (n := 30) (a := n) (c := S.1.length) (g := fun k => w0 86 (0 + k)) (zc := (S.1.length : Int)) (by omega) J0.2.2.2.2.1.1 (by omega) (by omega) rfl
    rw [show (List.range S.1.length).map (fun k => w0 86 (0 + k)) = S.1 from hT0, r0] at key
    have hl2 : f_X9_text_53 FU 0 w0 = some ((n : Int), up (up (ww (up w0 88 n (S.1.length : Int)) 87 (n * 20) (fun k => w0 86 (0 + k)) S.1.length) 85 2 0) 85 5 ((n : Int) + 1)) := by
      refine ww_loop (L := fun m k w => f_X9_text_53 m k w) (w0 := w0) (c := 87) (o := n * 20) (g := fun k => w0 86 (0 + k)) (n := S.1.length) (fun m k hk => ?_) (fun m => ?_) FU (by unfold FU; omega)
      · show f_X9_text_53 (m + 1) k _ = _
        rw [f_X9_text_53_s, ww_c _ _ _ _ (by omega : (85 : Nat) ≠ 87), ww_c _ _ _ _ (by omega : (86 : Nat) ≠ 87), z2, z5]
        simp (disch := omega) only [ixn, ix20, Int.toNat_natCast]
        rw [Nat.zero_add]
        exact (if_pos (by first | (simp (disch := omega) only [wr_eq] <;> omega) | omega)).trans ((if_pos (by first | (simp (disch := omega) only [wr_eq] <;> omega) | omega)).trans ((if_pos (by first | (simp (disch := omega) only [wr_eq] <;> omega) | omega)).trans rfl))
      · show f_X9_text_53 (m + 1) ((S.1.length : Nat) : Int) _ = _
        have y85 : (ww w0 87 (n * 20) (fun k => w0 86 (0 + k)) S.1.length) 85 = w0 85 := ww_c _ _ _ _ (by omega)
        rw [f_X9_text_53_s, y85, z2, z5, ixn (k := n) (by omega), Int.toNat_natCast, ww_up _ _ _ _ _ _ (by omega : (88 : Nat) ≠ 87)]
        refine (if_neg (Int.lt_irrefl _)).trans ((if_pos (by first | (simp (disch := omega) only [wr_eq] <;> omega) | omega)).trans ?_)
        have x5 : (up (ww (up w0 88 n (S.1.length : Int)) 87 (n * 20) (fun k => w0 86 (0 + k)) S.1.length) 85 2 0) 85 5 = n := by rw [up_slot _ _ _ _ (by omega), ww_c _ _ _ _ (by omega), up_row _ _ _ (by omega)]; exact z5
        rw [x5, up_same, Int.add_sub_cancel]
    rw [hl2]
    obtain ⟨k1, k2, k3⟩ := key
    have F : FX [85, 86, 87, 88] [0, 2, 5] w (up (up (ww (up w0 88 n (S.1.length : Int)) 87 (n * 20) (fun k => w0 86 (0 + k)) S.1.length) 85 2 0) 85 5 ((n : Int) + 1)) := (((F0.sub (by simp) (by simp)).tr (FX.of k3 (by simp) (by simp))).put 2 _ (by simp) (by simp)).put 5 _ (by simp) (by simp)
    have y5 : (up (up (ww (up w0 88 n (S.1.length : Int)) 87 (n * 20) (fun k => w0 86 (0 + k)) S.1.length) 85 2 0) 85 5 ((n : Int) + 1)) 85 5 = (n : Int) + 1 := up_same _ _ _ _
    have y2 : (up (up (ww (up w0 88 n (S.1.length : Int)) 87 (n * 20) (fun k => w0 86 (0 + k)) S.1.length) 85 2 0) 85 5 ((n : Int) + 1)) 85 2 = 0 := by rw [up_slot _ _ _ _ (by omega), up_same]
    have y0 : (up (up (ww (up w0 88 n (S.1.length : Int)) 87 (n * 20) (fun k => w0 86 (0 + k)) S.1.length) 85 2 0) 85 5 ((n : Int) + 1)) 85 0 = 0 := by rw [up_slot _ _ _ _ (by omega), up_slot _ _ _ _ (by omega), k3 85 (by simp)]; exact z0
    have yr : rM (up (up (ww (up w0 88 n (S.1.length : Int)) 87 (n * 20) (fun k => w0 86 (0 + k)) S.1.length) 85 2 0) 85 5 ((n : Int) + 1)) 87 88 20 = vs S.2.2.1.2 n S.1 := by
      rw [rM_fr (by rw [up_row _ _ _ (by omega), up_row _ _ _ (by omega)]) (by rw [up_row _ _ _ (by omega), up_row _ _ _ (by omega)])]
      exact k1
    have yo : RM (up (up (ww (up w0 88 n (S.1.length : Int)) 87 (n * 20) (fun k => w0 86 (0 + k)) S.1.length) 85 2 0) 85 5 ((n : Int) + 1)) 88 20 30 := RM_fr (by rw [up_row _ _ _ (by omega), up_row _ _ _ (by omega)]) k2
    generalize up (up (ww (up w0 88 n (S.1.length : Int)) 87 (n * 20) (fun k => w0 86 (0 + k)) S.1.length) 85 2 0) 85 5 ((n : Int) + 1) = w3 at F y5 y2 y0 yr yo ⊢
    obtain ⟨⟨a1, a2⟩, a3, a4, a5, ⟨b1, b2, b3⟩, a7, a8⟩ := h
    have e : ∀ c, c ≠ 85 → c ≠ 86 → c ≠ 87 → c ≠ 88 → w3 c = w c := fun c h1 h2 h3 h4 => F.1 c (by simp; omega)
    have s : ∀ k, k ≠ 0 → k ≠ 2 → k ≠ 5 → w3 85 k = w 85 k := fun k h1 h2 h3 => F.2 k (by simp; omega)
    refine Ev.ret ⟨y0, fun _ => rfl, ⟨⟨y2, rfl⟩, y5, ?_, a5.fr (e 89 (by omega) (by omega) (by omega) (by omega)) (e 90 (by omega) (by omega) (by omega) (by omega)), ⟨yo, RM_fr (e 99 (by omega) (by omega) (by omega) (by omega)) b2, RM_fr (e 130 (by omega) (by omega) (by omega) (by omega)) b3⟩, ?_, ?_⟩, fun c hc => F.1 c (by simp; omega)⟩
    · rw [pvR_texts (w := w) (fun c hc h7 h8 => e c (by have := LPr_ge c hc; omega) (by intro q; rw [q] at hc; exact absurd hc (by decide)) h7 h8) (fun k hk => s k (by simp at hk; omega) (by simp at hk; omega) (by simp at hk; omega)), a4, yr]
    · rw [s 59 (by omega) (by omega) (by omega), s 61 (by omega) (by omega) (by omega), s 62 (by omega) (by omega) (by omega), s 60 (by omega) (by omega) (by omega), s 63 (by omega) (by omega) (by omega), e 125 (by omega) (by omega) (by omega) (by omega), e 126 (by omega) (by omega) (by omega) (by omega)]
      exact a7
    · rw [s 72 (by omega) (by omega) (by omega), s 73 (by omega) (by omega) (by omega), s 74 (by omega) (by omega) (by omega), s 75 (by omega) (by omega) (by omega), s 76 (by omega) (by omega) (by omega)]
      exact a8
  · rw [if_neg c2]
    refine Ev.pos (by rw [show S.2.1 = 30 from by omega]) ?_
    rw [f_fails0 z0 2 (by omega) 1 (Or.inr rfl), if_neg (by decide), ob_some]
    exact Ev.neg (by decide) (Ev.ret (RfQ_no h 2 0 _ (by decide)))
def tq_set (a : Int) (S : St) : TQ := if 0 ≤ a ∧ a < 26 then (0, (S.2.2.2.1 a.toNat).length, ([], S.2.1, S.2.2.1, vs S.2.2.2.1 a.toNat S.1, S.2.2.2.2)) else (1, 0, S)
theorem tq_set_WF {a : Int} {S : St} (h : WF S) : WF (tq_set a S).2.2 := by
  unfold tq_set
  by_cases c : 0 ≤ a ∧ a < 26
  · rw [if_pos c]
    obtain ⟨h1, h2, h3, h4, h5⟩ := h
    exact ⟨⟨SO_nil, by simp⟩, h2, h3, h4.vs h1.1 h1.2, h5⟩
  · rw [if_neg c]; exact h
def tq_size (a : Int) (S : St) : TQ := if 0 ≤ a ∧ a < 26 then (0, (S.2.2.2.1 a.toNat).length, S) else (1, 0, S)
def tq_at (a b : Int) (S : St) : TQ := if 0 ≤ a ∧ a < 26 then (if 0 ≤ b ∧ b < ((S.2.2.2.1 a.toNat).length : Int) then (0, gt (S.2.2.2.1 a.toNat) b, S) else (2, 0, S)) else (1, 0, S)
def tq_typed (a : Int) (S : St) : TQ := if 0 ≤ a ∧ a < (S.1.length : Int) then (0, gt S.1 a, S) else (1, 0, S)
theorem cl_set {S : St} {w : WS} (hW : WF S) (h : JC S w) {a : Int} (ha : IR a) : Ev (f_L_set a w) (ClQ (tq_set a S) w) := by
  have hT := h.lnT
  unfold f_L_set
  refine Ev.ocX ?_
  unfold f_X8_set tq_set
  by_cases c : 0 ≤ a ∧ a < 26
  · rw [if_pos c]
    refine Ex.ok (by rw [x_needVariable ha, if_pos c]) ?_
    refine Ex.obe (f_length RI_7 (a := a) (by omega)) ?_
    rw [show w (7 + 2) a.toNat = ((S.2.2.2.1 a.toNat).length : Int) from (h.lnV _).1]
    refine Ex.bd (f_copy RI_7 h.2.2.2.1.2 RI_1 h.1.2 (a := a) (b := 0) (by omega) (by omega) (by omega) (by show w 3 0 ≤ (60 : Int); omega)) ?_
    rintro v w1 ⟨-, q1, q2, q3⟩
    have q1 : Fr [8, 9] w w1 := q1
    rw [h.2.2.2.1.1, show rC w 1 60 (0 : Int).toNat = S.1 from h.1.1] at q3
    have J1 : JC (S.1, S.2.1, S.2.2.1, vs S.2.2.2.1 a.toNat S.1, S.2.2.2.2) w1 := by
      obtain ⟨⟨a1, a2⟩, a3, a4, a5, ⟨b1, b2, b3, b4, b5, b6⟩, a7⟩ := h
      have e : ∀ c, c ≠ 8 → c ≠ 9 → w1 c = w c := fun c h1 h2 => q1 c (by simp; omega)
      have e0 := e 0 (by omega) (by omega)
      refine ⟨⟨(congrFun (rC_fr (e 2 (by omega) (by omega)) (e 3 (by omega) (by omega))) 0).trans a1, RO_fr (e 3 (by omega) (by omega)) a2⟩, by rw [e0]; exact a3, by rw [e0, pvC.fr q1 (by decide)]; exact a4, ⟨q3, q2⟩, ⟨RO_fr (e 6 (by omega) (by omega)) b1, RO_fr (e 12 (by omega) (by omega)) b2, RO_fr (e 15 (by omega) (by omega)) b3, RO_fr (e 18 (by omega) (by omega)) b4, RO_fr (e 21 (by omega) (by omega)) b5, RO_fr (e 24 (by omega) (by omega)) b6⟩, ?_⟩
      unfold cSt
      rw [e 76 (by omega) (by omega), e0, e 80 (by omega) (by omega), e 82 (by omega) (by omega)]
      exact a7
    refine Ex.obe (f_clear RI_1 (a := 0) (by omega)) ?_
    have F : Fr [2, 3] w1 (up w1 (1 + 2) (0 : Int).toNat 0) := Fr.rf.up (by simp)
    have J2 := J1.typed F (RO_clear _ J1.1.2) (T := []) (by rw [rC_clear]; exact vs_same _ _ _)
    refine Ex.ret (Ev.pos rfl ?_)
    exact ClQ_put (q := (0, ((S.2.2.2.1 a.toNat).length : Int), ([], S.2.1, S.2.2.1, vs S.2.2.2.1 a.toNat S.1, S.2.2.2.2))) rfl J2 (fun c hc => (F c (by simp; omega)).trans (q1 c (by simp; omega)))
  · rw [if_neg c]
    refine Ex.no (t := 3) (by rw [x_needVariable ha, if_neg c]) (by decide) ?_
    exact Ev.neg (by decide) (Ev.pos rfl (Ev.ret (ClQ_no h 1 0 (by decide))))
theorem cl_size {S : St} {w : WS} (h : JC S w) {a : Int} (ha : IR a) : Ev (f_L_size a w) (ClQ (tq_size a S) w) := by
  unfold f_L_size
  refine Ev.ocX ?_
  unfold f_X8_size tq_size
  by_cases c : 0 ≤ a ∧ a < 26
  · rw [if_pos c]
    refine Ex.ok (by rw [x_needVariable ha, if_pos c]) ?_
    refine Ex.obe (f_length RI_7 (a := a) (by omega)) ?_
    rw [show w (7 + 2) a.toNat = ((S.2.2.2.1 a.toNat).length : Int) from (h.lnV _).1]
    refine Ex.ret (Ev.pos rfl ?_)
    exact ClQ_put (q := (0, ((S.2.2.2.1 a.toNat).length : Int), S)) rfl h (fun _ _ => rfl)
  · rw [if_neg c]
    refine Ex.no (t := 3) (by rw [x_needVariable ha, if_neg c]) (by decide) ?_
    exact Ev.neg (by decide) (Ev.pos rfl (Ev.ret (ClQ_no h 1 0 (by decide))))
theorem cl_at {S : St} {w : WS} (h : JC S w) {a b : Int} (ha : IR a) (hb : IR b) : Ev (f_L_at a b w) (ClQ (tq_at a b S) w) := by
  have hb' := hb
  unfold IR at hb'
  unfold f_L_at
  refine Ev.ocX ?_
  unfold f_X8_at tq_at
  by_cases c : 0 ≤ a ∧ a < 26
  · rw [if_pos c]
    refine Ex.ok (by rw [x_needVariable ha, if_pos c]) ?_
    refine Ex.obe (f_holds RI_7 h.2.2.2.1.2 (a := a) (by omega) hb) ?_
    rw [h.2.2.2.1.1]
    by_cases c2 : 0 ≤ b ∧ b < ((S.2.2.2.1 a.toNat).length : Int)
    · rw [if_pos c2, if_pos c2]
      refine Ex.neg (by decide) ?_
      refine Ex.obe (f_sign RI_7 h.2.2.2.1.2 (a := a) (y := b) (by omega) hb') ?_
      rw [h.2.2.2.1.1]
      refine Ex.ret (Ev.pos rfl ?_)
      exact ClQ_put (q := (0, gt (S.2.2.2.1 a.toNat) b, S)) rfl h (fun _ _ => rfl)
    · rw [if_neg c2, if_neg c2]
      refine Ex.pos rfl (Ex.ret ?_)
      exact Ev.neg (by decide) (Ev.neg (by decide) (Ev.pos rfl (Ev.ret (ClQ_no h 2 0 (by decide)))))
  · rw [if_neg c]
    refine Ex.no (t := 3) (by rw [x_needVariable ha, if_neg c]) (by decide) ?_
    exact Ev.neg (by decide) (Ev.pos rfl (Ev.ret (ClQ_no h 1 0 (by decide))))
theorem cl_typed {S : St} {w : WS} (h : JC S w) {a : Int} (ha : IR a) : Ev (f_L_typed a w) (ClQ (tq_typed a S) w) := by
  have ha' := ha
  unfold IR at ha'
  unfold f_L_typed
  refine Ev.ocX ?_
  unfold f_X8_typed tq_typed
  refine Ex.obe (f_holds RI_1 h.1.2 (a := 0) (by omega) ha) ?_
  rw [Int.toNat_zero, h.1.1]
  by_cases c2 : 0 ≤ a ∧ a < (S.1.length : Int)
  · rw [if_pos c2, if_pos c2]
    refine Ex.neg (by decide) ?_
    refine Ex.obe (f_sign RI_1 h.1.2 (a := 0) (y := a) (by omega) ha') ?_
    rw [Int.toNat_zero, h.1.1]
    refine Ex.ret (Ev.pos rfl ?_)
    exact ClQ_put (q := (0, gt S.1 a, S)) rfl h (fun _ _ => rfl)
  · rw [if_neg c2, if_neg c2]
    refine Ex.pos rfl (Ex.ret ?_)
    exact Ev.neg (by decide) (Ev.pos rfl (Ev.ret (ClQ_no h 1 0 (by decide))))
