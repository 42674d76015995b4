/-! terms worked out; the checksum; whether all is sound -/
noncomputable def tq_work (a : Int) (S : St) : TQ := if 0 ≤ a ∧ a < tN S.2.2.1 then (if 0 < (pTm S.2.2.1 S.2.2.2.1 a).1 then (2, 0, S) else if (pTm S.2.2.1 S.2.2.2.1 a).1 = 0 then (0, 1, ((pTm S.2.2.1 S.2.2.2.1 a).2, S.2)) else (0, 0, S)) else (1, 0, S)
theorem tq_work_WF {a : Int} {S : St} (hW : WF S) : WF (tq_work a S).2.2 := by
  have ok := pTm_ok hW.2.2.1 hW.2.2.2.1 a
  unfold tq_work
  by_cases c : 0 ≤ a ∧ a < tN S.2.2.1
  · rw [if_pos c]
    by_cases c1 : 0 < (pTm S.2.2.1 S.2.2.2.1 a).1
    · rw [if_pos c1]; exact hW
    rw [if_neg c1]
    by_cases c2 : (pTm S.2.2.1 S.2.2.2.1 a).1 = 0
    · rw [if_pos c2]; exact ⟨ok.2, hW.2⟩
    · rw [if_neg c2]; exact hW
  · rw [if_neg c]; exact hW
theorem cl_work {S : St} {w : WS} (hW : WF S) (h : JC S w) {a : Int} (ha : IR a) : Ev (f_L_work a w) (ClQ (tq_work a S) w) := by
  have hP := hW.2.2.1
  have hc := hW.cnt.2.1
  have h32 := h.cnt.2.1
  have ok := pTm_ok hP hW.2.2.2.1 a
  unfold f_L_work tq_work
  refine Ev.ocX ?_
  unfold f_X8_work
  by_cases c : 0 ≤ a ∧ a < tN S.2.2.1
  · rw [if_pos c]
    refine Ex.ok (by rw [x_needTerm ha (by unfold IR; omega), h32, if_pos c]) ?_
    have r := fun i => congrFun (congrArg Prod.fst h.2.2.1) i
    have eT : rC w 4 20 = S.2.2.1.2 := congrArg Prod.snd h.2.2.1
    have e3 : w 34 = S.2.2.1.1 3 := r 3
    have e4 : w 36 = S.2.2.1.1 4 := r 4
    have e5 : w 38 = S.2.2.1.1 5 := r 5
    have o := h.2.2.2.2.1
    have key := c_workOut (w := w) (t := a) (n := (tN S.2.2.1).toNat) (by omega) (by omega) (by rw [e3, e4, e5]; exact hP.2.2.1) o.2.2.2.1 o.1 h.2.2.2.1.2 (fun q => by rw [eT]; exact (hP.2.2.2.2.1 q).1) (fun q => by rw [h.2.2.2.1.1]; exact (hW.2.2.2.1 q).1)
    rw [e3, e4, e5, eT, h.2.2.2.1.1] at key
    refine Ex.bd key ?_
    rintro v w1 ⟨q1, q2, q3, q4⟩
    have q1 : v = (pTm S.2.2.1 S.2.2.2.1 a).1 := q1
    have q4 : v = 0 → rC w1 16 60 a.toNat = (pTm S.2.2.1 S.2.2.2.1 a).2 := q4
    rw [← q1] at ok
    rw [← q1]
    have J1 : JC S w1 := h.via (V := S.2.2.2.1) ((fun c hc => q2 c (by
      intro q
      have : ∀ c ∈ [17, 18, 56], c ∈ KcL := by decide
      exact hc (this c q)) : Fr KcL w w1)) (RO_fr (q2 12 (by simp)) o.2.1) (RO_fr (q2 15 (by simp)) o.2.2.1) q3 (RO_fr (q2 21 (by simp)) o.2.2.2.2.1) (RO_fr (q2 24 (by simp)) o.2.2.2.2.2) (h.2.2.2.1.fr (q2 8 (by simp)) (q2 9 (by simp)))
    have F85 : ∀ c, 85 ≤ c → w1 c = w c := fun c hc => q2 c (by simp; omega)
    by_cases c1 : 0 < v
    · rw [if_pos c1]
      refine Ex.pos (by first | (simp (disch := omega) only [wr_eq] <;> omega) | omega) (Ex.ret ?_)
      exact Ev.neg (by decide) (Ev.neg (by decide) (Ev.pos rfl (Ev.ret ⟨rfl, fun q => absurd (show (2 : Int) = 0 from q) (by decide), J1, fun c hc _ => F85 c hc⟩)))
    rw [if_neg c1]
    refine Ex.neg (by first | (simp (disch := omega) only [wr_eq] <;> omega) | omega) ?_
    by_cases c2 : v = 0
    · rw [if_pos c2]
      refine Ex.pos (by first | (simp (disch := omega) only [wr_eq] <;> omega) | omega) ?_
      have q4 := q4 c2
      have l16 := ln (z := 18) (w := w1) rfl q3 a.toNat
      rw [q4] at l16
      refine Ex.bd (f_copy RI_1 J1.1.2 RI_16 q3 (a := 0) (b := a) (by omega) (by omega) (by omega) (by show w1 18 a.toNat ≤ (60 : Int); omega)) ?_
      rintro v2 w2 ⟨-, t1, t2, t3⟩
      have t1 : Fr [2, 3] w1 w2 := t1
      rw [q4] at t3
      have J2 : JC ((pTm S.2.2.1 S.2.2.2.1 a).2, S.2) w2 := J1.typed t1 t2 (by rw [t3]; exact vs_same _ _ _)
      unfold f_X8_work_49
      refine Ex.pos (by first | (simp (disch := omega) only [wr_eq] <;> omega) | omega) (Ex.ret (Ev.pos rfl (Ev.neg (by decide) ?_)))
      exact ClQ_val (q := (0, 1, ((pTm S.2.2.1 S.2.2.2.1 a).2, S.2))) rfl J2 (fun c hc => (t1 c (by simp; omega)).trans (F85 c hc)) rfl
    · rw [if_neg c2]
      refine Ex.neg (by first | (simp (disch := omega) only [wr_eq] <;> omega) | omega) ?_
      unfold f_X8_work_49
      refine Ex.neg (by first | (simp (disch := omega) only [wr_eq] <;> omega) | omega) (Ex.ret (Ev.pos rfl (Ev.pos rfl ?_)))
      exact ClQ_val (q := (0, 0, S)) rfl J1 F85 rfl
  · rw [if_neg c]
    refine Ex.no (t := 3) (by rw [x_needTerm ha (by unfold IR; omega), h32, if_neg c]) (by decide) ?_
    exact Ev.neg (by decide) (Ev.pos rfl (Ev.ret (ClQ_no h 1 0 (by decide))))
theorem rf_work {S : St} {w : WS} (hW : WF S) (h : JM S w) {a : Int} (ha : IR a) : Ev (f_X9_work a w) (RfQ (tq_work a S) w) := by
  have hP := hW.2.2.1
  have hc := hW.cnt.2.1
  have z0 : (up w 85 0 0) 85 0 = 0 := up_same _ _ _ _
  have z15 : (up w 85 0 0) 85 15 = tN S.2.2.1 := (up_slot _ _ _ _ (by omega)).trans h.cnt.2.1
  have ok := pTm_ok hP hW.2.2.2.1 a
  unfold f_X9_work tq_work f_X9_work_19
  rw [x_isTerm ha z15 hc, ob_some]
  by_cases c : 0 ≤ a ∧ a < tN S.2.2.1
  · rw [if_pos c, if_pos c]
    refine Ev.neg (by decide) ?_
    rw [f_fails0 z0 1 (by omega) 0 (Or.inl rfl), if_pos rfl, ob_some]
    refine Ev.pos rfl ?_
    have J0 := h.z 0
    have F0 : ∀ c, c < 85 ∨ 135 ≤ c → (up w 85 0 0) c = w c := fun c hc => up_row _ _ _ (by omega)
    generalize up w 85 0 0 = w0 at J0 F0 z0 z15 ⊢
    have B0 : RB S.2.2.1 w0 S.2.2.2.1 := ⟨J0.2.2.1, J0.2.2.2.2.1, J0.2.2.2.1, hW.2.2.2.1⟩
    refine Ev.bd (m_term hP B0 c) ?_
    rintro v w1 ⟨q1, q2, q3, q4⟩
    have J1 : JM S w1 := J0.via (V := S.2.2.2.1) (q2.sub (by decide)) (fun k _ => by rw [q2 85 (by simp)]) q3.2.1.2.1 q3.2.1.2.2 q3.2.2.1
    have z1 : w1 85 0 = 0 := by rw [q2 85 (by simp)]; exact z0
    have F1 : ∀ c, c < 85 ∨ 135 ≤ c → w1 c = w c := fun c hc => (q2 c (by simp; omega)).trans (F0 c hc)
    rw [← q1] at ok
    rw [← q1]
    unfold f_X9_work_44
    by_cases c1 : 0 < v
    · rw [if_pos c1]
      refine Ev.pos (by first | (simp (disch := omega) only [wr_eq] <;> omega) | omega) ?_
      rw [f_fails0 z1 2 (by omega) 1 (Or.inr rfl), if_neg (by decide), ob_some]
      exact Ev.neg (by decide) (Ev.ret (RfQ_fail J1 F1 2 0 _ (by decide)))
    rw [if_neg c1]
    refine Ev.neg (by first | (simp (disch := omega) only [wr_eq] <;> omega) | omega) ?_
    rw [f_fails0 z1 2 (by omega) 0 (Or.inl rfl), if_pos rfl, ob_some]
    refine Ev.pos rfl ?_
    by_cases c2 : v = 0
    · rw [if_pos c2]
      have q4 := q4 c2
      refine Ev.neg (by first | (simp (disch := omega) only [wr_eq] <;> omega) | omega) ?_
      obtain ⟨n, rfl⟩ : ∃ n : Nat, a = n := ⟨a.toNat, by omega⟩
      rw [Int.toNat_natCast] at q4
      have l := lnM (s := 98) q3.2.1.2.1 n
      rw [q4] at l
      rw [ixn (k := n) (by omega), Int.toNat_natCast, ← l.1]
      refine Ev.pos (by omega) ?_
      generalize hL : (pTm S.2.2.1 S.2.2.2.1 (n : Int)).2 = L at *
      have eL : sg (w1 98) (n * 60) L.length = L := by
        have e1 : (w1 99 n).toNat = L.length := by omega
        unfold rM at q4
        rw [e1] at q4
        exact q4
      have F2 : FX [85, 86] [0, 2] w1 (up w1 85 2 (L.length : Int)) := FX.rf.put 2 _ (by simp) (by simp)
      have z2 : (up w1 85 2 (L.length : Int)) 85 2 = L.length := up_same _ _ _ _
      have z20 : (up w1 85 2 (L.length : Int)) 85 0 = 0 := (up_slot _ _ _ _ (by omega)).trans z1
      have e98 : (up w1 85 2 (L.length : Int)) 98 = w1 98 := up_row _ _ _ (by omega)
      generalize up w1 85 2 (L.length : Int) = w2 at F2 z2 z20 e98 ⊢
      refine Ev.eq (v := 1) (w := ww w2 86 0 (fun k => w1 98 (n * 60 + k)) L.length) ?_ ?_
      · refine ww_loop (L := fun m k w => f_X9_work_70 m n k w) (w0 := w2) (c := 86) (o := 0) (g := fun k => w1 98 (n * 60 + k)) (n := L.length) (fun m k hk => ?_) (fun m => ?_) FU (by unfold FU; omega)
        · show f_X9_work_70 (m + 1) n k _ = _
          rw [f_X9_work_70_s, ww_c _ _ _ _ (by omega : (85 : Nat) ≠ 86), ww_c _ _ _ _ (by omega : (98 : Nat) ≠ 86), z2, e98]
          simp (disch := omega) only [ixn, ix60, Int.toNat_natCast]
          rw [Nat.zero_add]
          exact (if_pos (by first | (simp (disch := omega) only [wr_eq] <;> omega) | omega)).trans ((if_pos (by first | (simp (disch := omega) only [wr_eq] <;> omega) | omega)).trans ((if_pos (by first | (simp (disch := omega) only [wr_eq] <;> omega) | omega)).trans rfl))
        · show f_X9_work_70 (m + 1) n ((L.length : Nat) : Int) _ = _
          rw [f_X9_work_70_s, ww_c _ _ _ _ (by omega : (85 : Nat) ≠ 86), z2]
          exact if_neg (Int.lt_irrefl _)
      · have F3 : FX [85, 86] [0, 2] w1 (ww w2 86 0 (fun k => w1 98 (n * 60 + k)) L.length) := F2.tr (FX.of (ww_Fr _ _ _ _ _) (by simp) (by simp))
        refine ⟨by rw [ww_c _ _ _ _ (by omega : (85 : Nat) ≠ 86)]; exact z20, fun _ => rfl, J1.typed F3 (by rw [ww_c _ _ _ _ (by omega : (85 : Nat) ≠ 86)]; exact z2) ?_, fun c hc => (F3.1 c (by simp; omega)).trans (F1 c hc)⟩
        show sg ((ww w2 86 0 (fun k => w1 98 (n * 60 + k)) L.length) 86) 0 L.length = L
        rw [sg_ww]
        exact eL
    · rw [if_neg c2]
      refine Ev.pos (by rw [show v = -1 from by omega]) (Ev.ret ⟨z1, fun _ => rfl, J1, F1⟩)
  · rw [if_neg c, if_neg c]
    refine Ev.pos rfl ?_
    unfold f_X9_fails f_X9_fails_16
    rw [z0, if_pos (by rfl : wr (0 : Int) = 0), if_neg (by decide : ¬ wr (1 : Int) = 0), up_same, if_pos (by decide : (0 : Int) < wr 1), ob_some]
    exact Ev.neg (by decide) (Ev.ret (RfQ_no h 1 0 _ (by decide)))
def ckR (L : List Int) (a : Int) : Int := L.foldl (fun a x => 31 * a + wr x) a
def ckA (V : Nat → List Int) : Nat → Nat → Int → Int
  | 0, _, a => a
  | n + 1, r, a => ckA V n (r + 1) (31 * ckR (V r) a + wr ((V r).length : Int))
theorem gt_nat (L : List Int) {k : Nat} (h : k < L.length) : gt L (k : Int) = L[k] := by
  unfold gt
  rw [if_pos (by omega), Int.toNat_natCast, List.getD_eq_getElem?_getD, List.getElem?_eq_getElem h]
  rfl
theorem cl_checksum {S : St} {w : WS} (h : JC S w) : Ev (f_X8_checksum w) (DQ (ckA S.2.2.2.1 26 0 7, S) w) := by
  have inner : ∀ (r : Nat), r < 26 → ∀ (j : Nat) (m k : Nat) (a : Int) (K : Int → Int → WS → Option (Int × WS)), (S.2.2.2.1 r).length - k ≤ j → j < m → k ≤ (S.2.2.2.1 r).length → f_X8_checksum_25 K m a r ((S.2.2.2.1 r).length : Nat) k w = K (31 * ckR ((S.2.2.2.1 r).drop k) a + wr ((S.2.2.2.1 r).length : Int)) ((r : Int) + 1) w := by
    intro r hr j
    have lv := h.lnV r
    induction j with
    | zero =>
      intro m k a K h1 h2 h3
      obtain ⟨m, rfl⟩ : ∃ q, m = q + 1 := ⟨m - 1, by omega⟩
      have e : k = (S.2.2.2.1 r).length := by omega
      rw [f_X8_checksum_25_s, e, if_neg (Int.lt_irrefl _), List.drop_length]
      rfl
    | succ j ih =>
      intro m k a K h1 h2 h3
      obtain ⟨m, rfl⟩ : ∃ q, m = q + 1 := ⟨m - 1, by omega⟩
      by_cases e : k = (S.2.2.2.1 r).length
      · rw [f_X8_checksum_25_s, e, if_neg (Int.lt_irrefl _), List.drop_length]
        rfl
      · have hk : k < (S.2.2.2.1 r).length := by omega
        rw [f_X8_checksum_25_s, if_pos (by first | (simp (disch := omega) only [wr_eq] <;> omega) | omega), f_sign RI_7 h.2.2.2.1.2 (a := r) (y := k) (by omega) (by omega), ob_some, h.2.2.2.1.1, Int.toNat_natCast, show ((k : Int) + 1) = ((k + 1 : Nat) : Int) from by omega, ih m (k + 1) _ K (by omega) (by omega) (by omega), gt_nat _ hk, List.drop_eq_getElem_cons hk]
        rfl
  have outer : ∀ (n : Nat) (m r : Nat) (a : Int), n < m → n + r = 26 → f_X8_checksum_6 m a r w = some (ckA S.2.2.2.1 n r a, w) := by
    intro n
    induction n with
    | zero =>
      intro m r a h1 h2
      obtain ⟨m, rfl⟩ : ∃ q, m = q + 1 := ⟨m - 1, by omega⟩
      rw [f_X8_checksum_6_s, if_neg (by first | (simp (disch := omega) only [wr_eq] <;> omega) | omega)]
      rfl
    | succ n ih =>
      intro m r a h1 h2
      obtain ⟨m, rfl⟩ : ∃ q, m = q + 1 := ⟨m - 1, by omega⟩
      have lv := h.lnV r
      have e9 : w (7 + 2) ((r : Int)).toNat = ((S.2.2.2.1 r).length : Int) := by rw [Int.toNat_natCast]; exact lv.1
      rw [f_X8_checksum_6_s, if_pos (by first | (simp (disch := omega) only [wr_eq] <;> omega) | omega), f_length RI_7 (a := r) (by omega), ob_some, e9]
      have := inner r (by omega) _ FU 0 a (fun x0 x1 x => f_X8_checksum_6 m x0 x1 x) (Nat.le_refl _) (by unfold FU; omega) (by omega)
      rw [List.drop_zero] at this
      refine this.trans ?_
      show f_X8_checksum_6 m _ ((r : Int) + 1) w = _
      rw [show ((r : Int) + 1) = ((r + 1 : Nat) : Int) from by omega]
      exact ih m (r + 1) _ (by omega) (by omega)
  unfold f_X8_checksum
  exact Ev.eq (outer 26 FU 0 7 (by unfold FU; omega) rfl) ⟨rfl, h, fun _ _ => rfl⟩
theorem rf_checksum {S : St} {w : WS} (h : JM S w) : Ev (f_X9_checksum w) (RfQ (0, ckA S.2.2.2.1 26 0 7, S) w) := by
  have h0 := h.z 0
  have hfin := RfQ_ok h (ckA S.2.2.2.1 26 0 7)
  unfold f_X9_checksum
  generalize up w 85 0 0 = w0 at h0 hfin ⊢
  have at_ : ∀ (r k : Nat), k < (S.2.2.2.1 r).length → w0 89 (r * 60 + k) = gt (S.2.2.2.1 r) k := by
    intro r k hk
    have lV := h0.lnV r
    have e := congrFun h0.2.2.2.1.1 r
    have e1 : (w0 90 r).toNat = (S.2.2.2.1 r).length := by rw [lV.1]; exact Int.toNat_natCast _
    unfold rM at e
    rw [← e, gt_sg ⟨by omega, by rw [e1]; omega⟩, Int.toNat_natCast]
  have inner : ∀ (r : Nat), r < 26 → ∀ (j : Nat) (m k : Nat) (a : Int) (K : Int → Int → WS → Option (Int × WS)), (S.2.2.2.1 r).length - k ≤ j → j < m → k ≤ (S.2.2.2.1 r).length → f_X9_checksum_20 K m a r k w0 = K (31 * ckR ((S.2.2.2.1 r).drop k) a + wr ((S.2.2.2.1 r).length : Int)) ((r : Int) + 1) w0 := by
    intro r hr j
    have lv := h0.lnV r
    have stop : ∀ (m : Nat) (a : Int) (K : Int → Int → WS → Option (Int × WS)), f_X9_checksum_20 K (m + 1) a r ((S.2.2.2.1 r).length : Nat) w0 = K (31 * ckR ((S.2.2.2.1 r).drop (S.2.2.2.1 r).length) a + wr ((S.2.2.2.1 r).length : Int)) ((r : Int) + 1) w0 := by
      intro m a K
      rw [f_X9_checksum_20_s, ixn (k := r) (by omega), Int.toNat_natCast, lv.1, List.drop_length]
      exact (if_pos (by omega)).trans ((if_neg (Int.lt_irrefl _)).trans ((if_pos (by omega)).trans rfl))
    induction j with
    | zero =>
      intro m k a K h1 h2 h3
      obtain ⟨m, rfl⟩ : ∃ q, m = q + 1 := ⟨m - 1, by omega⟩
      have e : k = (S.2.2.2.1 r).length := by omega
      subst e
      exact stop m a K
    | succ j ih =>
      intro m k a K h1 h2 h3
      obtain ⟨m, rfl⟩ : ∃ q, m = q + 1 := ⟨m - 1, by omega⟩
      by_cases e : k = (S.2.2.2.1 r).length
      · subst e
        exact stop m a K
      · have hk : k < (S.2.2.2.1 r).length := by omega
        rw [f_X9_checksum_20_s, ixn (k := r) (by omega), Int.toNat_natCast, lv.1, ix60 (by omega), Int.toNat_natCast, at_ r k hk, gt_nat _ hk, show ((k : Int) + 1) = ((k + 1 : Nat) : Int) from by omega]
        refine (if_pos (by omega)).trans ((if_pos (by first | (simp (disch := omega) only [wr_eq] <;> omega) | omega)).trans ((if_pos (by omega)).trans ?_))
        rw [ih m (k + 1) _ K (by omega) (by omega) (by omega), List.drop_eq_getElem_cons hk]
        rfl
  have outer : ∀ (n : Nat) (m r : Nat) (a : Int), n < m → n + r = 26 → f_X9_checksum_11 m a r w0 = some (ckA S.2.2.2.1 n r a, w0) := by
    intro n
    induction n with
    | zero =>
      intro m r a h1 h2
      obtain ⟨m, rfl⟩ : ∃ q, m = q + 1 := ⟨m - 1, by omega⟩
      rw [f_X9_checksum_11_s, if_neg (by first | (simp (disch := omega) only [wr_eq] <;> omega) | omega)]
      rfl
    | succ n ih =>
      intro m r a h1 h2
      obtain ⟨m, rfl⟩ : ∃ q, m = q + 1 := ⟨m - 1, by omega⟩
      rw [f_X9_checksum_11_s, if_pos (by first | (simp (disch := omega) only [wr_eq] <;> omega) | omega)]
      have := inner r (by omega) _ FU 0 a (fun x0 x1 x => f_X9_checksum_11 m x0 x1 x) (Nat.le_refl _) (by unfold FU; have := (h0.lnV r).2; omega) (by omega)
      rw [List.drop_zero] at this
      refine this.trans ?_
      show f_X9_checksum_11 m _ ((r : Int) + 1) w0 = _
      rw [show ((r : Int) + 1) = ((r + 1 : Nat) : Int) from by omega]
      exact ih m (r + 1) _ (by omega) (by omega)
  exact Ev.eq (outer 26 FU 0 7 (by unfold FU; omega) rfl) hfin
theorem sm_sumF (f : Nat → Int) (n : Nat) : sumF f n = sm f n := by
  induction n with
  | zero => rfl
  | succ n ih => show sumF f n + f n = sm f n + f n; rw [ih]
theorem cl_isSound {S : St} {w : WS} (hW : WF S) (h : JC S w) : Ev (f_X8_isSound w) (DQ (1, S) w) := by
  have hr := hW.2.2.2.2.1
  have hm := hW.2.2.2.2.2
  have r := h.r
  have m' := h.m
  have last : Ev (f_X8_isSound_63 w) (DQ (1, S) w) := by
    unfold f_X8_isSound_63
    have fin : Ev (some ((1 : Int), w)) (DQ (1, S) w) := Ev.ret ⟨rfl, h, fun _ _ => rfl⟩
    rcases hm.2.1 with q | q
    · refine Ev.pos ?_ fin
      rw [m'.2.1, q]; rfl
    · obtain ⟨a1, a2, a3⟩ := m'.2.2.2 q
      obtain ⟨b1, b2, b3, b4⟩ := hm.2.2 q
      rw [m'.2.1, q, a1, a2, a3]
      refine Ev.neg (by decide) ?_
      refine Ev.neg (by first | (simp (disch := omega) only [wr_eq] <;> omega) | omega) ?_; refine Ev.neg (by first | (simp (disch := omega) only [wr_eq] <;> omega) | omega) ?_; refine Ev.neg (by first | (simp (disch := omega) only [wr_eq] <;> omega) | omega) ?_
      exact fin
  have loop : ∀ (n : Nat) (m k : Nat), n < m → n + k = 26 → Ev (f_X8_isSound_2 m k w) (DQ (1, S) w) := by
    intro n
    induction n with
    | zero =>
      intro m k h1 h2
      obtain ⟨m, rfl⟩ : ∃ q, m = q + 1 := ⟨m - 1, by omega⟩
      rw [f_X8_isSound_2_s]
      refine Ev.neg (by first | (simp (disch := omega) only [wr_eq] <;> omega) | omega) ?_
      rw [r.1]
      refine Ev.ite (fun _ => last) (fun _ => ?_)
      refine Ev.obe (f_sum (i := 79) (n := 40) rfl (by omega)) ?_
      rw [sm_sumF, show w (79 + 1) = S.2.2.2.2.1.2.2.2.2.2.1 from r.2.2.2.2.2.1, hr.2.2.2.2.2.2.2.1, r.2.2.2.1]
      exact Ev.pos rfl last
    | succ n ih =>
      intro m k h1 h2
      obtain ⟨m, rfl⟩ : ∃ q, m = q + 1 := ⟨m - 1, by omega⟩
      have lv := h.lnV k
      rw [f_X8_isSound_2_s]
      refine Ev.pos (by first | (simp (disch := omega) only [wr_eq] <;> omega) | omega) ?_
      refine Ev.obe (f_length RI_7 (a := k) (by omega)) ?_
      rw [show w (7 + 2) ((k : Int)).toNat = ((S.2.2.2.1 k).length : Int) from by rw [Int.toNat_natCast]; exact lv.1]
      refine Ev.neg (by first | (simp (disch := omega) only [wr_eq] <;> omega) | omega) ?_
      rw [show ((k : Int) + 1) = ((k + 1 : Nat) : Int) from by omega]
      exact ih m (k + 1) (by omega) (by omega)
  unfold f_X8_isSound
  exact loop 26 FU 0 (by unfold FU; omega) rfl
theorem rf_isSound {S : St} {w : WS} (h : JM S w) : Ev (f_X9_isSound w) (RfQ (0, 1, S) w) := by
  unfold f_X9_isSound
  exact Ev.ret (RfQ_ok h 1)
