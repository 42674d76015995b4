def aRep (S : List Int) (s c : Int) (L : List Int) : List Int := S.take s.toNat ++ L ++ S.drop c.toNat
theorem aRep_len {S L : List Int} {s c : Int} (h : 0 ≤ s ∧ s ≤ c ∧ c ≤ S.length) : ((aRep S s c L).length : Int) = s + L.length + (S.length - c) := by
  unfold aRep
  rw [List.length_append, List.length_append, List.length_take, List.length_drop]
  omega
theorem c_replace {E : EV} {w : WS} (h : EC E w) (hl : (eS E).length ≤ 60) (ho19 : RO w 19 60 1) (ho16 : RO w 16 60 50) {s c : Int} (hs : w 39 11 = s) (hc : w 39 14 = c) (hsc : 0 ≤ s ∧ s ≤ c ∧ c ≤ (eS E).length) {r : Int} (hr : 0 ≤ r ∧ r < 50) {L : List Int} (hL : rC w 16 60 r.toNat = L) : Ev (f_X2_replace 19 0 16 r w) (fun v w' => Fr [20, 21] w w' ∧ RO w' 19 60 1 ∧ (v = if 60 < (aRep (eS E) s c L).length then 0 else 1) ∧ (v = 1 → rC w' 19 60 0 = aRep (eS E) s c L)) := by
  have hal := aRep_len (S := eS E) (L := L) hsc
  obtain ⟨g1, g2, g3, g4, g5, g6, g7, g8, g9, g10⟩ := h
  have ls := ln (z := 15) rfl g7 0
  rw [g6] at ls
  have lL := ln (z := 18) rfl ho16 r.toNat
  rw [hL] at lL
  unfold f_X2_replace
  refine Ev.obe (f_clear RI_19 (a := 0) (by omega)) ?_
  have o1 := RO_clear (0 : Int).toNat ho19
  have k1 := rC_clear (i := 19) (wd := 60) (w := w) (0 : Int).toNat
  have F1 : Fr [20, 21] w (up w (19 + 2) (0 : Int).toNat 0) := Fr.rf.up (by simp)
  have z1 : (up w (19 + 2) (0 : Int).toNat 0) (19 + 2) (0 : Int).toNat = 0 := up_same _ _ _ _
  generalize up w (19 + 2) (0 : Int).toNat 0 = w1 at o1 k1 F1 z1 ⊢
  rw [F1 39 (by simp), hs]
  have s15 : w1 15 = w 15 := F1 15 (by simp)
  have s14 : w1 14 = w 14 := F1 14 (by simp)
  have s130 : w1 (13 + 2) (0 : Int).toNat = w 15 0 := congrFun s15 0
  have r13 : rC w1 13 60 0 = eS E := (congrFun (rC_fr s14 s15) 0).trans g6
  refine Ev.bd (f_append_yes RI_19 o1 RI_13 (RO_fr s15 g7) (a := 0) (b := 0) (f := 0) (e := s) (by omega) (by omega) ⟨by omega, by omega, by rw [s130]; omega⟩ (Or.inl (by omega)) (by rw [z1]; omega)) ?_
  rintro v w2 ⟨rfl, q1, q2, q3⟩
  have q1 : Fr [20, 21] w1 w2 := q1
  refine Ev.neg (by decide) ?_
  have F2 := F1.tr q1
  rw [k1, vs_same, vs_vs, List.nil_append, Int.toNat_zero, r13, List.drop_zero, Int.sub_zero] at q3
  have l2 := ln (z := 21) rfl q2 0
  have e2 : rC w2 19 60 0 = (eS E).take s.toNat := by rw [q3, vs_same]
  rw [e2, List.length_take] at l2
  have u17 : w2 17 = w 17 := F2 17 (by simp)
  have u18 : w2 18 = w 18 := F2 18 (by simp)
  have o16 : RO w2 16 60 50 := RO_fr u18 ho16
  have h18 : w2 (16 + 2) r.toNat = w 18 r.toNat := congrFun u18 _
  have e16 : rC w2 16 60 r.toNat = L := (congrFun (rC_fr u17 u18) _).trans hL
  by_cases c1 : 60 < s + L.length
  · rw [f_appendAll_no RI_19 q2 RI_16 o16 (a := 0) (b := r) (by omega) (by omega) (by rw [h18]; show (60 : Int) < w2 21 0 + _; omega), ob_some]
    refine Ev.pos rfl (Ev.ret ⟨F2, q2, ?_, fun e => absurd e (by decide)⟩)
    rw [if_pos (by omega)]
  · refine Ev.bd (f_appendAll_yes RI_19 q2 RI_16 o16 (a := 0) (b := r) (by omega) (by omega) (Or.inl (by omega)) (by rw [h18]; show w2 21 0 + _ ≤ (60 : Int); omega)) ?_
    rintro v w3 ⟨rfl, p1, p2, p3⟩
    have p1 : Fr [20, 21] w2 w3 := p1
    refine Ev.neg (by decide) ?_
    have F3 := F2.tr p1
    rw [Int.toNat_zero, e2, e16] at p3
    have e3 : rC w3 19 60 0 = (eS E).take s.toNat ++ L := by rw [p3, vs_same]
    have l3 := ln (z := 21) rfl p2 0
    rw [e3, List.length_append, List.length_take] at l3
    have v15 : w3 15 = w 15 := F3 15 (by simp)
    have v14 : w3 14 = w 14 := F3 14 (by simp)
    have v130 : w3 (13 + 2) (0 : Int).toNat = w 15 0 := congrFun v15 0
    have r13' : rC w3 13 60 0 = eS E := (congrFun (rC_fr v14 v15) 0).trans g6
    rw [F3 39 (by simp), hc, g10]
    by_cases c2 : 60 < s + L.length + ((eS E).length - c)
    · rw [f_append_no RI_19 p2 13 (a := 0) (b := 0) (f := c) (e := (eS E).length) (by omega) (by omega) (by show (60 : Int) < w3 21 0 + _; omega), ob_some]
      refine Ev.pos rfl (Ev.ret ⟨F3, p2, ?_, fun e => absurd e (by decide)⟩)
      rw [if_pos (by omega)]
    · refine Ev.bd (f_append_yes RI_19 p2 RI_13 (RO_fr v15 g7) (a := 0) (b := 0) (f := c) (e := (eS E).length) (by omega) (by omega) ⟨by omega, by omega, by rw [v130]; omega⟩ (Or.inl (by omega)) (by show w3 21 0 + _ ≤ (60 : Int); omega)) ?_
      rintro v w4 ⟨rfl, t1, t2, t3⟩
      have t1 : Fr [20, 21] w3 w4 := t1
      refine Ev.neg (by decide) (Ev.ret ⟨F3.tr t1, t2, ?_, fun _ => ?_⟩)
      · rw [if_neg (by omega)]
      · rw [t3, Int.toNat_zero, vs_same, e3, r13']
        unfold aRep
        congr 1
        rw [List.take_of_length_le]
        rw [List.length_drop]
        omega
theorem keep_loop {E : EV} (hl : (eS E).length ≤ 60) {T : List Tk} (hT : TOK E T) (hTl : T.length ≤ 3000) (m : Nat) : ∀ (k : Nat) (V : Nat → List Int) (w : WS), T.length - k < m → k ≤ T.length → EM E w → VM w V → tkR w T → Ev (f_X9_assignKept_2 m k w) (fun v w' => v = 0 ∧ Fr [89, 90] w w' ∧ VM w' (asgT (eS E) V (T.drop k))) := by
  induction m with
  | zero => intro k V w h; omega
  | succ m ih =>
    intro k V w h1 h2 h3 h4 h5
    rw [f_X9_assignKept_2_s, h5.1]
    by_cases e : k = T.length
    · refine Ev.neg (by first | (simp (disch := omega) only [wr_eq] <;> omega) | omega) ?_
      rw [e, List.drop_length]
      exact Ev.ret ⟨rfl, Fr.rf, h4⟩
    · refine Ev.pos (by first | (simp (disch := omega) only [wr_eq] <;> omega) | omega) ?_
      have hk : k < T.length := by omega
      obtain ⟨t1, t2, t3⟩ := h5.2 k hk T[k] (List.getElem?_eq_getElem hk)
      have tm := hT T[k] (List.getElem_mem hk)
      rw [ixn (by omega), Int.toNat_natCast, t1, t2, t3]
      refine Ev.pos (by first | (simp (disch := omega) only [wr_eq] <;> omega) | omega) ?_; refine Ev.pos (by first | (simp (disch := omega) only [wr_eq] <;> omega) | omega) ?_; refine Ev.pos (by first | (simp (disch := omega) only [wr_eq] <;> omega) | omega) ?_
      refine Ev.bd (m_assign h3 hl h4 (a := T[k].1) (f := T[k].2.1) (e := T[k].2.2) ⟨tm.1, tm.2.1⟩ tm.2.2) ?_
      rintro v w1 ⟨-, q1, q2⟩
      have ek : ((k : Int) + 1) = ((k + 1 : Nat) : Int) := by omega
      rw [ek, List.drop_eq_getElem_cons hk]
      refine Ev.mono (ih (k + 1) _ w1 (by omega) (by omega) (h3.fr (FM.of q1 (by decide) (by simp))) q2 (h5.fr (by rw [q1 85 (by simp)]) (q1 111 (by simp)) (q1 112 (by simp)) (q1 113 (by simp)))) ?_
      rintro v w2 ⟨p0, p1, p2⟩
      exact ⟨p0, q1.tr p1, p2⟩
theorem m_assignKept {E : EV} (hl : (eS E).length ≤ 60) {T : List Tk} (hT : TOK E T) (hTl : T.length ≤ 3000) {V : Nat → List Int} {w : WS} (h3 : EM E w) (h4 : VM w V) (h5 : tkR w T) : Ev (f_X9_assignKept w) (fun v w' => v = 0 ∧ Fr [89, 90] w w' ∧ VM w' (asgT (eS E) V T)) := by
  unfold f_X9_assignKept
  exact keep_loop hl hT hTl FU 0 V w (by unfold FU; omega) (by omega) h3 h4 h5
theorem m_replace {E : EV} {w : WS} (h : EM E w) (hl : (eS E).length ≤ 60) {V : Nat → List Int} (hV : VM w V) (ho : RM w 99 60 50) {v r s c : Int} (hv : 0 ≤ v ∧ v < 26) (hr : 0 ≤ r ∧ r < 50) (hsc : 0 ≤ s ∧ s ≤ c ∧ c ≤ (eS E).length) {L : List Int} (hL : rM w 98 99 60 r.toNat = L) : Ev (f_X9_replace v r s c w) (fun x w' => Fr [89, 90] w w' ∧ (x = if 60 < (aRep (eS E) s c L).length then 0 else 1) ∧ VM w' (if 60 < (aRep (eS E) s c L).length then V else vs V v.toNat (aRep (eS E) s c L))) := by
  have hal := aRep_len (S := eS E) (L := L) hsc
  obtain ⟨v, rfl⟩ : ∃ k : Nat, v = k := ⟨v.toNat, by omega⟩
  obtain ⟨r, rfl⟩ : ∃ k : Nat, r = k := ⟨r.toNat, by omega⟩
  obtain ⟨s, rfl⟩ : ∃ k : Nat, s = k := ⟨s.toNat, by omega⟩
  obtain ⟨c, rfl⟩ : ∃ k : Nat, c = k := ⟨c.toNat, by omega⟩
  rw [Int.toNat_natCast] at hL ⊢
  have lL := lnM (s := 98) ho r
  rw [hL] at lL
  have h20 := h.2.2.2.2.2.2.1
  unfold f_X9_replace
  rw [ixn (k := r) (by omega), Int.toNat_natCast, h20, ← lL.1]
  refine Ev.pos (by first | (simp (disch := omega) only [wr_eq] <;> omega) | omega) ?_
  have hS0 : sg (w 100) 0 (eS E).length = eS E := h.2.2.2.2.2.1
  by_cases q : 60 < (aRep (eS E) (s : Int) (c : Int) L).length
  · rw [if_pos q, if_pos q]
    refine Ev.pos (by first | (simp (disch := omega) only [wr_eq] <;> omega) | omega) ?_
    exact Ev.ret ⟨Fr.rf, rfl, hV⟩
  · rw [if_neg q, if_neg q]
    refine Ev.neg (by first | (simp (disch := omega) only [wr_eq] <;> omega) | omega) ?_
    have hz : ((eS E).length : Int) - ((c : Int) - s) + L.length = ((aRep (eS E) (s : Int) (c : Int) L).length : Int) := by omega
    rw [hz]
    generalize hW1 : ww w 89 (v * 60) (fun k => w 100 k) s = W1
    generalize hW2 : ww W1 89 (v * 60 + s) (fun k => w 98 (r * 60 + k)) L.length = W2
    generalize hW3 : ww W2 89 (v * 60 + s + L.length) (fun k => w 100 (c + k)) ((eS E).length - c) = W3
    have c1 : ∀ i, i ≠ 89 → W1 i = w i := fun i hi => by rw [← hW1, ww_c _ _ _ _ hi]
    have c2 : ∀ i, i ≠ 89 → W2 i = w i := fun i hi => by rw [← hW2, ww_c _ _ _ _ hi, c1 i hi]
    have c3 : ∀ i, i ≠ 89 → W3 i = w i := fun i hi => by rw [← hW3, ww_c _ _ _ _ hi, c2 i hi]
    have h3 : ∀ i, (up W3 90 v ((aRep (eS E) (s : Int) (c : Int) L).length : Int)) 90 i = if i = v then ((aRep (eS E) (s : Int) (c : Int) L).length : Int) else w 90 i := fun i => by
      by_cases e : i = v
      · rw [if_pos e, e, up_same]
      · rw [if_neg e, up_slot _ _ _ _ e, c3 90 (by omega)]
    refine Ev.eq (v := 1) (w := up W3 90 v ((aRep (eS E) (s : Int) (c : Int) L).length : Int)) ?_ ⟨?_, rfl, ?_, RM_set hV.2 (by omega) _ (by omega) h3⟩
    · rw [show f_X9_replace_30 FU v r s c ((aRep (eS E) (s : Int) (c : Int) L).length : Int) 0 w = f_X9_replace_64 FU v r s c ((aRep (eS E) (s : Int) (c : Int) L).length : Int) 0 W1 from ?_]
      · rw [show f_X9_replace_64 FU v r s c ((aRep (eS E) (s : Int) (c : Int) L).length : Int) 0 W1 = f_X9_replace_111 FU v r s c ((aRep (eS E) (s : Int) (c : Int) L).length : Int) c W2 from ?_]
        · have key := ww_loop (L := fun m k w => f_X9_replace_111 m v r s c ((aRep (eS E) (s : Int) (c : Int) L).length : Int) ((c : Int) + k) w) (w0 := W2) (c := 89) (o := v * 60 + s + L.length) (g := fun k => w 100 (c + k)) (n := (eS E).length - c) (R := some (1, up W3 90 v ((aRep (eS E) (s : Int) (c : Int) L).length : Int))) (fun m k hk => ?_) (fun m => ?_) FU (by unfold FU; omega)
          · have key : f_X9_replace_111 FU v r s c ((aRep (eS E) (s : Int) (c : Int) L).length : Int) ((c : Int) + 0) W2 = _ := key
            rw [Int.add_zero] at key
            exact key
          · have d : ∀ i, i ≠ 89 → (ww W2 89 (v * 60 + s + L.length) (fun k => w 100 (c + k)) k) i = w i := fun i hi => by rw [ww_c _ _ _ _ hi, c2 i hi]
            show f_X9_replace_111 (m + 1) v r s c _ ((c : Int) + k) _ = f_X9_replace_111 m v r s c _ ((c : Int) + ((k + 1 : Nat) : Int)) _
            rw [f_X9_replace_111_s, d 85 (by omega), d 99 (by omega), d 100 (by omega), h20, ixn (k := r) (by omega), Int.toNat_natCast, ← lL.1, show wr ((((60 * (v : Int) + s) + L.length) + ((c : Int) + k)) - c) = ((v * 60 + s + L.length + k : Nat) : Int) from by rw [wr_eq (by omega)]; omega, show wr ((c : Int) + k) = ((c + k : Nat) : Int) from by rw [wr_eq (by omega)]; omega, Int.toNat_natCast, Int.toNat_natCast]
            refine (if_pos (by first | (simp (disch := omega) only [wr_eq] <;> omega) | omega)).trans ((if_pos (by first | (simp (disch := omega) only [wr_eq] <;> omega) | omega)).trans ((if_pos (by first | (simp (disch := omega) only [wr_eq] <;> omega) | omega)).trans ((if_pos (by first | (simp (disch := omega) only [wr_eq] <;> omega) | omega)).trans ?_)))
            rw [show (c : Int) + k + 1 = (c : Int) + ((k + 1 : Nat) : Int) from by omega]
          · show f_X9_replace_111 (m + 1) v r s c _ ((c : Int) + (((eS E).length - c : Nat) : Int)) _ = _
            rw [hW3, f_X9_replace_111_s, c3 85 (by omega), h20, ixn (k := v) (by omega), Int.toNat_natCast]
            exact (if_neg (by first | (simp (disch := omega) only [wr_eq] <;> omega) | omega)).trans (if_pos (by first | (simp (disch := omega) only [wr_eq] <;> omega) | omega))
        · refine ww_loop (L := fun m k w => f_X9_replace_64 m v r s c ((aRep (eS E) (s : Int) (c : Int) L).length : Int) k w) (w0 := W1) (c := 89) (o := v * 60 + s) (g := fun k => w 98 (r * 60 + k)) (n := L.length) (fun m k hk => ?_) (fun m => ?_) FU (by unfold FU; omega)
          · have d : ∀ i, i ≠ 89 → (ww W1 89 (v * 60 + s) (fun k => w 98 (r * 60 + k)) k) i = w i := fun i hi => by rw [ww_c _ _ _ _ hi, c1 i hi]
            show f_X9_replace_64 (m + 1) v r s c _ k _ = _
            rw [f_X9_replace_64_s, d 99 (by omega), d 98 (by omega), ixn (k := r) (by omega), Int.toNat_natCast, ← lL.1, ix60 (by omega), show wr ((60 * (v : Int) + s) + k) = ((v * 60 + s + k : Nat) : Int) from by rw [wr_eq (by omega)]; omega, Int.toNat_natCast, Int.toNat_natCast]
            exact (if_pos (by first | (simp (disch := omega) only [wr_eq] <;> omega) | omega)).trans ((if_pos (by first | (simp (disch := omega) only [wr_eq] <;> omega) | omega)).trans ((if_pos (by first | (simp (disch := omega) only [wr_eq] <;> omega) | omega)).trans ((if_pos (by first | (simp (disch := omega) only [wr_eq] <;> omega) | omega)).trans rfl)))
          · show f_X9_replace_64 (m + 1) v r s c _ ((L.length : Nat) : Int) _ = _
            rw [hW2, f_X9_replace_64_s, c2 99 (by omega), ixn (k := r) (by omega), Int.toNat_natCast, ← lL.1]
            exact (if_pos (by first | (simp (disch := omega) only [wr_eq] <;> omega) | omega)).trans (if_neg (by first | (simp (disch := omega) only [wr_eq] <;> omega) | omega))
      · refine ww_loop (L := fun m k w => f_X9_replace_30 m v r s c ((aRep (eS E) (s : Int) (c : Int) L).length : Int) k w) (w0 := w) (c := 89) (o := v * 60) (g := fun k => w 100 k) (n := s) (fun m k hk => ?_) (fun m => ?_) FU (by unfold FU; omega)
        · have d : (ww w 89 (v * 60) (fun k => w 100 k) k) 100 = w 100 := ww_c _ _ _ _ (by omega)
          show f_X9_replace_30 (m + 1) v r s c _ k _ = _
          rw [f_X9_replace_30_s, d, ix60 (by omega), ixn (k := k) (by omega), Int.toNat_natCast, Int.toNat_natCast]
          exact (if_pos (by first | (simp (disch := omega) only [wr_eq] <;> omega) | omega)).trans ((if_pos (by first | (simp (disch := omega) only [wr_eq] <;> omega) | omega)).trans ((if_pos (by first | (simp (disch := omega) only [wr_eq] <;> omega) | omega)).trans rfl))
        · show f_X9_replace_30 (m + 1) v r s c _ ((s : Nat) : Int) _ = _
          rw [hW1, f_X9_replace_30_s]
          exact if_neg (by first | (simp (disch := omega) only [wr_eq] <;> omega) | omega)
    · intro i hi
      have : i ≠ 89 ∧ i ≠ 90 := by simpa using hi
      rw [up_row _ _ _ this.2, c3 i this.1]
    · have rr : ∀ k, k < v * 60 ∨ v * 60 + 60 ≤ k → W3 89 k = w 89 k := by
        intro k hk
        rw [← hW3, ww_out _ _ _ (by omega), ← hW2, ww_out _ _ _ (by omega), ← hW1, ww_out _ _ _ (by omega)]
      rw [rM_set (a := v) hV.2 (aRep (eS E) (s : Int) (c : Int) L) (by omega) (fun x hx => by rw [up_row _ _ _ (by omega)]; exact rr x hx) ?_ h3, hV.1]
      rw [up_row _ _ _ (by omega), show (aRep (eS E) (s : Int) (c : Int) L).length = s + L.length + ((eS E).length - c) from by omega, sg_add, sg_add]
      unfold aRep
      congr 1
      · congr 1
        · have e1 : (eS E).take s = sg (w 100) 0 s := by rw [← sg_take (w 100) 0 (n := (eS E).length) (m := s) (by omega), hS0]
          rw [Int.toNat_natCast, e1]
          refine sg_congr (fun k hk => ?_)
          rw [← hW3, ww_out _ _ _ (by omega), ← hW2, ww_out _ _ _ (by omega), ← hW1, ww_in _ _ _ _ hk, Nat.zero_add]
        · have e2 : L = sg (w 98) (r * 60) L.length := by
            have : (w 99 r).toNat = L.length := by omega
            rw [← this, ← hL]
            rfl
          generalize L.length = n at *
          rw [e2]
          refine sg_congr (fun k hk => ?_)
          rw [← hW3, ww_out _ _ _ (by omega), ← hW2, ww_in _ _ _ _ hk]
      · have e3 : (eS E).drop c = sg (w 100) c ((eS E).length - c) := by
          have := sg_drop (w 100) 0 (n := (eS E).length) (m := c) (by omega)
          rw [hS0, Nat.zero_add] at this
          exact this
        rw [Int.toNat_natCast, e3]
        refine sg_congr (fun k hk => ?_)
        rw [← Nat.add_assoc, ← hW3, ww_in _ _ _ _ hk]
