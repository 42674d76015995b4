/-! rows that the reference copies -/
theorem m_save {w : WS} (ho : RM w 130 60 30) (hV : RM w 90 60 26) {t v : Int} (ht : 0 ≤ t ∧ t < 30) (hv : 0 ≤ v ∧ v < 26) : Ev (f_X9_save t v w) (fun r w' => r = 0 ∧ Fr [129, 130] w w' ∧ RM w' 130 60 30 ∧ rM w' 129 130 60 = vs (rM w 129 130 60) t.toNat (rM w 89 90 60 v.toNat)) := by
  obtain ⟨t, rfl⟩ : ∃ k : Nat, t = k := ⟨t.toNat, by omega⟩
  obtain ⟨v, rfl⟩ : ∃ k : Nat, v = k := ⟨v.toNat, by omega⟩
  rw [Int.toNat_natCast, Int.toNat_natCast]
  have lv := lnM (s := 89) hV v
  unfold f_X9_save
  simp (disch := omega) only [ixn, Int.toNat_natCast]
  refine Ev.pos (by first | (simp (disch := omega) only [wr_eq] <;> omega) | omega) ?_; refine Ev.pos (by first | (simp (disch := omega) only [wr_eq] <;> omega) | omega) ?_
  have h := rM_ww (w := w) (s := 129) (z := 130) (st := 60) (n := 30) (a := t) (c := (w 90 v).toNat) (g := fun k => w 89 (v * 60 + k)) (zc := w 90 v) (by omega) ho (by omega) (by omega) (by omega)
  refine Ev.eq (v := 0) (w := (ww (up w 130 t (w 90 v)) 129 (t * 60) (fun k => w 89 (v * 60 + k)) (w 90 v).toNat)) ?_ ⟨rfl, h.2.2, h.2.1, h.1⟩
  refine ww_loop (L := fun m k w => f_X9_save_14 m t v k w) (w0 := (up w 130 t (w 90 v))) (c := 129) (o := t * 60) (g := (fun k => w 89 (v * 60 + k))) (n := (w 90 v).toNat) (fun m k hk => ?_) (fun m => ?_) FU (by unfold FU; omega)
  · have ez : (ww (up w 130 t (w 90 v)) 129 (t * 60) (fun k => w 89 (v * 60 + k)) k) 90 = w 90 := by rw [ww_c _ _ _ _ (by omega), up_row _ _ _ (by omega)]
    have es : (ww (up w 130 t (w 90 v)) 129 (t * 60) (fun k => w 89 (v * 60 + k)) k) 89 = w 89 := by rw [ww_c _ _ _ _ (by omega), up_row _ _ _ (by omega)]
    show f_X9_save_14 (m + 1) t v k _ = _
    rw [f_X9_save_14_s, ez, es]
    simp (disch := omega) only [ixn, ix60, Int.toNat_natCast]
    refine (if_pos (by first | (simp (disch := omega) only [wr_eq] <;> omega) | omega)).trans ((if_pos (by first | (simp (disch := omega) only [wr_eq] <;> omega) | omega)).trans ((if_pos (by first | (simp (disch := omega) only [wr_eq] <;> omega) | omega)).trans ((if_pos (by first | (simp (disch := omega) only [wr_eq] <;> omega) | omega)).trans rfl)))
  · have ez : (ww (up w 130 t (w 90 v)) 129 (t * 60) (fun k => w 89 (v * 60 + k)) (w 90 v).toNat) 90 = w 90 := by rw [ww_c _ _ _ _ (by omega), up_row _ _ _ (by omega)]
    show f_X9_save_14 (m + 1) t v ((w 90 v).toNat : Nat) _ = _
    rw [f_X9_save_14_s, ez]
    simp (disch := omega) only [ixn, Int.toNat_natCast]
    exact (if_pos (by first | (simp (disch := omega) only [wr_eq] <;> omega) | omega)).trans (if_neg (by first | (simp (disch := omega) only [wr_eq] <;> omega) | omega))
theorem m_putBack {w : WS} (ho : RM w 90 60 26) (hV : RM w 130 60 30) {t v : Int} (ht : 0 ≤ t ∧ t < 26) (hv : 0 ≤ v ∧ v < 30) : Ev (f_X9_putBack v t w) (fun r w' => r = 0 ∧ Fr [89, 90] w w' ∧ RM w' 90 60 26 ∧ rM w' 89 90 60 = vs (rM w 89 90 60) t.toNat (rM w 129 130 60 v.toNat)) := by
  obtain ⟨t, rfl⟩ : ∃ k : Nat, t = k := ⟨t.toNat, by omega⟩
  obtain ⟨v, rfl⟩ : ∃ k : Nat, v = k := ⟨v.toNat, by omega⟩
  rw [Int.toNat_natCast, Int.toNat_natCast]
  have lv := lnM (s := 129) hV v
  unfold f_X9_putBack
  simp (disch := omega) only [ixn, Int.toNat_natCast]
  refine Ev.pos (by first | (simp (disch := omega) only [wr_eq] <;> omega) | omega) ?_; refine Ev.pos (by first | (simp (disch := omega) only [wr_eq] <;> omega) | omega) ?_
  have h := rM_ww (w := w) (s := 89) (z := 90) (st := 60) (n := 26) (a := t) (c := (w 130 v).toNat) (g := fun k => w 129 (v * 60 + k)) (zc := w 130 v) (by omega) ho (by omega) (by omega) (by omega)
  refine Ev.eq (v := 0) (w := (ww (up w 90 t (w 130 v)) 89 (t * 60) (fun k => w 129 (v * 60 + k)) (w 130 v).toNat)) ?_ ⟨rfl, h.2.2, h.2.1, h.1⟩
  refine ww_loop (L := fun m k w => f_X9_putBack_14 m v t k w) (w0 := (up w 90 t (w 130 v))) (c := 89) (o := t * 60) (g := (fun k => w 129 (v * 60 + k))) (n := (w 130 v).toNat) (fun m k hk => ?_) (fun m => ?_) FU (by unfold FU; omega)
  · have ez : (ww (up w 90 t (w 130 v)) 89 (t * 60) (fun k => w 129 (v * 60 + k)) k) 130 = w 130 := by rw [ww_c _ _ _ _ (by omega), up_row _ _ _ (by omega)]
    have es : (ww (up w 90 t (w 130 v)) 89 (t * 60) (fun k => w 129 (v * 60 + k)) k) 129 = w 129 := by rw [ww_c _ _ _ _ (by omega), up_row _ _ _ (by omega)]
    show f_X9_putBack_14 (m + 1) v t k _ = _
    rw [f_X9_putBack_14_s, ez, es]
    simp (disch := omega) only [ixn, ix60, Int.toNat_natCast]
    refine (if_pos (by first | (simp (disch := omega) only [wr_eq] <;> omega) | omega)).trans ((if_pos (by first | (simp (disch := omega) only [wr_eq] <;> omega) | omega)).trans ((if_pos (by first | (simp (disch := omega) only [wr_eq] <;> omega) | omega)).trans ((if_pos (by first | (simp (disch := omega) only [wr_eq] <;> omega) | omega)).trans rfl)))
  · have ez : (ww (up w 90 t (w 130 v)) 89 (t * 60) (fun k => w 129 (v * 60 + k)) (w 130 v).toNat) 130 = w 130 := by rw [ww_c _ _ _ _ (by omega), up_row _ _ _ (by omega)]
    show f_X9_putBack_14 (m + 1) v t ((w 130 v).toNat : Nat) _ = _
    rw [f_X9_putBack_14_s, ez]
    simp (disch := omega) only [ixn, Int.toNat_natCast]
    exact (if_pos (by first | (simp (disch := omega) only [wr_eq] <;> omega) | omega)).trans (if_neg (by first | (simp (disch := omega) only [wr_eq] <;> omega) | omega))
theorem m_setTo {w : WS} (ho : RM w 90 60 26) (hV : RM w 99 60 50) {t v : Int} (ht : 0 ≤ t ∧ t < 26) (hv : 0 ≤ v ∧ v < 50) : Ev (f_X9_setTo t v w) (fun r w' => r = 0 ∧ Fr [89, 90] w w' ∧ RM w' 90 60 26 ∧ rM w' 89 90 60 = vs (rM w 89 90 60) t.toNat (rM w 98 99 60 v.toNat)) := by
  obtain ⟨t, rfl⟩ : ∃ k : Nat, t = k := ⟨t.toNat, by omega⟩
  obtain ⟨v, rfl⟩ : ∃ k : Nat, v = k := ⟨v.toNat, by omega⟩
  rw [Int.toNat_natCast, Int.toNat_natCast]
  have lv := lnM (s := 98) hV v
  unfold f_X9_setTo
  simp (disch := omega) only [ixn, Int.toNat_natCast]
  refine Ev.pos (by first | (simp (disch := omega) only [wr_eq] <;> omega) | omega) ?_; refine Ev.pos (by first | (simp (disch := omega) only [wr_eq] <;> omega) | omega) ?_
  have h := rM_ww (w := w) (s := 89) (z := 90) (st := 60) (n := 26) (a := t) (c := (w 99 v).toNat) (g := fun k => w 98 (v * 60 + k)) (zc := w 99 v) (by omega) ho (by omega) (by omega) (by omega)
  refine Ev.eq (v := 0) (w := (ww (up w 90 t (w 99 v)) 89 (t * 60) (fun k => w 98 (v * 60 + k)) (w 99 v).toNat)) ?_ ⟨rfl, h.2.2, h.2.1, h.1⟩
  refine ww_loop (L := fun m k w => f_X9_setTo_14 m t v k w) (w0 := (up w 90 t (w 99 v))) (c := 89) (o := t * 60) (g := (fun k => w 98 (v * 60 + k))) (n := (w 99 v).toNat) (fun m k hk => ?_) (fun m => ?_) FU (by unfold FU; omega)
  · have ez : (ww (up w 90 t (w 99 v)) 89 (t * 60) (fun k => w 98 (v * 60 + k)) k) 99 = w 99 := by rw [ww_c _ _ _ _ (by omega), up_row _ _ _ (by omega)]
    have es : (ww (up w 90 t (w 99 v)) 89 (t * 60) (fun k => w 98 (v * 60 + k)) k) 98 = w 98 := by rw [ww_c _ _ _ _ (by omega), up_row _ _ _ (by omega)]
    show f_X9_setTo_14 (m + 1) t v k _ = _
    rw [f_X9_setTo_14_s, ez, es]
    simp (disch := omega) only [ixn, ix60, Int.toNat_natCast]
    refine (if_pos (by first | (simp (disch := omega) only [wr_eq] <;> omega) | omega)).trans ((if_pos (by first | (simp (disch := omega) only [wr_eq] <;> omega) | omega)).trans ((if_pos (by first | (simp (disch := omega) only [wr_eq] <;> omega) | omega)).trans ((if_pos (by first | (simp (disch := omega) only [wr_eq] <;> omega) | omega)).trans rfl)))
  · have ez : (ww (up w 90 t (w 99 v)) 89 (t * 60) (fun k => w 98 (v * 60 + k)) (w 99 v).toNat) 99 = w 99 := by rw [ww_c _ _ _ _ (by omega), up_row _ _ _ (by omega)]
    show f_X9_setTo_14 (m + 1) t v ((w 99 v).toNat : Nat) _ = _
    rw [f_X9_setTo_14_s, ez]
    simp (disch := omega) only [ixn, Int.toNat_natCast]
    exact (if_pos (by first | (simp (disch := omega) only [wr_eq] <;> omega) | omega)).trans (if_neg (by first | (simp (disch := omega) only [wr_eq] <;> omega) | omega))
/-- typed signs, the subject: a row of the reference with its length in a field -/
theorem m_takeSubject {w : WS} (hV : RM w 90 60 26) {v : Int} (hv : 0 ≤ v ∧ v < 26) : Ev (f_X9_takeSubject v w) (fun r w' => Fr [85, 100] w w' ∧ (∀ k, k ≠ 20 → w' 85 k = w 85 k) ∧ w' 85 20 = (rM w 89 90 60 v.toNat).length ∧ sg (w' 100) 0 (rM w 89 90 60 v.toNat).length = rM w 89 90 60 v.toNat) := by
  obtain ⟨v, rfl⟩ : ∃ k : Nat, v = k := ⟨v.toNat, by omega⟩
  rw [Int.toNat_natCast]
  have lv := lnM (s := 89) hV v
  unfold f_X9_takeSubject
  simp (disch := omega) only [ixn, Int.toNat_natCast]
  refine Ev.pos (by first | (simp (disch := omega) only [wr_eq] <;> omega) | omega) ?_
  have e20 : (up w 85 20 (w 90 v)) 85 20 = w 90 v := up_same _ _ _ _
  have eL : (w 90 v).toNat = (rM w 89 90 60 v).length := by omega
  refine Ev.eq (v := 0) (w := ww (up w 85 20 (w 90 v)) 100 0 (fun k => w 89 (v * 60 + k)) (w 90 v).toNat) ?_ ⟨?_, ?_, ?_, ?_⟩
  · refine ww_loop (L := fun m k w => f_X9_takeSubject_12 m v k w) (w0 := up w 85 20 (w 90 v)) (c := 100) (o := 0) (g := fun k => w 89 (v * 60 + k)) (n := (w 90 v).toNat) (fun m k hk => ?_) (fun m => ?_) FU (by unfold FU; omega)
    · have e1 : (ww (up w 85 20 (w 90 v)) 100 0 (fun k => w 89 (v * 60 + k)) k) 85 20 = w 90 v := by rw [ww_c _ _ _ _ (by omega), e20]
      have e2 : (ww (up w 85 20 (w 90 v)) 100 0 (fun k => w 89 (v * 60 + k)) k) 89 = w 89 := by rw [ww_c _ _ _ _ (by omega), up_row _ _ _ (by omega)]
      show f_X9_takeSubject_12 (m + 1) v k _ = _
      rw [f_X9_takeSubject_12_s, e1, e2]
      simp (disch := omega) only [ixn, ix60, Int.toNat_natCast]
      refine (if_pos (by first | (simp (disch := omega) only [wr_eq] <;> omega) | omega)).trans ((if_pos (by first | (simp (disch := omega) only [wr_eq] <;> omega) | omega)).trans ((if_pos (by first | (simp (disch := omega) only [wr_eq] <;> omega) | omega)).trans ?_))
      rw [Nat.zero_add]
      rfl
    · have e1 : (ww (up w 85 20 (w 90 v)) 100 0 (fun k => w 89 (v * 60 + k)) (w 90 v).toNat) 85 20 = w 90 v := by rw [ww_c _ _ _ _ (by omega), e20]
      show f_X9_takeSubject_12 (m + 1) v ((w 90 v).toNat : Nat) _ = _
      rw [f_X9_takeSubject_12_s, e1]
      exact if_neg (by first | (simp (disch := omega) only [wr_eq] <;> omega) | omega)
  · intro c hc
    have : c ≠ 85 ∧ c ≠ 100 := by simpa using hc
    rw [ww_c _ _ _ _ this.2, up_row _ _ _ this.1]
  · intro k hk
    rw [ww_c _ _ _ _ (by omega), up_slot _ _ _ _ hk]
  · rw [ww_c _ _ _ _ (by omega), e20, lv.1]
  · rw [← eL, sg_ww]
    rfl
theorem m_takeTyped {w : WS} (h2 : 0 ≤ w 85 2 ∧ w 85 2 ≤ 60) : Ev (f_X9_takeTyped w) (fun r w' => Fr [85, 100] w w' ∧ (∀ k, k ≠ 20 → w' 85 k = w 85 k) ∧ w' 85 20 = w 85 2 ∧ sg (w' 100) 0 (w 85 2).toNat = sg (w 86) 0 (w 85 2).toNat) := by
  unfold f_X9_takeTyped
  have e20 : (up w 85 20 (w 85 2)) 85 20 = w 85 2 := up_same _ _ _ _
  have e2' : (up w 85 20 (w 85 2)) 85 2 = w 85 2 := up_slot _ _ _ _ (by omega)
  refine Ev.eq (v := 0) (w := ww (up w 85 20 (w 85 2)) 100 0 (fun k => w 86 (0 + k)) (w 85 2).toNat) ?_ ⟨?_, ?_, ?_, ?_⟩
  · refine ww_loop (L := fun m k w => f_X9_takeTyped_10 m k w) (w0 := up w 85 20 (w 85 2)) (c := 100) (o := 0) (g := fun k => w 86 (0 + k)) (n := (w 85 2).toNat) (fun m k hk => ?_) (fun m => ?_) FU (by unfold FU; omega)
    · have e1 : (ww (up w 85 20 (w 85 2)) 100 0 (fun k => w 86 (0 + k)) k) 85 2 = w 85 2 := by rw [ww_c _ _ _ _ (by omega), e2']
      have e2 : (ww (up w 85 20 (w 85 2)) 100 0 (fun k => w 86 (0 + k)) k) 86 = w 86 := by rw [ww_c _ _ _ _ (by omega), up_row _ _ _ (by omega)]
      show f_X9_takeTyped_10 (m + 1) k _ = _
      rw [f_X9_takeTyped_10_s, e1, e2]
      simp (disch := omega) only [ixn, Int.toNat_natCast]
      refine (if_pos (by first | (simp (disch := omega) only [wr_eq] <;> omega) | omega)).trans ((if_pos (by first | (simp (disch := omega) only [wr_eq] <;> omega) | omega)).trans ((if_pos (by first | (simp (disch := omega) only [wr_eq] <;> omega) | omega)).trans ?_))
      rw [Nat.zero_add]
      rfl
    · have e1 : (ww (up w 85 20 (w 85 2)) 100 0 (fun k => w 86 (0 + k)) (w 85 2).toNat) 85 2 = w 85 2 := by rw [ww_c _ _ _ _ (by omega), e2']
      show f_X9_takeTyped_10 (m + 1) ((w 85 2).toNat : Nat) _ = _
      rw [f_X9_takeTyped_10_s, e1]
      exact if_neg (by first | (simp (disch := omega) only [wr_eq] <;> omega) | omega)
  · intro c hc
    have : c ≠ 85 ∧ c ≠ 100 := by simpa using hc
    rw [ww_c _ _ _ _ this.2, up_row _ _ _ this.1]
  · intro k hk
    rw [ww_c _ _ _ _ (by omega), up_slot _ _ _ _ hk]
  · rw [ww_c _ _ _ _ (by omega), e20]
  · rw [sg_ww]
    rfl
theorem m_spare (w : WS) : Ev (f_X9_spare w) (fun r w' => Fr [132, 133] w w' ∧ (∀ k, k < 1560 → w' 132 k = w 89 k) ∧ (∀ k, k < 26 → w' 133 k = w 90 k)) := by
  unfold f_X9_spare
  refine Ev.eq (v := 0) (w := ww (ww w 132 0 (fun k => w 89 k) 1560) 133 0 (fun k => w 90 k) 26) ?_ ⟨?_, ?_, ?_⟩
  · refine ww_loop (L := fun m k w => f_X9_spare_2 m k w) (w0 := w) (c := 132) (o := 0) (g := fun k => w 89 k) (n := 1560) (fun m k hk => ?_) (fun m => ?_) FU (by unfold FU; omega)
    · show f_X9_spare_2 (m + 1) k _ = _
      rw [f_X9_spare_2_s, ww_c _ _ _ _ (by omega : (89 : Nat) ≠ 132)]
      simp (disch := omega) only [ixn, Int.toNat_natCast]
      refine (if_pos (by first | (simp (disch := omega) only [wr_eq] <;> omega) | omega)).trans ((if_pos (by first | (simp (disch := omega) only [wr_eq] <;> omega) | omega)).trans ((if_pos (by first | (simp (disch := omega) only [wr_eq] <;> omega) | omega)).trans ?_))
      rw [Nat.zero_add]
      rfl
    · show f_X9_spare_2 (m + 1) ((1560 : Nat) : Int) _ = _
      rw [f_X9_spare_2_s]
      refine (if_neg (by first | (simp (disch := omega) only [wr_eq] <;> omega) | omega)).trans ?_
      refine ww_loop (L := fun m k w => f_X9_spare_29 m k w) (w0 := ww w 132 0 (fun k => w 89 k) 1560) (c := 133) (o := 0) (g := fun k => w 90 k) (n := 26) (fun m k hk => ?_) (fun m => ?_) FU (by unfold FU; omega)
      · show f_X9_spare_29 (m + 1) k _ = _
        rw [f_X9_spare_29_s, ww_c _ _ _ _ (by omega : (90 : Nat) ≠ 133), ww_c _ _ _ _ (by omega : (90 : Nat) ≠ 132)]
        simp (disch := omega) only [ixn, Int.toNat_natCast]
        refine (if_pos (by first | (simp (disch := omega) only [wr_eq] <;> omega) | omega)).trans ((if_pos (by first | (simp (disch := omega) only [wr_eq] <;> omega) | omega)).trans ((if_pos (by first | (simp (disch := omega) only [wr_eq] <;> omega) | omega)).trans ?_))
        rw [Nat.zero_add]
        rfl
      · show f_X9_spare_29 (m + 1) ((26 : Nat) : Int) _ = _
        rw [f_X9_spare_29_s]
        exact if_neg (by first | (simp (disch := omega) only [wr_eq] <;> omega) | omega)
  · intro c hc
    have : c ≠ 132 ∧ c ≠ 133 := by simpa using hc
    rw [ww_c _ _ _ _ this.2, ww_c _ _ _ _ this.1]
  · intro k hk
    rw [ww_c _ _ _ _ (by omega : (132 : Nat) ≠ 133)]
    have := ww_in w 132 0 (k := k) (n := 1560) (fun k => w 89 k) hk
    rw [Nat.zero_add] at this
    exact this
  · intro k hk
    have := ww_in (ww w 132 0 (fun k => w 89 k) 1560) 133 0 (k := k) (n := 26) (fun k => w 90 k) hk
    rw [Nat.zero_add] at this
    exact this
theorem m_unspare (w : WS) : Ev (f_X9_unspare w) (fun r w' => Fr [89, 90] w w' ∧ (∀ k, w' 89 k = if k < 1560 then w 132 k else w 89 k) ∧ (∀ k, w' 90 k = if k < 26 then w 133 k else w 90 k)) := by
  unfold f_X9_unspare
  refine Ev.eq (v := 0) (w := ww (ww w 89 0 (fun k => w 132 k) 1560) 90 0 (fun k => w 133 k) 26) ?_ ⟨?_, ?_, ?_⟩
  · refine ww_loop (L := fun m k w => f_X9_unspare_2 m k w) (w0 := w) (c := 89) (o := 0) (g := fun k => w 132 k) (n := 1560) (fun m k hk => ?_) (fun m => ?_) FU (by unfold FU; omega)
    · show f_X9_unspare_2 (m + 1) k _ = _
      rw [f_X9_unspare_2_s, ww_c _ _ _ _ (by omega : (132 : Nat) ≠ 89)]
      simp (disch := omega) only [ixn, Int.toNat_natCast]
      refine (if_pos (by first | (simp (disch := omega) only [wr_eq] <;> omega) | omega)).trans ((if_pos (by first | (simp (disch := omega) only [wr_eq] <;> omega) | omega)).trans ((if_pos (by first | (simp (disch := omega) only [wr_eq] <;> omega) | omega)).trans ?_))
      rw [Nat.zero_add]
      rfl
    · show f_X9_unspare_2 (m + 1) ((1560 : Nat) : Int) _ = _
      rw [f_X9_unspare_2_s]
      refine (if_neg (by first | (simp (disch := omega) only [wr_eq] <;> omega) | omega)).trans ?_
      refine ww_loop (L := fun m k w => f_X9_unspare_29 m k w) (w0 := ww w 89 0 (fun k => w 132 k) 1560) (c := 90) (o := 0) (g := fun k => w 133 k) (n := 26) (fun m k hk => ?_) (fun m => ?_) FU (by unfold FU; omega)
      · show f_X9_unspare_29 (m + 1) k _ = _
        rw [f_X9_unspare_29_s, ww_c _ _ _ _ (by omega : (133 : Nat) ≠ 90), ww_c _ _ _ _ (by omega : (133 : Nat) ≠ 89)]
        simp (disch := omega) only [ixn, Int.toNat_natCast]
        refine (if_pos (by first | (simp (disch := omega) only [wr_eq] <;> omega) | omega)).trans ((if_pos (by first | (simp (disch := omega) only [wr_eq] <;> omega) | omega)).trans ((if_pos (by first | (simp (disch := omega) only [wr_eq] <;> omega) | omega)).trans ?_))
        rw [Nat.zero_add]
        rfl
      · show f_X9_unspare_29 (m + 1) ((26 : Nat) : Int) _ = _
        rw [f_X9_unspare_29_s]
        exact if_neg (by first | (simp (disch := omega) only [wr_eq] <;> omega) | omega)
  · intro c hc
    have : c ≠ 89 ∧ c ≠ 90 := by simpa using hc
    rw [ww_c _ _ _ _ this.2, ww_c _ _ _ _ this.1]
  · intro k
    rw [ww_c _ _ _ _ (by omega : (89 : Nat) ≠ 90)]
    by_cases hk : k < 1560
    · rw [if_pos hk]
      have := ww_in w 89 0 (k := k) (n := 1560) (fun k => w 132 k) hk
      rw [Nat.zero_add] at this
      exact this
    · rw [if_neg hk, ww_out _ _ _ (by omega)]
  · intro k
    by_cases hk : k < 26
    · rw [if_pos hk]
      have := ww_in (ww w 89 0 (fun k => w 132 k) 1560) 90 0 (k := k) (n := 26) (fun k => w 133 k) hk
      rw [Nat.zero_add] at this
      exact this
    · rw [if_neg hk, ww_out _ _ _ (by omega), ww_c _ _ _ _ (by omega : (90 : Nat) ≠ 89)]
