theorem ixn {k : Nat} (h : k ≤ 100000) : wr (k : Int) = k := wr_eq (by omega)
theorem ix60 {a k : Nat} (h : a ≤ 3000 ∧ k ≤ 3000) : wr (60 * (a : Int) + (k : Int)) = ((a * 60 + k : Nat) : Int) := by rw [wr_eq (by omega)]; omega
theorem ix20 {a k : Nat} (h : a ≤ 3000 ∧ k ≤ 3000) : wr (20 * (a : Int) + (k : Int)) = ((a * 20 + k : Nat) : Int) := by rw [wr_eq (by omega)]; omega
theorem m_takeVariable {w : WS} (ho : RM w 99 60 50) (hV : RM w 90 60 26) {t : Nat} {v : Int} (ht : t < 50) (hv : 0 ≤ v ∧ v < 26) : Ev (f_X9_takeVariable t v w) (P2 w t (0, rM w 89 90 60 v.toNat)) := by
  obtain ⟨v, rfl⟩ : ∃ k : Nat, v = k := ⟨v.toNat, by omega⟩
  have lv := lnM (s := 89) hV v
  unfold f_X9_takeVariable
  simp (disch := omega) only [ixn, Int.toNat_natCast]
  refine Ev.pos (by first | (simp (disch := omega) only [wr_eq] <;> omega) | omega) ?_; refine Ev.pos (by first | (simp (disch := omega) only [wr_eq] <;> omega) | omega) ?_
  have h := rM_ww (w := w) (s := 98) (z := 99) (st := 60) (n := 50) (a := t) (c := (w 90 v).toNat) (g := fun k => w 89 (v * 60 + k)) (zc := w 90 v) (by omega) ho ht (by omega) (by omega)
  refine Ev.eq (v := 0) (w := ww (up w 99 t (w 90 v)) 98 (t * 60) (fun k => w 89 (v * 60 + k)) (w 90 v).toNat) ?_ ?_
  · refine ww_loop (L := fun m k w => f_X9_takeVariable_14 m t v k w) (w0 := up w 99 t (w 90 v)) (c := 98) (o := t * 60) (g := fun k => w 89 (v * 60 + k)) (n := (w 90 v).toNat) (fun m k hk => ?_) (fun m => ?_) FU (by unfold FU; omega)
    · have e90 : (ww (up w 99 t (w 90 v)) 98 (t * 60) (fun k => w 89 (v * 60 + k)) k) 90 = w 90 := by rw [ww_c _ _ _ _ (by omega), up_row _ _ _ (by omega)]
      have e89 : (ww (up w 99 t (w 90 v)) 98 (t * 60) (fun k => w 89 (v * 60 + k)) k) 89 = w 89 := by rw [ww_c _ _ _ _ (by omega), up_row _ _ _ (by omega)]
      show f_X9_takeVariable_14 (m + 1) t v k _ = _
      rw [f_X9_takeVariable_14_s, e90, e89]
      simp (disch := omega) only [ixn, ix60, Int.toNat_natCast]
      refine (if_pos (by first | (simp (disch := omega) only [wr_eq] <;> omega) | omega)).trans ((if_pos (by first | (simp (disch := omega) only [wr_eq] <;> omega) | omega)).trans ((if_pos (by first | (simp (disch := omega) only [wr_eq] <;> omega) | omega)).trans ((if_pos (by first | (simp (disch := omega) only [wr_eq] <;> omega) | omega)).trans rfl)))
    · have e90 : (ww (up w 99 t (w 90 v)) 98 (t * 60) (fun k => w 89 (v * 60 + k)) (w 90 v).toNat) 90 = w 90 := by rw [ww_c _ _ _ _ (by omega), up_row _ _ _ (by omega)]
      show f_X9_takeVariable_14 (m + 1) t v ((w 90 v).toNat : Nat) _ = _
      rw [f_X9_takeVariable_14_s, e90]
      simp (disch := omega) only [ixn, Int.toNat_natCast]
      exact (if_pos (by first | (simp (disch := omega) only [wr_eq] <;> omega) | omega)).trans (if_neg (by first | (simp (disch := omega) only [wr_eq] <;> omega) | omega))
  · exact P2.vs h.2.2 h.2.1 h.1
/-- what the working out of a term looks at, in the reference; the term's own size is 0 already -/
def CK2 (w : WS) (k : Nat) (A B : List Int) : Prop := RM w 99 60 50 ∧ RM w 88 20 30 ∧ RM w 90 60 26 ∧ k < 50 ∧ TK1 (w 94 k) (w 95 k) (w 96 k) k ∧ (w 94 k ≠ 116 → w 94 k ≠ 118 → rM w 98 99 60 (w 95 k).toNat = A) ∧ (w 94 k ≠ 116 → w 94 k ≠ 118 → w 94 k ≠ 119 → w 94 k ≠ 35 → w 94 k ≠ 114 → rM w 98 99 60 (w 96 k).toNat = B) ∧ SO A ∧ SO B
theorem P2.pre {w w1 : WS} {k : Nat} {q : Int × List Int} (h1 : Fr [98, 99] w w1) (h2 : ∀ r, r ≠ k → rM w1 98 99 60 r = rM w 98 99 60 r) {v : Int} {w2 : WS} (h : P2 w1 k q v w2) : P2 w k q v w2 := by
  obtain ⟨a, b, c, d, e⟩ := h
  exact ⟨a, h1.tr b, c, d, fun r hr => (e r hr).trans (h2 r hr)⟩
theorem rM_zero {w : WS} {k : Nat} (ho : RM w 99 60 50) (hk : k < 50) : rM (up w 99 k 0) 98 99 60 = vs (rM w 98 99 60) k [] ∧ RM (up w 99 k 0) 99 60 50 := by
  have h3 : ∀ r, (up w 99 k 0) 99 r = if r = k then (([] : List Int).length : Int) else w 99 r := fun r => by
    by_cases e : r = k
    · rw [if_pos e, e, up_same]
      rfl
    · rw [if_neg e, up_slot _ _ _ _ e]
  exact ⟨rM_set ho [] (by simp) (fun x _ => by rw [up_row _ _ _ (by omega)]) rfl h3, RM_set ho hk _ (by simp) h3⟩
theorem m_rep_loop {k : Nat} {x : Int} (hk : k < 50) (hx : 0 ≤ x ∧ x < k) {A : List Int} {n : Nat} (hn : (A.length : Int) * n ≤ 60) (hn6 : n ≤ 60) (m : Nat) : ∀ (t : Nat) (w : WS), n - t < m → t ≤ n → RM w 99 60 50 → rM w 98 99 60 x.toNat = A → rM w 98 99 60 k = repL A t → Ev (f_X9_workOne_398 m k x ((n : Int) - t) w) (P2 w k (0, repL A n)) := by
  induction m with
  | zero => intro t w h; omega
  | succ m ih =>
    intro t w h1 h2 ho hA hR
    rw [f_X9_workOne_398_s]
    by_cases e : t = n
    · subst e
      refine Ev.neg (by first | (simp (disch := omega) only [wr_eq, wl_eq] <;> omega) | omega) ?_
      exact Ev.ret ⟨rfl, Fr.rf, ho, fun _ => hR, fun _ _ => rfl⟩
    · refine Ev.pos (by first | (simp (disch := omega) only [wr_eq, wl_eq] <;> omega) | omega) ?_
      have h9 : ((t : Int) + 1) * A.length ≤ n * A.length := Int.mul_le_mul_of_nonneg_right (by omega) (by omega)
      have h8 : ((t : Int) + 1) * A.length = t * A.length + A.length := by rw [Int.add_mul, Int.one_mul]
      have h7 : (n : Int) * A.length = A.length * n := Int.mul_comm _ _
      have hl := repL_len A t
      refine Ev.bd (m_append ho hk (o := x) (by omega) (by omega) (by rw [hA, hR]; omega)) ?_
      rintro v w1 ⟨-, g1, g2, g3⟩
      rw [hA, hR] at g3
      have ek : ((n : Int) - t - 1) = (n : Int) - ((t + 1 : Nat) : Int) := by omega
      rw [ek]
      refine Ev.mono (ih (t + 1) w1 (by omega) (by omega) g2 (by rw [g3, vs_ne _ _ (by omega), hA]) (by rw [g3, vs_same]; rfl)) ?_
      intro v w2 h
      exact P2.pre g1 (fun r hr => by rw [g3, vs_ne _ _ hr]) h
theorem m_copyT {w : WS} (ho : RM w 99 60 50) (hT : RM w 88 20 30) {t a : Nat} (ht : t < 50) (ha : a < 30) : Ev (f_X9_workOne_119 FU t a 0 (up w 99 t (w 88 a))) (P2 w t (0, rM w 87 88 20 a)) := by
  have lv := lnM (s := 87) hT a
  have h := rM_ww (w := w) (s := 98) (z := 99) (st := 60) (n := 50) (a := t) (c := (w 88 a).toNat) (g := fun k => w 87 (a * 20 + k)) (zc := w 88 a) (by omega) ho ht (by omega) (by omega)
  refine Ev.eq (v := 0) (w := ww (up w 99 t (w 88 a)) 98 (t * 60) (fun k => w 87 (a * 20 + k)) (w 88 a).toNat) ?_ (P2.vs h.2.2 h.2.1 h.1)
  refine ww_loop (L := fun m k w => f_X9_workOne_119 m t a k w) (w0 := up w 99 t (w 88 a)) (c := 98) (o := t * 60) (g := fun k => w 87 (a * 20 + k)) (n := (w 88 a).toNat) (fun m k hk => ?_) (fun m => ?_) FU (by unfold FU; omega)
  · have e88 : (ww (up w 99 t (w 88 a)) 98 (t * 60) (fun k => w 87 (a * 20 + k)) k) 88 = w 88 := by rw [ww_c _ _ _ _ (by omega), up_row _ _ _ (by omega)]
    have e87 : (ww (up w 99 t (w 88 a)) 98 (t * 60) (fun k => w 87 (a * 20 + k)) k) 87 = w 87 := by rw [ww_c _ _ _ _ (by omega), up_row _ _ _ (by omega)]
    show f_X9_workOne_119 (m + 1) t a k _ = _
    rw [f_X9_workOne_119_s, e88, e87]
    simp (disch := omega) only [ixn, ix60, ix20, Int.toNat_natCast]
    refine (if_pos (by first | (simp (disch := omega) only [wr_eq] <;> omega) | omega)).trans ((if_pos (by first | (simp (disch := omega) only [wr_eq] <;> omega) | omega)).trans ((if_pos (by first | (simp (disch := omega) only [wr_eq] <;> omega) | omega)).trans ((if_pos (by first | (simp (disch := omega) only [wr_eq] <;> omega) | omega)).trans rfl)))
  · have e88 : (ww (up w 99 t (w 88 a)) 98 (t * 60) (fun k => w 87 (a * 20 + k)) (w 88 a).toNat) 88 = w 88 := by rw [ww_c _ _ _ _ (by omega), up_row _ _ _ (by omega)]
    show f_X9_workOne_119 (m + 1) t a ((w 88 a).toNat : Nat) _ = _
    rw [f_X9_workOne_119_s, e88]
    simp (disch := omega) only [ixn, Int.toNat_natCast]
    exact (if_pos (by first | (simp (disch := omega) only [wr_eq] <;> omega) | omega)).trans (if_neg (by first | (simp (disch := omega) only [wr_eq] <;> omega) | omega))
theorem m_copyR {w : WS} (ho : RM w 99 60 50) {t a : Nat} (ht : t < 50) (ha : a < t) : Ev (f_X9_workOne_288 FU t a 0 (up w 99 t (w 99 a))) (P2 w t (0, (rM w 98 99 60 a).reverse)) := by
  have lv := lnM (s := 98) ho a
  have h := rM_ww (w := w) (s := 98) (z := 99) (st := 60) (n := 50) (a := t) (c := (w 99 a).toNat) (g := fun k => w 98 (a * 60 + ((w 99 a).toNat - 1 - k))) (zc := w 99 a) (by omega) ho ht (by omega) (by omega)
  have eR : (List.range (w 99 a).toNat).map (fun k => w 98 (a * 60 + ((w 99 a).toNat - 1 - k))) = (rM w 98 99 60 a).reverse := by
    refine List.ext_getElem? (fun j => ?_)
    by_cases hj : j < (w 99 a).toNat
    · rw [List.getElem?_reverse (by rw [rM, sg_len]; exact hj)]
      unfold rM
      rw [sg_len, sg_get _ _ (by omega)]
      simp [hj]
    · rw [List.getElem?_eq_none (by simp; omega), List.getElem?_eq_none (by rw [List.length_reverse, rM, sg_len]; omega)]
  rw [eR] at h
  refine Ev.eq (v := 0) (w := ww (up w 99 t (w 99 a)) 98 (t * 60) (fun k => w 98 (a * 60 + ((w 99 a).toNat - 1 - k))) (w 99 a).toNat) ?_ (P2.vs h.2.2 h.2.1 h.1)
  refine ww_loop (L := fun m k w => f_X9_workOne_288 m t a k w) (w0 := up w 99 t (w 99 a)) (c := 98) (o := t * 60) (g := fun k => w 98 (a * 60 + ((w 99 a).toNat - 1 - k))) (n := (w 99 a).toNat) (fun m k hk => ?_) (fun m => ?_) FU (by unfold FU; omega)
  · have e99 : (ww (up w 99 t (w 99 a)) 98 (t * 60) (fun k => w 98 (a * 60 + ((w 99 a).toNat - 1 - k))) k) 99 a = w 99 a := by rw [ww_c _ _ _ _ (by omega), up_slot _ _ _ _ (by omega)]
    have e98 : (ww (up w 99 t (w 99 a)) 98 (t * 60) (fun k => w 98 (a * 60 + ((w 99 a).toNat - 1 - k))) k) 98 (a * 60 + ((w 99 a).toNat - 1 - k)) = w 98 (a * 60 + ((w 99 a).toNat - 1 - k)) := by rw [ww_out _ _ _ (by omega), up_row _ _ _ (by omega)]
    show f_X9_workOne_288 (m + 1) t a k _ = _
    rw [f_X9_workOne_288_s]
    simp (disch := omega) only [ixn, ix60, Int.toNat_natCast, e99]
    rw [show wr ((((60 * (a : Int)) + (w 99 a)) - 1) - k) = ((a * 60 + ((w 99 a).toNat - 1 - k) : Nat) : Int) from by rw [wr_eq (by omega)]; omega, Int.toNat_natCast, e98]
    refine (if_pos (by first | (simp (disch := omega) only [wr_eq] <;> omega) | omega)).trans ((if_pos (by first | (simp (disch := omega) only [wr_eq] <;> omega) | omega)).trans ((if_pos (by first | (simp (disch := omega) only [wr_eq] <;> omega) | omega)).trans ((if_pos (by first | (simp (disch := omega) only [wr_eq] <;> omega) | omega)).trans ((if_pos (by first | (simp (disch := omega) only [wr_eq] <;> omega) | omega)).trans rfl))))
  · have e99 : (ww (up w 99 t (w 99 a)) 98 (t * 60) (fun k => w 98 (a * 60 + ((w 99 a).toNat - 1 - k))) (w 99 a).toNat) 99 a = w 99 a := by rw [ww_c _ _ _ _ (by omega), up_slot _ _ _ _ (by omega)]
    show f_X9_workOne_288 (m + 1) t a ((w 99 a).toNat : Nat) _ = _
    rw [f_X9_workOne_288_s]
    simp (disch := omega) only [ixn, Int.toNat_natCast, e99]
    exact (if_pos (by first | (simp (disch := omega) only [wr_eq] <;> omega) | omega)).trans (if_neg (by first | (simp (disch := omega) only [wr_eq] <;> omega) | omega))
