theorem m_append_loop {t o : Nat} (ht : t < 50) (hto : o ≠ t) (hoo : o < 50) {A B : List Int} (hAB : A.length + B.length ≤ 60) (m : Nat) : ∀ (k : Nat) (w : WS), B.length - k < m → k ≤ B.length → RM w 99 60 50 → rM w 98 99 60 t = A ++ B.take k → rM w 98 99 60 o = B → Ev (f_X9_append_2 m t o k w) (fun v w' => v = 0 ∧ Fr [98, 99] w w' ∧ RM w' 99 60 50 ∧ rM w' 98 99 60 = vs (rM w 98 99 60) t (A ++ B)) := by
  induction m with
  | zero => intro k w h; omega
  | succ m ih =>
    intro k w h1 h2 ho hA hB
    rw [f_X9_append_2_s]
    have lt := lnM (s := 98) ho t
    have lo := lnM (s := 98) ho o
    rw [hA, List.length_append, List.length_take] at lt
    rw [hB] at lo
    rw [wr_eq (a := (t : Int)) (by omega), wr_eq (a := (o : Int)) (by omega), Int.toNat_natCast, Int.toNat_natCast]
    refine Ev.pos (by first | (simp (disch := omega) only [wr_eq] <;> omega) | omega) ?_
    by_cases e : k = B.length
    · refine Ev.neg (by first | (simp (disch := omega) only [wr_eq] <;> omega) | omega) ?_
      refine Ev.ret ⟨rfl, Fr.rf, ho, ?_⟩
      rw [e, List.take_length] at hA
      rw [← hA]
      funext r
      unfold vs
      split
      · next h => rw [h]
      · rfl
    · refine Ev.pos (by first | (simp (disch := omega) only [wr_eq] <;> omega) | omega) ?_; refine Ev.pos (by first | (simp (disch := omega) only [wr_eq] <;> omega) | omega) ?_
      rw [show wr ((60 * (o : Int)) + k) = ((o * 60 + k : Nat) : Int) from by rw [wr_eq (by omega)]; omega, show wr ((60 * (t : Int)) + w 99 t) = ((t * 60 + (w 99 t).toNat : Nat) : Int) from by rw [wr_eq (by omega)]; omega, Int.toNat_natCast, Int.toNat_natCast]
      refine Ev.pos (by first | (simp (disch := omega) only [wr_eq] <;> omega) | omega) ?_; refine Ev.pos (by first | (simp (disch := omega) only [wr_eq] <;> omega) | omega) ?_; refine Ev.pos (by first | (simp (disch := omega) only [wr_eq] <;> omega) | omega) ?_; refine Ev.pos (by first | (simp (disch := omega) only [wr_eq] <;> omega) | omega) ?_
      have ek : ((k : Int) + 1) = ((k + 1 : Nat) : Int) := by omega
      rw [ek, up_row w (i := 98) _ _ (by omega : (99 : Nat) ≠ 98)]
      have gx := gt_rM (s := 98) (r := o) (y := k) ho (by omega)
      rw [Int.toNat_natCast, hB] at gx
      rw [← gx]
      have z3 : ∀ r, (up (up w 98 (t * 60 + (w 99 t).toNat) (gt B k)) 99 t (w 99 t + 1)) 99 r = if r = t then (((rM w 98 99 60 t) ++ [gt B k]).length : Int) else w 99 r := by
        intro r
        rw [hA, List.length_append, List.length_append, List.length_take, List.length_singleton]
        by_cases e : r = t
        · rw [if_pos e, e, up_same]
          omega
        · rw [if_neg e, up_slot _ _ _ _ e, up_row _ _ _ (by omega : (99 : Nat) ≠ 98)]
      have hlen : ((rM w 98 99 60 t) ++ [gt B k]).length = (w 99 t).toNat + 1 := by
        rw [List.length_append, List.length_singleton, rM, sg_len]
      have hv : rM (up (up w 98 (t * 60 + (w 99 t).toNat) (gt B k)) 99 t (w 99 t + 1)) 98 99 60 = vs (rM w 98 99 60) t ((rM w 98 99 60 t) ++ [gt B k]) := by
        refine rM_set ho _ (by omega) (fun x hx => ?_) ?_ z3
        · rw [up_row _ _ _ (by omega : (98 : Nat) ≠ 99), up_slot _ _ _ _ (by omega)]
        · rw [hlen, sg_succ, up_row _ _ _ (by omega : (98 : Nat) ≠ 99), up_same]
          congr 1
          exact sg_up_out (Or.inr (Or.inr (Nat.le_refl _)))
      have hR : RM (up (up w 98 (t * 60 + (w 99 t).toNat) (gt B k)) 99 t (w 99 t + 1)) 99 60 50 := RM_set ho ht _ (by omega) z3
      refine Ev.mono (ih (k + 1) _ (by omega) (by omega) hR ?_ ?_) ?_
      · rw [hv, vs_same, hA, List.append_assoc, List.take_add_one]
        congr 2
        unfold gt
        rw [if_pos (by omega), Int.toNat_natCast, List.getD_eq_getElem?_getD, List.getElem?_eq_getElem (by omega)]
        rfl
      · rw [hv, vs_ne _ _ hto, hB]
      · rintro v w2 ⟨rfl, q1, q2, q3⟩
        exact ⟨rfl, ((Fr.rf.up (by simp)).up (by simp)).tr q1, q2, by rw [q3, hv, vs_vs]⟩
theorem m_append {w : WS} (ho : RM w 99 60 50) {t : Nat} {o : Int} (ht : t < 50) (hoo : 0 ≤ o ∧ o < 50) (hto : o.toNat ≠ t) (hAB : (rM w 98 99 60 t).length + (rM w 98 99 60 o.toNat).length ≤ 60) : Ev (f_X9_append t o w) (fun v w' => v = 0 ∧ Fr [98, 99] w w' ∧ RM w' 99 60 50 ∧ rM w' 98 99 60 = vs (rM w 98 99 60) t (rM w 98 99 60 t ++ rM w 98 99 60 o.toNat)) := by
  obtain ⟨o, rfl⟩ : ∃ k : Nat, o = k := ⟨o.toNat, by omega⟩
  rw [Int.toNat_natCast] at hto hAB ⊢
  unfold f_X9_append
  exact m_append_loop ht hto (by omega) hAB FU 0 w (by unfold FU; omega) (by omega) ho (by rw [List.take_zero, List.append_nil]) rfl
theorem m_isSame_loop {w : WS} (ho : RM w 99 60 50) {a b : Nat} (ha : a < 50) (hb : b < 50) (hl : (rM w 98 99 60 a).length = (rM w 98 99 60 b).length) (sa : SO (rM w 98 99 60 a)) (sb : SO (rM w 98 99 60 b)) (m : Nat) : ∀ (k : Nat) (f : Int), (rM w 98 99 60 a).length + 1 - k < m → k ≤ (rM w 98 99 60 a).length → (f = 1 ∧ (rM w 98 99 60 a).take k = (rM w 98 99 60 b).take k ∨ f = 0 ∧ rM w 98 99 60 a ≠ rM w 98 99 60 b) → f_X9_isSame_24 m a b f k w = some (if rM w 98 99 60 a = rM w 98 99 60 b then 1 else 0, w) := by
  have la := lnM (s := 98) ho a
  have lb := lnM (s := 98) ho b
  induction m with
  | zero => intro k f h; omega
  | succ m ih =>
    intro k f g1 g2 hf
    refine Ev.toEq ?_
    rw [f_X9_isSame_24_s]
    rw [wr_eq (a := (a : Int)) (by omega), Int.toNat_natCast]
    refine Ev.pos (by first | (simp (disch := omega) only [wr_eq] <;> omega) | omega) ?_
    by_cases e : k = (rM w 98 99 60 a).length
    · refine Ev.neg (by first | (simp (disch := omega) only [wr_eq] <;> omega) | omega) ?_
      rcases hf with ⟨rfl, hf⟩ | ⟨rfl, hf⟩
      · refine Ev.pos (Or.inr rfl) (Ev.ret ⟨?_, rfl⟩)
        rw [List.take_of_length_le (by omega), List.take_of_length_le (by omega)] at hf
        rw [if_pos hf]
      · refine Ev.pos (Or.inl rfl) (Ev.ret ⟨?_, rfl⟩)
        rw [if_neg hf]
    · refine Ev.pos (by first | (simp (disch := omega) only [wr_eq] <;> omega) | omega) ?_
      rcases hf with ⟨rfl, hf⟩ | ⟨rfl, hf⟩
      · refine Ev.neg (by decide) ?_
        rw [show wr ((60 * (a : Int)) + k) = ((a * 60 + k : Nat) : Int) from by rw [wr_eq (by omega)]; omega, show wr ((60 * (b : Int)) + k) = ((b * 60 + k : Nat) : Int) from by rw [wr_eq (by omega)]; omega, Int.toNat_natCast, Int.toNat_natCast]
        refine Ev.pos (by first | (simp (disch := omega) only [wr_eq] <;> omega) | omega) ?_; refine Ev.pos (by first | (simp (disch := omega) only [wr_eq] <;> omega) | omega) ?_
        have ga := gt_rM (s := 98) (r := a) (y := k) ho (by omega)
        have gb := gt_rM (s := 98) (r := b) (y := k) ho (by omega)
        rw [Int.toNat_natCast] at ga gb
        rw [← ga, ← gb]
        have ra := gt_in sa (y := k) (by omega)
        have rb := gt_in sb (y := k) (by omega)
        have ek : ((k : Int) + 1) = ((k + 1 : Nat) : Int) := by omega
        rw [ek]
        by_cases c : gt (rM w 98 99 60 a) k = gt (rM w 98 99 60 b) k
        · rw [c]
          refine Ev.pos rfl ?_
          refine Ev.eq (ih (k + 1) 1 (by omega) (by omega) (Or.inl ⟨rfl, ?_⟩)) ⟨rfl, rfl⟩
          rw [List.take_add_one, List.take_add_one, hf]
          unfold gt at c
          rw [if_pos (by omega), if_pos (by omega), Int.toNat_natCast, List.getD_eq_getElem?_getD, List.getD_eq_getElem?_getD, List.getElem?_eq_getElem (by omega), List.getElem?_eq_getElem (by omega)] at c
          rw [List.getElem?_eq_getElem (by omega), List.getElem?_eq_getElem (by omega)]
          congr 2
          exact congrArg some c
        · refine Ev.neg (by first | (simp (disch := omega) only [wr_eq] <;> omega) | omega) ?_
          refine Ev.eq (ih (k + 1) 0 (by omega) (by omega) (Or.inr ⟨rfl, ?_⟩)) ⟨rfl, rfl⟩
          intro h
          exact c (by rw [h])
      · refine Ev.pos rfl (Ev.pos (Or.inl rfl) (Ev.ret ⟨?_, rfl⟩))
        rw [if_neg hf]
theorem m_isSame {w : WS} (ho : RM w 99 60 50) {a b : Int} (ha : 0 ≤ a ∧ a < 50) (hb : 0 ≤ b ∧ b < 50) (sa : SO (rM w 98 99 60 a.toNat)) (sb : SO (rM w 98 99 60 b.toNat)) : f_X9_isSame a b w = some (if rM w 98 99 60 a.toNat = rM w 98 99 60 b.toNat then 1 else 0, w) := by
  obtain ⟨a, rfl⟩ : ∃ k : Nat, a = k := ⟨a.toNat, by omega⟩
  obtain ⟨b, rfl⟩ : ∃ k : Nat, b = k := ⟨b.toNat, by omega⟩
  rw [Int.toNat_natCast] at sa sb ⊢
  rw [Int.toNat_natCast]
  have la := lnM (s := 98) ho a
  have lb := lnM (s := 98) ho b
  refine Ev.toEq ?_
  unfold f_X9_isSame
  rw [wr_eq (a := (a : Int)) (by omega), wr_eq (a := (b : Int)) (by omega), Int.toNat_natCast, Int.toNat_natCast]
  refine Ev.pos (by first | (simp (disch := omega) only [wr_eq] <;> omega) | omega) ?_; refine Ev.pos (by first | (simp (disch := omega) only [wr_eq] <;> omega) | omega) ?_
  by_cases c : w 99 a = w 99 b
  · refine Ev.pos (by first | (simp (disch := omega) only [wr_eq] <;> omega) | omega) ?_
    exact Ev.eq (m_isSame_loop ho (by omega) (by omega) (by omega) sa sb FU 0 1 (by unfold FU; omega) (by omega) (Or.inl ⟨rfl, rfl⟩)) ⟨rfl, rfl⟩
  · refine Ev.neg (by first | (simp (disch := omega) only [wr_eq] <;> omega) | omega) ?_
    have hne : rM w 98 99 60 a ≠ rM w 98 99 60 b := fun h => c (by rw [← la.1, ← lb.1, h])
    rw [if_neg hne]
    refine Ev.toEq ?_ |> fun h => Ev.eq h ⟨rfl, rfl⟩
    obtain ⟨m, hm⟩ : ∃ m, FU = m + 1 := ⟨FU - 1, by unfold FU; omega⟩
    rw [hm, show (0 : Int) = ((0 : Nat) : Int) from rfl, f_X9_isSame_24_s, wr_eq (a := (a : Int)) (by omega), Int.toNat_natCast]
    refine Ev.pos (by first | (simp (disch := omega) only [wr_eq] <;> omega) | omega) ?_
    by_cases z : w 99 a = 0
    · refine Ev.neg (by first | (simp (disch := omega) only [wr_eq] <;> omega) | omega) ?_
      exact Ev.pos (Or.inl rfl) (Ev.ret ⟨rfl, rfl⟩)
    · refine Ev.pos (by first | (simp (disch := omega) only [wr_eq] <;> omega) | omega) ?_
      exact Ev.pos rfl (Ev.pos (Or.inl rfl) (Ev.ret ⟨rfl, rfl⟩))
/-- a row of the reference after a copying loop -/
theorem rM_ww {w : WS} {s z st n a c : Nat} {g : Nat → Int} {zc : Int} (hsz : s ≠ z) (ho : RM w z st n) (ha : a < n) (hc : c ≤ st) (hz : zc = c) : rM (ww (up w z a zc) s (a * st) g c) s z st = vs (rM w s z st) a ((List.range c).map g) ∧ RM (ww (up w z a zc) s (a * st) g c) z st n ∧ Fr [s, z] w (ww (up w z a zc) s (a * st) g c) := by
  have h3 : ∀ r, (ww (up w z a zc) s (a * st) g c) z r = if r = a then (((List.range c).map g).length : Int) else w z r := fun r => by
    rw [ww_c _ _ _ _ (fun e => hsz e.symm), List.length_map, List.length_range]
    by_cases e : r = a
    · rw [if_pos e, e, up_same, hz]
    · rw [if_neg e, up_slot _ _ _ _ e]
  refine ⟨rM_set ho _ (by rw [List.length_map, List.length_range]; exact hc) (fun x hx => ?_) ?_ h3, RM_set ho ha _ (by rw [List.length_map, List.length_range]; exact hc) h3, fun q hq => ?_⟩
  · rw [ww_out _ _ _ (by omega), up_row _ _ _ hsz]
  · rw [List.length_map, List.length_range]
    exact sg_ww _ _ _ _ _
  · have : q ≠ s ∧ q ≠ z := by simpa using hq
    rw [ww_c _ _ _ _ this.1, up_row _ _ _ this.2]
