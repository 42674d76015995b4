theorem ediv2 {m n k : Int} (hm : 0 ≤ m) (hn : 0 ≤ n) (hk : 0 ≤ k) : m / n / k = m / (n * k) := by
  obtain ⟨m, rfl⟩ := Int.eq_ofNat_of_zero_le hm
  obtain ⟨n, rfl⟩ := Int.eq_ofNat_of_zero_le hn
  obtain ⟨k, rfl⟩ := Int.eq_ofNat_of_zero_le hk
  have := Nat.div_div_eq_div_mul m n k
  exact congrArg Int.ofNat this
theorem dg_div {m : Int} (hm : 0 ≤ m) (e : Nat) : dg (m / 10) e = dg m (e + 1) := by
  unfold dg
  show m / 10 / p10 e % 10 = m / (10 * p10 e) % 10
  rw [ediv2 hm (by omega) (by have := p10_pos e; omega)]
theorem dg_zero (m : Int) : dg m 0 = m % 10 := by
  unfold dg
  show m / 1 % 10 = _
  rw [Int.ediv_one]
theorem pad_get (D : Nat) (m : Int) : ∀ j, j < D → (pad D m)[j]? = some (48 + dg m (D - 1 - j)) := by
  induction D with
  | zero => intro j h; omega
  | succ D ih =>
    intro j h
    cases j with
    | zero => rfl
    | succ j =>
      show (pad D m)[j]? = _
      have e : D + 1 - 1 - (j + 1) = D - 1 - j := by omega
      rw [ih j (by omega), e]
theorem dg_small {m : Int} {e : Nat} (h : 0 ≤ m) (h2 : m < p10 e) : dg m e = 0 := by
  unfold dg
  rw [Int.ediv_eq_zero_of_lt h h2]
  rfl
theorem dec_big {m : Int} {D : Nat} (h : 0 ≤ m) (h2 : m < p10 D) (hD : 1 ≤ D) : ∀ e, D ≤ e → dec e m = dec D m := by
  intro e
  induction e with
  | zero => intro g; omega
  | succ e ih =>
    intro g
    by_cases q : D = e + 1
    · rw [q]
    · show (if 0 < dg m e ∨ e = 0 then (48 + dg m e) :: pad e m else dec e m) = _
      have h3 : p10 D ≤ p10 e := p10_le (by omega)
      rw [dg_small h (by omega), if_neg (by omega)]
      exact ih (by omega)
theorem dec_pad {m : Int} {D : Nat} (h : 0 ≤ m) (h2 : m < p10 D) (hD : 1 ≤ D) (h3 : D = 1 ∨ p10 (D - 1) ≤ m) : dec D m = pad D m := by
  cases D with
  | zero => omega
  | succ D =>
    show (if 0 < dg m D ∨ D = 0 then (48 + dg m D) :: pad D m else dec D m) = (48 + dg m D) :: pad D m
    rw [if_pos]
    rcases h3 with h3 | h3
    · exact Or.inr (by omega)
    · left
      have e : D + 1 - 1 = D := rfl
      rw [e] at h3
      have h4 := p10_pos D
      have h5 : m < 10 * p10 D := h2
      have g1 : 1 ≤ m / p10 D := by
        have := Int.ediv_le_ediv (by omega : 0 < p10 D) h3
        rw [Int.ediv_self (by omega)] at this
        exact this
      have g2 : m / p10 D < 10 := Int.ediv_lt_of_lt_mul (by omega) (by omega)
      unfold dg
      omega
/-- the digits' loop of the reference -/
theorem m_put_loop {t : Nat} (ht : t < 50) {D n : Nat} (hn : n + D ≤ 60) (m : Nat) : ∀ (q : Nat) (cur : Int) (w : WS), q < m → q ≤ D → 0 ≤ cur → cur < 10000000000 → Ev (f_X9_putNumber_84 m t cur D n ((q : Int) - 1) w) (fun v w' => v = 0 ∧ Fr [98, 99] w w' ∧ (∀ r, w' 99 r = if r = t then ((n + D : Nat) : Int) else w 99 r) ∧ (∀ x, x < t * 60 + n ∨ t * 60 + n + q ≤ x → w' 98 x = w 98 x) ∧ ∀ j, j < q → w' 98 (t * 60 + n + j) = 48 + dg cur (q - 1 - j)) := by
  induction m with
  | zero => intro q cur w h; omega
  | succ m ih =>
    intro q cur w h1 h2 h3 h4
    rw [f_X9_putNumber_84_s]
    have e1 : wr (t : Int) = t := wr_eq (by omega)
    rw [e1, Int.toNat_natCast]
    cases q with
    | zero =>
      refine Ev.pos (by first | omega | (simp (disch := omega) only [wr_eq] <;> omega)) ?_; refine Ev.pos (by first | omega | (simp (disch := omega) only [wr_eq] <;> omega)) ?_
      refine Ev.ret ⟨rfl, Fr.rf.up (by simp), fun r => ?_, fun x _ => by rw [up_row _ _ _ (by omega)], fun j hj => by omega⟩
      by_cases e : r = t
      · rw [if_pos e, e, up_same]
        omega
      · rw [if_neg e, up_slot _ _ _ _ e]
    | succ q =>
      have e : ((q + 1 : Nat) : Int) - 1 = q := by omega
      rw [e]
      refine Ev.neg (by first | omega | (simp (disch := omega) only [wr_eq] <;> omega)) ?_; refine Ev.pos (by first | omega | (simp (disch := omega) only [wr_eq, wl_eq] <;> omega)) ?_
      have ei : wr (((60 * (t : Int)) + n) + q) = ((t * 60 + n + q : Nat) : Int) := by rw [wr_eq (by omega)]; omega
      rw [ei, Int.toNat_natCast]
      refine Ev.pos (by first | omega | (simp (disch := omega) only [wr_eq] <;> omega)) ?_; refine Ev.pos (by first | omega | (simp (disch := omega) only [wr_eq, wl_eq] <;> omega)) ?_
      rw [wl_eq (a := cur) (by omega), wl_eq (a := 10) (by omega), Int.tdiv_eq_ediv_of_nonneg h3, Int.tmod_eq_emod_of_nonneg h3]
      have e2 : (q : Int) + (-1) = (q : Int) - 1 := rfl
      rw [e2]
      refine Ev.mono (ih q (cur / 10) (up w 98 (t * 60 + n + q) (48 + cur % 10)) (by omega) (by omega) (by omega) (by omega)) ?_
      rintro v w2 ⟨rfl, q1, q2, q3, q4⟩
      refine ⟨rfl, (Fr.rf.up (by simp)).tr q1, fun r => ?_, fun x hx => ?_, fun j hj => ?_⟩
      · rw [q2 r, up_row _ _ _ (by omega)]
      · rw [q3 x (by omega), up_slot _ _ _ _ (by omega)]
      · by_cases g : j = q
        · subst g
          rw [q3 _ (by omega), up_same]
          have : j + 1 - 1 - j = 0 := by omega
          rw [this, dg_zero]
        · have e : q + 1 - 1 - j = q - 1 - j + 1 := by omega
          rw [q4 j (by omega), dg_div h3, e]
/-- what the working out of term k leaves, in the reference -/
def P2 (w : WS) (k : Nat) (q : Int × List Int) (v : Int) (w' : WS) : Prop := v = q.1 ∧ Fr [98, 99] w w' ∧ RM w' 99 60 50 ∧ (q.1 = 0 → rM w' 98 99 60 k = q.2) ∧ ∀ r, r ≠ k → rM w' 98 99 60 r = rM w 98 99 60 r
theorem P2.none {w : WS} {k : Nat} {v : Int} (h : RM w 99 60 50) (hv : v ≠ 0) : P2 w k (v, []) v w := ⟨rfl, Fr.rf, h, fun e => absurd e hv, fun _ _ => rfl⟩
theorem P2.nil {w : WS} {k : Nat} {v : Int} (h : RM w 99 60 50) (hk : rM w 98 99 60 k = []) : P2 w k (v, []) v w := ⟨rfl, Fr.rf, h, fun _ => hk, fun _ _ => rfl⟩
theorem P2.vs {w w' : WS} {k : Nat} {L : List Int} (h1 : Fr [98, 99] w w') (h2 : RM w' 99 60 50) (h3 : rM w' 98 99 60 = vs (rM w 98 99 60) k L) : P2 w k (0, L) 0 w' := ⟨rfl, h1, h2, fun _ => by rw [h3, vs_same], fun r hr => by rw [h3, vs_ne _ _ hr]⟩
theorem m_putNumber {w : WS} (ho : RM w 99 60 50) {k : Nat} (hk : k < 50) {x : Int} (hx : -1000000000000000000 ≤ x ∧ x ≤ 1000000000000000000) : Ev (f_X9_putNumber k x w) (P2 w k (if 999999999 < x ∨ x < -999999999 then (1, []) else (0, decS x))) := by
  have key : ∀ s : Int, 0 ≤ s → (s = x ∨ s = -x) → Ev (f_X9_putNumber_12 k x s w) (P2 w k (if 999999999 < x ∨ x < -999999999 then (1, []) else (0, decS x))) → True := fun _ _ _ _ => trivial
  have body : ∀ s : Int, (x < 0 ∧ s = -x ∨ 0 ≤ x ∧ s = x) → Ev (f_X9_putNumber_12 k x s w) (P2 w k (if 999999999 < x ∨ x < -999999999 then (1, []) else (0, decS x))) := by
    intro s hs
    unfold f_X9_putNumber_12
    by_cases c : 999999999 < s
    · refine Ev.pos (by first | omega | (simp (disch := omega) only [wr_eq, wl_eq] <;> omega)) ?_
      have hq : 999999999 < x ∨ x < -999999999 := by omega
      rw [if_pos hq]
      exact Ev.ret (P2.none ho (by omega))
    · refine Ev.neg (by first | omega | (simp (disch := omega) only [wr_eq, wl_eq] <;> omega)) ?_
      have hq : ¬ (999999999 < x ∨ x < -999999999) := by omega
      rw [if_neg hq]
      have fill : ∀ (D n : Nat) (w0 : WS) (L0 : List Int), 1 ≤ D → D ≤ 9 → n = L0.length → n ≤ 1 → s < p10 D → (D = 1 ∨ p10 (D - 1) ≤ s) → Fr [98, 99] w w0 → w0 99 = w 99 → (∀ y, y < k * 60 ∨ k * 60 + 60 ≤ y → w0 98 y = w 98 y) → sg (w0 98) (k * 60) n = L0 → decS x = L0 ++ dec 9 s → Ev (f_X9_putNumber_84 FU k s D n ((D : Int) - 1) w0) (P2 w k (0, decS x)) := by
        intro D n w0 L0 d1 d2 d3 d4 d5 d6 F0 z0 o0 l0 eq0
        refine Ev.mono (m_put_loop hk (D := D) (n := n) (by omega) FU D s w0 (by unfold FU; omega) (Nat.le_refl _) (by omega) (by omega)) ?_
        rintro v w2 ⟨rfl, q1, q2, q3, q4⟩
        have ed : dec 9 s = pad D s := by rw [dec_big (by omega) d5 d1 9 d2, dec_pad (by omega) d5 d1 d6]
        have eL : (decS x).length = n + D := by rw [eq0, ed, List.length_append, pad_len, d3]
        have h3 : ∀ r, w2 99 r = if r = k then ((decS x).length : Int) else w 99 r := fun r => by rw [q2, eL, z0]
        refine P2.vs (F0.tr q1) (RM_set ho hk _ (by omega) h3) (rM_set ho (decS x) (by omega) (fun y hy => ?_) ?_ h3)
        · rw [q3 y (by omega), o0 y hy]
        · rw [eL, sg_add, eq0, ed]
          congr 1
          · rw [← l0]
            exact sg_congr (fun j hj => q3 _ (by omega))
          · refine List.ext_getElem? (fun j => ?_)
            by_cases hj : j < D
            · rw [sg_get _ _ hj, pad_get _ _ _ hj, q4 j hj]
            · rw [List.getElem?_eq_none (by rw [sg_len]; omega), List.getElem?_eq_none (by rw [pad_len]; omega)]
      have cnt : ∀ (m D : Nat) (cur : Int), 10 ≤ m + D → 1 ≤ D → D ≤ 9 → cur = s / p10 (D - 1) → (D = 1 ∨ p10 (D - 1) ≤ s) → Ev (f_X9_putNumber_32 m k x s D cur w) (P2 w k (0, decS x)) := by
        intro m
        induction m with
        | zero => intro D cur h1 h2 h3; omega
        | succ m ih =>
          intro D cur h1 h2 h3 h4 h5
          rw [f_X9_putNumber_32_s]
          have hp := p10_pos (D - 1)
          have hc0 : 0 ≤ cur := by rw [h4]; exact Int.ediv_nonneg (by omega) (by omega)
          have hc1 : cur ≤ s := by rw [h4]; exact Int.ediv_le_self _ (by omega)
          by_cases g : 9 < cur
          · refine Ev.pos (by first | omega | (simp (disch := omega) only [wr_eq, wl_eq] <;> omega)) ?_; refine Ev.pos (by first | omega | (simp (disch := omega) only [wr_eq, wl_eq] <;> omega)) ?_
            rw [wl_eq (by omega), wl_eq (by omega), Int.tdiv_eq_ediv_of_nonneg hc0]
            have ek : ((D : Int) + 1) = ((D + 1 : Nat) : Int) := by omega
            rw [ek]
            have eD : p10 (D + 1 - 1) = p10 (D - 1) * 10 := by
              obtain ⟨d, rfl⟩ : ∃ d, D = d + 1 := ⟨D - 1, by omega⟩
              show 10 * p10 d = p10 d * 10
              omega
            have hge : p10 (D + 1 - 1) ≤ s := by
              have h7 : cur * p10 (D - 1) ≤ s := by rw [h4]; exact Int.ediv_mul_le s (by omega)
              have h8 : 10 * p10 (D - 1) ≤ cur * p10 (D - 1) := Int.mul_le_mul_of_nonneg_right (by omega) (by omega)
              omega
            have hD9 : D + 1 ≤ 9 := by
              by_cases q : D + 1 ≤ 9
              · exact q
              · have : D = 9 := by omega
                subst this
                have h9 : p10 (9 + 1 - 1) = 1000000000 := rfl
                omega
            refine ih (D + 1) (cur / 10) (by omega) (by omega) hD9 ?_ (Or.inr hge)
            rw [eD, h4, ediv2 (by omega) (by omega) (by omega)]
          · refine Ev.neg (by first | omega | (simp (disch := omega) only [wr_eq, wl_eq] <;> omega)) ?_
            have hlt : s < p10 D := by
              obtain ⟨d, rfl⟩ : ∃ d, D = d + 1 := ⟨D - 1, by omega⟩
              show s < 10 * p10 d
              have e0 : d + 1 - 1 = d := rfl
              rw [e0] at h4 hp
              have h9 : s < (cur + 1) * p10 d := by rw [h4]; exact Int.lt_ediv_add_one_mul_self s (by omega)
              have h8 : (cur + 1) * p10 d ≤ 10 * p10 d := Int.mul_le_mul_of_nonneg_right (by omega) (by omega)
              omega
            have e2 : wr (60 * (k : Int)) = ((k * 60 : Nat) : Int) := by rw [wr_eq (by omega)]; omega
            rcases hs with ⟨hx0, hs⟩ | ⟨hx0, hs⟩
            · refine Ev.pos (by first | omega | (simp (disch := omega) only [wr_eq, wl_eq] <;> omega)) ?_
              rw [e2, Int.toNat_natCast]
              refine Ev.pos (by first | omega | (simp (disch := omega) only [wr_eq] <;> omega)) ?_
              refine fill D 1 _ [45] h2 h3 rfl (by omega) hlt h5 (Fr.rf.up (by simp)) (by rw [up_row _ _ _ (by omega)]) (fun y hy => by rw [up_slot _ _ _ _ (by omega)]) ?_ ?_
              · show [up w 98 (k * 60) 45 98 (k * 60 + 0)] = [45]
                rw [Nat.add_zero, up_same]
              · unfold decS
                rw [if_pos hx0, hs]
                rfl
            · refine Ev.neg (by first | omega | (simp (disch := omega) only [wr_eq, wl_eq] <;> omega)) ?_
              refine fill D 0 w [] h2 h3 rfl (by omega) hlt h5 Fr.rf rfl (fun y hy => rfl) rfl ?_
              unfold decS
              rw [if_neg (by omega), hs]
              rfl
      exact cnt FU 1 s (by unfold FU; omega) (by omega) (by omega) (by show s = s / 1; rw [Int.ediv_one]) (Or.inl rfl)
  unfold f_X9_putNumber
  by_cases c : x < 0
  · refine Ev.pos (by first | omega | (simp (disch := omega) only [wr_eq, wl_eq] <;> omega)) ?_
    exact body (-x) (Or.inl ⟨c, rfl⟩)
  · refine Ev.neg (by first | omega | (simp (disch := omega) only [wr_eq, wl_eq] <;> omega)) ?_
    exact body x (Or.inr ⟨by omega, rfl⟩)
