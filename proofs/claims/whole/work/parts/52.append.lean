theorem app_loop {i j : Nat} (m : Nat) : ∀ (k c t s : Nat) (a : Int) (w : WS), c - k < m → k ≤ c → 0 ≤ a → a < alen (i + 2) → alen (i + 2) ≤ 100 → t + c ≤ alen (i + 1) → alen (i + 1) ≤ 3000 → s + c ≤ alen (j + 1) → alen (j + 1) ≤ 3000 → i + 2 ≠ j + 1 → (i + 1 ≠ j + 1 ∨ t + c ≤ s ∨ s + c ≤ t) →
    Ev (f_X6_append_72 i j m a c t s k w) (fun v w' => v = 1 ∧ Fr [i + 1, i + 2] w w' ∧ (∀ x, x < t + k ∨ t + c ≤ x → w' (i + 1) x = w (i + 1) x) ∧ (∀ q, k ≤ q → q < c → w' (i + 1) (t + q) = w (j + 1) (s + q)) ∧ (∀ r, w' (i + 2) r = if r = a.toNat then w (i + 2) r + c else w (i + 2) r)) := by
  induction m with
  | zero => intro k c t s a w h; omega
  | succ m ih =>
    intro k c t s a w h1 h2 h3 h4 h5 h6 h7 h8 h9 h10 h11
    rw [f_X6_append_72_s]
    by_cases e : k = c
    · subst e
      refine Ev.neg (by first | omega | (simp (disch := omega) only [wr_eq] <;> omega)) ?_; refine Ev.pos (by first | omega | (simp (disch := omega) only [wr_eq] <;> omega)) ?_; refine Ev.pos (by first | omega | (simp (disch := omega) only [wr_eq] <;> omega)) ?_
      refine Ev.ret ⟨rfl, Fr.rf.up (by simp), fun x _ => by rw [up_row w _ _ (by omega : i + 1 ≠ i + 2)], fun q q1 q2 => by omega, fun r => ?_⟩
      rw [wr_eq (by omega)]
      by_cases g : r = a.toNat
      · rw [if_pos g, g, up_same]
      · rw [if_neg g, up_slot _ _ _ _ g]
    · refine Ev.pos (by first | omega | (simp (disch := omega) only [wr_eq] <;> omega)) ?_; refine Ev.neg (by first | omega | (simp (disch := omega) only [wr_eq] <;> omega)) ?_; refine Ev.pos (by first | omega | (simp (disch := omega) only [wr_eq] <;> omega)) ?_; refine Ev.neg (by first | omega | (simp (disch := omega) only [wr_eq] <;> omega)) ?_; refine Ev.pos (by first | omega | (simp (disch := omega) only [wr_eq] <;> omega)) ?_; refine Ev.pos (by first | omega | (simp (disch := omega) only [wr_eq] <;> omega)) ?_; refine Ev.pos (by first | omega | (simp (disch := omega) only [wr_eq] <;> omega)) ?_
      rw [wr_eq (by omega), wr_eq (by omega)]
      have ek : ((k : Int) + 1) = ((k + 1 : Nat) : Int) := by omega
      have e1 : ((t : Int) + (k : Int)).toNat = t + k := by omega
      have e2 : ((s : Int) + (k : Int)).toNat = s + k := by omega
      rw [ek, e1, e2]
      refine Ev.mono (ih (k + 1) c t s a _ (by omega) (by omega) h3 h4 h5 h6 h7 h8 h9 h10 h11) ?_
      rintro v w' ⟨rfl, g1, g2, g3, g4⟩
      refine ⟨rfl, (Fr.rf.up (by simp)).tr g1, fun x hx => ?_, fun q q1 q2 => ?_, fun r => ?_⟩
      · rw [g2 x (by omega), up_slot _ _ _ _ (by omega)]
      · by_cases g : q = k
        · subst g
          rw [g2 _ (by omega), up_same]
        · rw [g3 q (by omega) q2]
          rcases h11 with h | h | h
          · rw [up_row w _ _ (fun e => h e.symm)]
          · by_cases g0 : j + 1 = i + 1
            · rw [g0, up_slot _ _ _ _ (by omega)]
            · rw [up_row w _ _ g0]
          · by_cases g0 : j + 1 = i + 1
            · rw [g0, up_slot _ _ _ _ (by omega)]
            · rw [up_row w _ _ g0]
      · rw [g4 r, up_row w _ _ (by omega : i + 2 ≠ i + 1)]
theorem rC_app {w w' : WS} {i wd n : Nat} (ho : RO w i wd n) {a c : Nat} (hc : w (i + 2) a + (c : Int) ≤ wd) {g : Nat → Int} (h1 : ∀ x, x < a * wd + (w (i + 2) a).toNat + 0 ∨ a * wd + (w (i + 2) a).toNat + c ≤ x → w' (i + 1) x = w (i + 1) x) (h2 : ∀ q, q < c → w' (i + 1) (a * wd + (w (i + 2) a).toNat + q) = g q) (h3 : ∀ r, w' (i + 2) r = if r = a then w (i + 2) r + c else w (i + 2) r) : rC w' i wd = vs (rC w i wd) a (rC w i wd a ++ (List.range c).map g) := by
  funext r
  have hr := (ho r).1
  have ha := (ho a).1
  unfold rC vs
  by_cases e : r = a
  · subst e
    rw [if_pos rfl, h3, if_pos rfl]
    have e1 : (w (i + 2) r + (c : Int)).toNat = (w (i + 2) r).toNat + c := by omega
    rw [e1, sg_add]
    congr 1
    · exact sg_congr (fun k hk => h1 _ (by omega))
    · unfold sg
      exact List.map_congr_left (fun k hk => h2 k (List.mem_range.mp hk))
  · rw [if_neg e, h3, if_neg e]
    refine sg_congr (fun k hk => h1 _ ?_)
    rcases Nat.lt_or_gt_of_ne e with g | g
    · have : (r + 1) * wd ≤ a * wd := Nat.mul_le_mul_right wd g
      rw [Nat.add_mul, Nat.one_mul] at this
      omega
    · have : (a + 1) * wd ≤ r * wd := Nat.mul_le_mul_right wd g
      rw [Nat.add_mul, Nat.one_mul] at this
      omega
theorem RO_app {w w' : WS} {i wd n : Nat} (ho : RO w i wd n) {a c : Nat} (ha : a < n) (hc : w (i + 2) a + (c : Int) ≤ wd) (h3 : ∀ r, w' (i + 2) r = if r = a then w (i + 2) r + c else w (i + 2) r) : RO w' i wd n := fun r => by
  have hr := ho r
  rw [h3]
  by_cases e : r = a
  · subst e
    rw [if_pos rfl]
    omega
  · rw [if_neg e]
    exact hr
theorem RI_len {i wd n : Nat} (hi : RI i wd n) : n * wd ≤ 3000 := by
  obtain ⟨-, -, -, h4, -, h6, -⟩ := hi
  rcases h4 with rfl | rfl <;> omega
theorem row_in {wd n a : Nat} (h : a < n) : a * wd + wd ≤ n * wd := by
  calc a * wd + wd = (a + 1) * wd := by rw [Nat.add_mul, Nat.one_mul]
    _ ≤ n * wd := Nat.mul_le_mul_right wd h
theorem f_append_no {i wd n : Nat} (hi : RI i wd n) {w : WS} (ho : RO w i wd n) {a b f e : Int} (j : Nat) (ha : 0 ≤ a ∧ a < n) (hf : 0 ≤ f ∧ f ≤ e ∧ e ≤ 60) (hc : (wd : Int) < w (i + 2) a.toNat + (e - f)) : f_X6_append i a j b f e w = some (0, w) := by
  obtain ⟨h1, h2, h3, h4, h5, h6, -⟩ := hi
  refine Ev.toEq ?_
  unfold f_X6_append
  have hs := (ho a.toNat).1
  rw [h1, h3]
  have e1 : wr a = a := wr_eq (by omega)
  rw [e1]
  refine Ev.neg (by first | omega | (simp (disch := omega) only [wr_eq] <;> omega)) ?_; refine Ev.pos (by first | omega | (simp (disch := omega) only [wr_eq] <;> omega)) ?_; refine Ev.neg (by first | omega | (simp (disch := omega) only [wr_eq] <;> omega)) ?_; refine Ev.pos (by first | omega | (simp (disch := omega) only [wr_eq] <;> omega)) ?_; refine Ev.pos (by first | omega | (simp (disch := omega) only [wr_eq] <;> omega)) ?_
  exact Ev.ret ⟨rfl, rfl⟩
theorem f_append_yes {i wd n : Nat} (hi : RI i wd n) {w : WS} (ho : RO w i wd n) {j wj nj : Nat} (hj : RI j wj nj) (hoj : RO w j wj nj) {a b f e : Int} (ha : 0 ≤ a ∧ a < n) (hb : 0 ≤ b ∧ b < nj) (hf : 0 ≤ f ∧ f ≤ e ∧ e ≤ w (j + 2) b.toNat) (hne : i ≠ j ∨ a ≠ b) (hc : w (i + 2) a.toNat + (e - f) ≤ wd) : Ev (f_X6_append i a j b f e w) (fun v w' => v = 1 ∧ Fr [i + 1, i + 2] w w' ∧ RO w' i wd n ∧ rC w' i wd = vs (rC w i wd) a.toNat (rC w i wd a.toNat ++ ((rC w j wj b.toNat).drop f.toNat).take (e - f).toNat)) := by
  have hl := RI_len hi
  have hlj := RI_len hj
  have hr := row_in (wd := wd) (n := n) (a := a.toNat) (by omega)
  have hrj := row_in (wd := wj) (n := nj) (a := b.toNat) (by omega)
  have hs := (ho a.toNat).1
  have hsj := (hoj b.toNat).1
  have hi0 := hi
  have hj0 := hj
  obtain ⟨h1, h2, h3, h4, h5, h6, h7⟩ := hi
  obtain ⟨k1, k2, k3, k4, k5, k6, k7⟩ := hj
  unfold f_X6_append
  have e1 : wr a = a := wr_eq (by omega)
  rw [h1, h3, k1, e1]
  refine Ev.neg (by first | omega | (simp (disch := omega) only [wr_eq] <;> omega)) ?_; refine Ev.pos (by first | omega | (simp (disch := omega) only [wr_eq] <;> omega)) ?_; refine Ev.neg (by first | omega | (simp (disch := omega) only [wr_eq] <;> omega)) ?_; refine Ev.pos (by first | omega | (simp (disch := omega) only [wr_eq] <;> omega)) ?_; refine Ev.neg (by first | omega | (simp (disch := omega) only [wr_eq] <;> omega)) ?_; refine Ev.pos (by first | omega | (simp (disch := omega) only [wr_eq] <;> omega)) ?_
  have m1 : a * (wd : Int) + w (i + 2) a.toNat = ((a.toNat * wd + (w (i + 2) a.toNat).toNat : Nat) : Int) := by
    rw [Int.natCast_add, Int.natCast_mul, Int.toNat_of_nonneg ha.1, Int.toNat_of_nonneg hs.1]
  have m2 : b * (wj : Int) + f = ((b.toNat * wj + f.toNat : Nat) : Int) := by
    rw [Int.natCast_add, Int.natCast_mul, Int.toNat_of_nonneg hb.1, Int.toNat_of_nonneg hf.1]
  have m3 : e - f = ((e - f).toNat : Int) := by omega
  have m4 : (0 : Int) = ((0 : Nat) : Int) := rfl
  rw [m1, m2, m3, m4]
  have hd : i = j → a.toNat * wd + wd ≤ b.toNat * wj ∨ b.toNat * wj + wj ≤ a.toNat * wd := by
    intro hij
    subst hij
    have : wd = wj := by omega
    subst this
    have hab : a.toNat ≠ b.toNat := by omega
    rcases Nat.lt_or_gt_of_ne hab with g | g
    · exact Or.inl (row_in (wd := wd) g)
    · exact Or.inr (row_in (wd := wd) g)
  refine Ev.mono (app_loop FU 0 (e - f).toNat (a.toNat * wd + (w (i + 2) a.toNat).toNat) (b.toNat * wj + f.toNat) a w (by unfold FU; omega) (by omega) ha.1 (by omega) (by omega) (by omega) (by omega) (by omega) (by omega) (by omega) ?_) ?_
  · by_cases hij : i = j
    · have := hd hij
      omega
    · exact Or.inl (by omega)
  · rintro v w' ⟨rfl, g1, g2, g3, g4⟩
    refine ⟨rfl, g1, RO_app ho (by omega) (by omega) g4, ?_⟩
    rw [rC_app ho (c := (e - f).toNat) (by omega) g2 (fun q hq => g3 q (by omega) hq) g4]
    congr 2
    show sg (w (j + 1)) _ _ = _
    rw [rC, sg_drop _ _ (by omega), sg_take _ _ (by omega), Int.toNat_natCast]
theorem f_copy {i wd n : Nat} (hi : RI i wd n) {w : WS} (ho : RO w i wd n) {j wj nj : Nat} (hj : RI j wj nj) (hoj : RO w j wj nj) {a b : Int} (ha : 0 ≤ a ∧ a < n) (hb : 0 ≤ b ∧ b < nj) (hne : i ≠ j) (hc : w (j + 2) b.toNat ≤ wd) : Ev (f_X6_copy i a j b w) (fun v w' => v = 0 ∧ Fr [i + 1, i + 2] w w' ∧ RO w' i wd n ∧ rC w' i wd = vs (rC w i wd) a.toNat (rC w j wj b.toNat)) := by
  unfold f_X6_copy
  have k7 := hj.2.2.2.2.2.2
  have h7 := hi.2.2.2.2.2.2
  refine Ev.obe (f_clear hi ha) ?_
  have ho1 := RO_clear a.toNat ho
  have f1 : (up w (i + 2) a.toNat 0) (j + 2) = w (j + 2) := up_row _ _ _ (by omega)
  have f2 : (up w (i + 2) a.toNat 0) (j + 1) = w (j + 1) := up_row _ _ _ (by omega)
  have hoj1 : RO (up w (i + 2) a.toNat 0) j wj nj := RO_fr f1 hoj
  have hsj := (hoj b.toNat).1
  refine Ev.obe (f_length hj hb) ?_
  rw [f1]
  refine Ev.bd (f_append_yes hi ho1 hj hoj1 ha hb ⟨Int.le_refl 0, hsj.1, by rw [f1]; exact Int.le_refl _⟩ (Or.inl hne) (by rw [up_same]; omega)) ?_
  rintro v w' ⟨-, g1, g2, g3⟩
  refine Ev.ret ⟨rfl, (Fr.rf.up (by simp)).tr g1, g2, ?_⟩
  rw [g3, rC_fr f2 f1, rC_clear, vs_same, vs_vs, List.nil_append]
  congr 1
  rw [Int.toNat_zero, List.drop_zero, List.take_of_length_le]
  rw [rC, sg_len]
  omega
theorem f_appendAll_no {i wd n : Nat} (hi : RI i wd n) {w : WS} (ho : RO w i wd n) {j wj nj : Nat} (hj : RI j wj nj) (hoj : RO w j wj nj) {a b : Int} (ha : 0 ≤ a ∧ a < n) (hb : 0 ≤ b ∧ b < nj) (hc : (wd : Int) < w (i + 2) a.toNat + w (j + 2) b.toNat) : f_X6_appendAll i a j b w = some (0, w) := by
  unfold f_X6_appendAll
  have h4 := hj.2.2.2.1
  have hs := (hoj b.toNat).1
  rw [f_length hj hb, ob_some, f_append_no hi ho j ha (by omega) (by omega), ob_some, if_pos (Or.inl rfl)]
theorem f_appendAll_yes {i wd n : Nat} (hi : RI i wd n) {w : WS} (ho : RO w i wd n) {j wj nj : Nat} (hj : RI j wj nj) (hoj : RO w j wj nj) {a b : Int} (ha : 0 ≤ a ∧ a < n) (hb : 0 ≤ b ∧ b < nj) (hne : i ≠ j ∨ a ≠ b) (hc : w (i + 2) a.toNat + w (j + 2) b.toNat ≤ wd) : Ev (f_X6_appendAll i a j b w) (fun v w' => v = 1 ∧ Fr [i + 1, i + 2] w w' ∧ RO w' i wd n ∧ rC w' i wd = vs (rC w i wd) a.toNat (rC w i wd a.toNat ++ rC w j wj b.toNat)) := by
  unfold f_X6_appendAll
  have h4 := hj.2.2.2.1
  have hs := (hoj b.toNat).1
  refine Ev.obe (f_length hj hb) ?_
  refine Ev.bd (f_append_yes hi ho hj hoj ha hb (by omega) hne (by omega)) ?_
  rintro v w' ⟨rfl, g1, g2, g3⟩
  refine Ev.pos (Or.inr rfl) (Ev.ret ⟨rfl, g1, g2, ?_⟩)
  rw [g3]
  congr 2
  rw [Int.toNat_zero, List.drop_zero, List.take_of_length_le]
  rw [rC, sg_len]
  omega
theorem f_add {i wd n : Nat} (hi : RI i wd n) {w : WS} (ho : RO w i wd n) {a s : Int} (ha : 0 ≤ a ∧ a < n) (hc : w (i + 2) a.toNat < wd) : Ev (f_X6_add i a s w) (fun v w' => v = 0 ∧ Fr [i + 1, i + 2] w w' ∧ RO w' i wd n ∧ rC w' i wd = vs (rC w i wd) a.toNat (rC w i wd a.toNat ++ [s])) := by
  have hl := RI_len hi
  have hr := row_in (wd := wd) (n := n) (a := a.toNat) (by omega)
  have hs := (ho a.toNat).1
  obtain ⟨h1, h2, h3, h4, h5, h6, h7⟩ := hi
  unfold f_X6_add
  have e1 : wr a = a := wr_eq (by omega)
  rw [h1, h2, h3, e1]
  have m1 : a * (wd : Int) + w (i + 2) a.toNat = ((a.toNat * wd + (w (i + 2) a.toNat).toNat : Nat) : Int) := by
    rw [Int.natCast_add, Int.natCast_mul, Int.toNat_of_nonneg ha.1, Int.toNat_of_nonneg hs.1]
  rw [m1]
  refine Ev.neg (by first | omega | (simp (disch := omega) only [wr_eq] <;> omega)) ?_; refine Ev.pos (by first | omega | (simp (disch := omega) only [wr_eq] <;> omega)) ?_; refine Ev.pos (by first | omega | (simp (disch := omega) only [wr_eq] <;> omega)) ?_; refine Ev.pos (by first | omega | (simp (disch := omega) only [wr_eq] <;> omega)) ?_; refine Ev.pos (by first | omega | (simp (disch := omega) only [wr_eq] <;> omega)) ?_; refine Ev.neg (by first | omega | (simp (disch := omega) only [wr_eq] <;> omega)) ?_; refine Ev.pos (by first | omega | (simp (disch := omega) only [wr_eq] <;> omega)) ?_; refine Ev.pos (by first | omega | (simp (disch := omega) only [wr_eq] <;> omega)) ?_; refine Ev.pos (by first | omega | (simp (disch := omega) only [wr_eq] <;> omega)) ?_; refine Ev.pos (by first | omega | (simp (disch := omega) only [wr_eq] <;> omega)) ?_
  rw [wr_eq (by omega), Int.toNat_natCast]
  have g4 : ∀ r, (up (up w (i + 1) (a.toNat * wd + (w (i + 2) a.toNat).toNat) s) (i + 2) a.toNat ((up w (i + 1) (a.toNat * wd + (w (i + 2) a.toNat).toNat) s) (i + 2) a.toNat + 1)) (i + 2) r = if r = a.toNat then w (i + 2) r + (1 : Nat) else w (i + 2) r := fun r => by
    by_cases e : r = a.toNat
    · rw [if_pos e, e, up_same, up_row w _ _ (by omega : i + 2 ≠ i + 1)]
      rfl
    · rw [if_neg e, up_slot _ _ _ _ e, up_row w _ _ (by omega : i + 2 ≠ i + 1)]
  refine Ev.ret ⟨rfl, (Fr.rf.up (by simp)).up (by simp), RO_app ho (by omega) (by omega) g4, ?_⟩
  refine rC_app ho (c := 1) (g := fun _ => s) (by omega) (fun x hx => ?_) (fun q hq => ?_) g4
  · rw [up_row _ _ _ (by omega : i + 1 ≠ i + 2), up_slot _ _ _ _ (by omega)]
  · have : q = 0 := by omega
    subst this
    rw [up_row _ _ _ (by omega : i + 1 ≠ i + 2)]
    exact up_same _ _ _ _
theorem copyAll_loop {i wd n j : Nat} (hi : RI i wd n) (hj : RI j wd n) (hne : i ≠ j) (m : Nat) : ∀ (k : Nat) (w : WS), n - k < m → k ≤ n → RO w i wd n → RO w j wd n → Ev (f_X6_copyAll_2 i j m k w) (fun v w' => v = 0 ∧ Fr [i + 1, i + 2] w w' ∧ RO w' i wd n ∧ ∀ r, rC w' i wd r = if k ≤ r ∧ r < n then rC w j wd r else rC w i wd r) := by
  induction m with
  | zero => intro k w h; omega
  | succ m ih =>
    intro k w h1 h2 ho hoj
    have h7 := hi.2.2.2.2.2.2
    have k7 := hj.2.2.2.2.2.2
    have h3 := hi.2.2.1
    have h6 := hi.2.2.2.2.2.1
    rw [f_X6_copyAll_2_s, h3]
    by_cases e : k = n
    · subst e
      refine Ev.neg (by first | omega | (simp (disch := omega) only [wr_eq] <;> omega)) ?_
      exact Ev.ret ⟨rfl, Fr.rf, ho, fun r => by rw [if_neg (by omega)]⟩
    · refine Ev.pos (by first | omega | (simp (disch := omega) only [wr_eq] <;> omega)) ?_
      refine Ev.bd (f_copy hi ho hj hoj (a := k) (b := k) (by omega) (by omega) hne (by have := (hoj k).1; rw [Int.toNat_natCast]; omega)) ?_
      rintro v w1 ⟨-, g1, g2, g3⟩
      have ek : ((k : Int) + 1) = ((k + 1 : Nat) : Int) := by omega
      rw [ek]
      have f2 : w1 (j + 2) = w (j + 2) := g1 _ (by simp; omega)
      have f1 : w1 (j + 1) = w (j + 1) := g1 _ (by simp; omega)
      refine Ev.mono (ih (k + 1) w1 (by omega) (by omega) g2 (RO_fr f2 hoj)) ?_
      rintro v w2 ⟨rfl, q1, q2, q3⟩
      refine ⟨rfl, g1.tr q1, q2, fun r => ?_⟩
      rw [q3, g3, rC_fr f1 f2, Int.toNat_natCast]
      by_cases e1 : r = k
      · subst e1
        rw [if_neg (by omega), vs_same, if_pos (by omega)]
      · rw [vs_ne _ _ e1]
        by_cases e2 : k + 1 ≤ r ∧ r < n
        · rw [if_pos e2, if_pos (by omega)]
        · rw [if_neg e2, if_neg (by omega)]
theorem f_copyAll {i wd n j : Nat} (hi : RI i wd n) (hj : RI j wd n) (hne : i ≠ j) {w : WS} (ho : RO w i wd n) (hoj : RO w j wd n) : Ev (f_X6_copyAll i j w) (fun v w' => v = 0 ∧ Fr [i + 1, i + 2] w w' ∧ RO w' i wd n ∧ rC w' i wd = rC w j wd) := by
  unfold f_X6_copyAll
  have h6 := hi.2.2.2.2.2.1
  refine Ev.mono (copyAll_loop hi hj hne FU 0 w (by unfold FU; omega) (by omega) ho hoj) ?_
  rintro v w' ⟨rfl, g1, g2, g3⟩
  refine ⟨rfl, g1, g2, ?_⟩
  funext r
  rw [g3]
  by_cases e : r < n
  · rw [if_pos (by omega)]
  · rw [if_neg (by omega), rC_ge ho (by omega), rC_ge hoj (by omega)]
