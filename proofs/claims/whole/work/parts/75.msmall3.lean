theorem ww_up (w : WS) {c i : Nat} (o : Nat) (g : Nat → Int) (n k : Nat) (v : Int) (h : i ≠ c) : up (ww w c o g n) i k v = ww (up w i k v) c o g n := by
  funext a x
  unfold up ww
  dsimp only
  by_cases h1 : a = i ∧ x = k
  · rw [if_pos h1, if_neg (by omega), if_pos h1]
  · rw [if_neg h1]
    by_cases h2 : a = c ∧ o ≤ x ∧ x < o + n
    · rw [if_pos h2, if_pos h2]
    · rw [if_neg h2, if_neg h2, if_neg h1]
theorem m_assign {E : EV} {w : WS} (h : EM E w) (hl : (eS E).length ≤ 60) {V : Nat → List Int} (hV : VM w V) {a f e : Int} (ha : 0 ≤ a ∧ a < 26) (hf : 0 ≤ f ∧ f ≤ e ∧ e ≤ (eS E).length) : Ev (f_X9_assign a f e w) (fun v w' => v = 0 ∧ Fr [89, 90] w w' ∧ VM w' (vs V a.toNat (slice (eS E) f e))) := by
  obtain ⟨a, rfl⟩ : ∃ k : Nat, a = k := ⟨a.toNat, by omega⟩
  obtain ⟨f, rfl⟩ : ∃ k : Nat, f = k := ⟨f.toNat, by omega⟩
  obtain ⟨e, rfl⟩ : ∃ k : Nat, e = k := ⟨e.toNat, by omega⟩
  rw [Int.toNat_natCast]
  have hr := rM_ww (w := w) (s := 89) (z := 90) (st := 60) (n := 26) (a := a) (c := e - f) (g := fun k => w 100 (f + k)) (zc := (e : Int) - f) (by omega) hV.2 (by omega) (by omega) (by omega)
  refine Ev.eq (v := 0) (w := ww (up w 90 a ((e : Int) - f)) 89 (a * 60) (fun k => w 100 (f + k)) (e - f)) ?_ ⟨rfl, hr.2.2, ?_, hr.2.1⟩
  · unfold f_X9_assign
    have key := ww_loop (L := fun m k w => f_X9_assign_3 m a f e ((f : Int) + k) w) (w0 := w) (c := 89) (o := a * 60) (g := fun k => w 100 (f + k)) (n := e - f) (R := some (0, ww (up w 90 a ((e : Int) - f)) 89 (a * 60) (fun k => w 100 (f + k)) (e - f))) (fun m k hk => ?_) (fun m => ?_) FU (by unfold FU; omega)
    · have key : f_X9_assign_3 FU a f e ((f : Int) + 0) w = _ := key
      rw [Int.add_zero] at key
      exact key
    · have e100 : (ww w 89 (a * 60) (fun k => w 100 (f + k)) k) 100 = w 100 := ww_c _ _ _ _ (by omega)
      show f_X9_assign_3 (m + 1) a f e ((f : Int) + k) _ = f_X9_assign_3 m a f e ((f : Int) + ((k + 1 : Nat) : Int)) _
      rw [f_X9_assign_3_s, e100, show wr ((60 * (a : Int) + ((f : Int) + k)) - f) = ((a * 60 + k : Nat) : Int) from by rw [wr_eq (by omega)]; omega, show wr ((f : Int) + k) = ((f + k : Nat) : Int) from by rw [wr_eq (by omega)]; omega, Int.toNat_natCast, Int.toNat_natCast]
      refine (if_pos (by first | (simp (disch := omega) only [wr_eq] <;> omega) | omega)).trans ((if_pos (by first | (simp (disch := omega) only [wr_eq] <;> omega) | omega)).trans ((if_pos (by first | (simp (disch := omega) only [wr_eq] <;> omega) | omega)).trans ?_))
      rw [show (f : Int) + k + 1 = (f : Int) + ((k + 1 : Nat) : Int) from by omega]
    · show f_X9_assign_3 (m + 1) a f e ((f : Int) + ((e - f : Nat) : Int)) _ = _
      rw [f_X9_assign_3_s, wr_eq (a := (a : Int)) (by omega), Int.toNat_natCast]
      refine (if_neg (by first | (simp (disch := omega) only [wr_eq] <;> omega) | omega)).trans ((if_pos (by first | (simp (disch := omega) only [wr_eq] <;> omega) | omega)).trans ?_)
      rw [ww_up _ _ _ _ _ _ (by omega)]
  · rw [hr.1, hV.1]
    congr 1
    unfold slice
    rw [← h.2.2.2.2.2.1, sg_drop _ _ (by omega), sg_take _ _ (by omega)]
    unfold sg
    rw [show ((e : Int) - f).toNat = e - f from by omega]
    refine List.map_congr_left (fun k _ => ?_)
    congr 1
    omega
theorem decS_small {c : Int} (h : 0 ≤ c ∧ c ≤ 60) : decS c = if 9 < c then [48 + c / 10, 48 + c % 10] else [48 + c] := by
  unfold decS
  rw [if_neg (by omega)]
  by_cases q : 9 < c
  · rw [if_pos q, dec_big (m := c) (D := 2) (by omega) (by show c < 10 * (10 * 1); omega) (by omega) 9 (by omega), dec_pad (by omega) (by show c < 10 * (10 * 1); omega) (by omega) (Or.inr (by show 10 * 1 ≤ c; omega))]
    show [48 + dg c 1, 48 + dg c 0] = _
    rw [dg_zero]
    unfold dg
    have : p10 1 = 10 := rfl
    rw [this, show c / 10 % 10 = c / 10 from by omega]
  · rw [if_neg q, dec_big (m := c) (D := 1) (by omega) (by show c < 10 * 1; omega) (by omega) 9 (by omega), dec_pad (by omega) (by show c < 10 * 1; omega) (by omega) (Or.inl rfl)]
    show [48 + dg c 0] = _
    rw [dg_zero, show c % 10 = c from by omega]
theorem m_assignCursor {w : WS} {V : Nat → List Int} (hV : VM w V) {a c : Int} (ha : 0 ≤ a ∧ a < 26) (hc : w 85 39 = c) (hc0 : 0 ≤ c ∧ c ≤ 60) : Ev (f_X9_assignCursor a w) (fun v w' => v = 0 ∧ Fr [89, 90] w w' ∧ VM w' (vs V a.toNat (decS c))) := by
  obtain ⟨a, rfl⟩ : ∃ k : Nat, a = k := ⟨a.toNat, by omega⟩
  rw [Int.toNat_natCast, decS_small hc0]
  have fin : ∀ (n : Nat) (x y : Int) (L : List Int), L.length = n → (n = 1 ∧ L = [x] ∨ n = 2 ∧ L = [x, y]) → VM (up (up (up w 90 a n) 89 (a * 60) x) 89 (a * 60 + 1) y) (vs V a L) ∧ Fr [89, 90] w (up (up (up w 90 a n) 89 (a * 60) x) 89 (a * 60 + 1) y) := by
    intro n x y L hL hn
    have h3 : ∀ r, (up (up (up w 90 a n) 89 (a * 60) x) 89 (a * 60 + 1) y) 90 r = if r = a then (L.length : Int) else w 90 r := fun r => by
      rw [up_row _ _ _ (by omega), up_row _ _ _ (by omega)]
      by_cases e : r = a
      · rw [if_pos e, e, up_same, hL]
      · rw [if_neg e, up_slot _ _ _ _ e]
    refine ⟨⟨?_, RM_set hV.2 (by omega) _ (by omega) h3⟩, ((Fr.rf.up (by simp)).up (by simp)).up (by simp)⟩
    rw [rM_set (a := a) hV.2 L (by omega) (fun z hz => ?_) ?_ h3, hV.1]
    · rcases hn with ⟨rfl, rfl⟩ | ⟨rfl, rfl⟩
      · rw [show ([x] : List Int).length = 1 from rfl, sg_cons, sg_zero, up_slot _ _ _ _ (by omega), up_same]
      · rw [show ([x, y] : List Int).length = 2 from rfl, sg_cons, sg_cons, sg_zero, up_same, up_slot _ _ _ _ (by omega), up_same]
    · rw [up_slot _ _ _ _ (by omega), up_slot _ _ _ _ (by omega), up_row _ _ _ (by omega)]
  have e39 : ∀ k v, k ≠ 85 → ∀ w1 : WS, w1 85 39 = c → ∀ j, (up w1 k j v) 85 39 = c := fun k v hk w1 h1 j => by rw [up_row _ _ _ (fun e => hk e.symm), h1]
  have s53 : ∀ (n x : Int), f_X9_assignCursor_53 a x 48 (60 * a) (up w 90 a n) = some (0, up (up (up w 90 a n) 89 (a * 60) (48 + x)) 89 (a * 60 + 1) (48 + c % 10)) := by
    intro n x
    unfold f_X9_assignCursor_53
    rw [show wr (60 * (a : Int)) = ((a * 60 : Nat) : Int) from by rw [wr_eq (by omega)]; omega, show wr (60 * (a : Int) + 1) = ((a * 60 + 1 : Nat) : Int) from by rw [wr_eq (by omega)]; omega, Int.toNat_natCast, Int.toNat_natCast, e39 _ _ (by omega) _ (e39 _ _ (by omega) _ hc _) _, wr_eq (a := c) (by omega), wr_eq (a := 10) (by omega), Int.tmod_eq_emod_of_nonneg hc0.1]
    exact (if_pos (by omega)).trans ((if_pos (by omega)).trans (if_pos (by omega)))
  have s19 : ∀ n : Int, f_X9_assignCursor_19 a n a w = some (0, up (up (up w 90 a n) 89 (a * 60) (48 + (if 9 < c then c / 10 else c))) 89 (a * 60 + 1) (48 + c % 10)) := by
    intro n
    unfold f_X9_assignCursor_19
    rw [wr_eq (a := (a : Int)) (by omega), Int.toNat_natCast, e39 _ _ (by omega) _ hc _, wr_eq (a := c) (by omega), wr_eq (a := 10) (by omega), wr_eq (a := 9) (by omega), Int.tdiv_eq_ediv_of_nonneg hc0.1, s53, s53]
    refine (if_pos (by omega)).trans ?_
    by_cases q : 9 < c
    · rw [if_pos q, if_pos q, if_pos (by omega)]
    · rw [if_neg q, if_neg q]
  unfold f_X9_assignCursor
  rw [hc, wr_eq (a := c) (by omega), wr_eq (a := 9) (by omega), s19, s19]
  by_cases q : 9 < c
  · rw [if_pos q, if_pos q, if_pos q]
    have := fin 2 (48 + c / 10) (48 + c % 10) [48 + c / 10, 48 + c % 10] rfl (Or.inr ⟨rfl, rfl⟩)
    exact Ev.ret ⟨rfl, this.2, this.1⟩
  · rw [if_neg q, if_neg q, if_neg q]
    have := fin 1 (48 + c) (48 + c % 10) [48 + c] rfl (Or.inl ⟨rfl, rfl⟩)
    exact Ev.ret ⟨rfl, this.2, this.1⟩
def goaW (w : WS) (a b c d : Int) : WS := up (up (up (up (up w 101 (w 85 27).toNat a) 102 (w 85 27).toNat b) 103 (w 85 27).toNat c) 104 (w 85 27).toNat d) 85 27 (w 85 27 + 1)
theorem m_addGoal {w : WS} (h : 0 ≤ w 85 27 ∧ w 85 27 < 13000) (a b c d : Int) : f_X9_addGoal a b c d w = some (w 85 27, goaW w a b c d) := by
  unfold f_X9_addGoal goaW
  simp (disch := decide) only [up_row, up_same]
  rw [wr_eq (a := w 85 27) (by omega), if_pos h, if_pos h, if_pos h, if_pos h]
  congr 2
  omega
theorem goaW_fr (w : WS) (a b c d : Int) : Fr [85, 101, 102, 103, 104] w (goaW w a b c d) := ((((Fr.rf.up (by simp)).up (by simp)).up (by simp)).up (by simp)).up (by simp)
theorem goaW_85 (w : WS) (a b c d : Int) {k : Nat} (h : k ≠ 27) : goaW w a b c d 85 k = w 85 k := by
  unfold goaW
  rw [up_slot _ _ _ _ h, up_row _ _ _ (by omega), up_row _ _ _ (by omega), up_row _ _ _ (by omega), up_row _ _ _ (by omega)]
theorem goaW_n (w : WS) (a b c d : Int) : goaW w a b c d 85 27 = w 85 27 + 1 := up_same _ _ _ _
theorem goaW_new (w : WS) (a b c d : Int) : goaW w a b c d 101 (w 85 27).toNat = a ∧ goaW w a b c d 102 (w 85 27).toNat = b ∧ goaW w a b c d 103 (w 85 27).toNat = c ∧ goaW w a b c d 104 (w 85 27).toNat = d := by
  unfold goaW
  refine ⟨?_, ?_, ?_, ?_⟩
  · rw [up_row _ _ _ (by omega), up_row _ _ _ (by omega), up_row _ _ _ (by omega), up_row _ _ _ (by omega), up_same]
  · rw [up_row _ _ _ (by omega), up_row _ _ _ (by omega), up_row _ _ _ (by omega), up_same]
  · rw [up_row _ _ _ (by omega), up_row _ _ _ (by omega), up_same]
  · rw [up_row _ _ _ (by omega), up_same]
theorem goaW_old (w : WS) (a b c d : Int) {k : Nat} (h : (k : Int) < w 85 27) : goaW w a b c d 101 k = w 101 k ∧ goaW w a b c d 102 k = w 102 k ∧ goaW w a b c d 103 k = w 103 k ∧ goaW w a b c d 104 k = w 104 k := by
  have hk : k ≠ (w 85 27).toNat := by omega
  unfold goaW
  refine ⟨?_, ?_, ?_, ?_⟩
  · rw [up_row _ _ _ (by omega), up_row _ _ _ (by omega), up_row _ _ _ (by omega), up_row _ _ _ (by omega), up_slot _ _ _ _ hk]
  · rw [up_row _ _ _ (by omega), up_row _ _ _ (by omega), up_row _ _ _ (by omega), up_slot _ _ _ _ hk, up_row _ _ _ (by omega)]
  · rw [up_row _ _ _ (by omega), up_row _ _ _ (by omega), up_slot _ _ _ _ hk, up_row _ _ _ (by omega), up_row _ _ _ (by omega)]
  · rw [up_row _ _ _ (by omega), up_slot _ _ _ _ hk, up_row _ _ _ (by omega), up_row _ _ _ (by omega), up_row _ _ _ (by omega)]
def chmW (w : WS) (a b c d : Int) : WS := up (up (up (up (up (up (up w 105 (w 85 34).toNat a) 106 (w 85 34).toNat b) 107 (w 85 34).toNat c) 108 (w 85 34).toNat d) 109 (w 85 34).toNat (w 85 38)) 110 (w 85 34).toNat (w 85 27)) 85 34 (w 85 34 + 1)
theorem m_addChoice {w : WS} (h : 0 ≤ w 85 34 ∧ w 85 34 < 7000) (a b c d : Int) : f_X9_addChoice a b c d w = some (0, chmW w a b c d) := by
  unfold f_X9_addChoice chmW
  simp (disch := decide) only [up_row, up_same]
  rw [wr_eq (a := w 85 34) (by omega), if_pos h, if_pos h, if_pos h, if_pos h, if_pos h, if_pos h]
theorem chmW_fr (w : WS) (a b c d : Int) : Fr [85, 105, 106, 107, 108, 109, 110] w (chmW w a b c d) := ((((((Fr.rf.up (by simp)).up (by simp)).up (by simp)).up (by simp)).up (by simp)).up (by simp)).up (by simp)
theorem chmW_85 (w : WS) (a b c d : Int) {k : Nat} (h : k ≠ 34) : chmW w a b c d 85 k = w 85 k := by
  unfold chmW
  rw [up_slot _ _ _ _ h, up_row _ _ _ (by omega), up_row _ _ _ (by omega), up_row _ _ _ (by omega), up_row _ _ _ (by omega), up_row _ _ _ (by omega), up_row _ _ _ (by omega)]
theorem chmW_n (w : WS) (a b c d : Int) : chmW w a b c d 85 34 = w 85 34 + 1 := up_same _ _ _ _
theorem chmW_new (w : WS) (a b c d : Int) : chmW w a b c d 105 (w 85 34).toNat = a ∧ chmW w a b c d 106 (w 85 34).toNat = b ∧ chmW w a b c d 107 (w 85 34).toNat = c ∧ chmW w a b c d 108 (w 85 34).toNat = d ∧ chmW w a b c d 109 (w 85 34).toNat = w 85 38 ∧ chmW w a b c d 110 (w 85 34).toNat = w 85 27 := by
  unfold chmW
  refine ⟨?_, ?_, ?_, ?_, ?_, ?_⟩
  all_goals simp (disch := decide) only [up_row, up_same]
theorem chmW_old (w : WS) (a b c d : Int) {k : Nat} (h : (k : Int) < w 85 34) : chmW w a b c d 105 k = w 105 k ∧ chmW w a b c d 106 k = w 106 k ∧ chmW w a b c d 107 k = w 107 k ∧ chmW w a b c d 108 k = w 108 k ∧ chmW w a b c d 109 k = w 109 k ∧ chmW w a b c d 110 k = w 110 k := by
  have hk : k ≠ (w 85 34).toNat := by omega
  have e : ∀ (w1 : WS) (i : Nat) (v : Int), up w1 i (w 85 34).toNat v i k = w1 i k := fun w1 i v => up_slot _ _ _ _ hk
  unfold chmW
  refine ⟨?_, ?_, ?_, ?_, ?_, ?_⟩
  all_goals simp (disch := decide) only [up_row, e]
