/-! the reference's matcher: small things -/
def EM (E : EV) (w : WS) : Prop := w 91 = E.1 ∧ w 92 = E.2.1 ∧ w 93 = E.2.2.1 ∧ rM w 87 88 20 = eT E ∧ RM w 88 20 30 ∧ sg (w 100) 0 (eS E).length = eS E ∧ w 85 20 = (eS E).length ∧ w 85 21 = eA E
def VM (w : WS) (V : Nat → List Int) : Prop := rM w 89 90 60 = V ∧ RM w 90 60 26
theorem EM.sign {E : EV} {w : WS} (h : EM E w) {y : Int} (hy : 0 ≤ y ∧ y < (eS E).length) : w 100 y.toNat = gt (eS E) y := by
  have := gt_sg (a := w 100) (o := 0) (n := (eS E).length) hy
  rw [h.2.2.2.2.2.1, Nat.zero_add] at this
  exact this.symm
theorem EM.sign_n {E : EV} {w : WS} (h : EM E w) {y : Nat} (hy : y < (eS E).length) : w 100 y = gt (eS E) y := by
  have := h.sign (y := y) (by omega)
  rw [Int.toNat_natCast] at this
  exact this
theorem isIn_loop {E : EV} {w : WS} (hE : EOK E) (h : EM E w) {a : Nat} (ha : a < 30) {s : Int} (hs : -1 ≤ s ∧ s < 200000) (m : Nat) : ∀ (k : Nat) (f : Int), (w 88 a).toNat - k < m → k ≤ (w 88 a).toNat → (f = 0 ∧ (∀ q, q < k → w 87 (a * 20 + q) ≠ s) ∨ f = 1 ∧ s ∈ eT E a) → f_X9_isIn_5 m s a f k w = some (if s ∈ eT E a then 1 else 0, w) := by
  have hl := (h.2.2.2.2.1 a).1
  have eTa : eT E a = sg (w 87) (a * 20) (w 88 a).toNat := by rw [← h.2.2.2.1]; rfl
  have hSO := hE.2.2.2.1 a
  induction m with
  | zero => intro k f h; omega
  | succ m ih =>
    intro k f g1 g2 g3
    refine Ev.toEq ?_
    rw [f_X9_isIn_5_s, wr_eq (a := (a : Int)) (by omega), Int.toNat_natCast]
    refine Ev.pos (by first | (simp (disch := omega) only [wr_eq] <;> omega) | omega) ?_
    have ek : ((k : Int) + 1) = ((k + 1 : Nat) : Int) := by omega
    by_cases e : k = (w 88 a).toNat
    · refine Ev.neg (by first | (simp (disch := omega) only [wr_eq] <;> omega) | omega) ?_
      rcases g3 with ⟨rfl, g3⟩ | ⟨rfl, g3⟩
      · refine Ev.pos (Or.inl rfl) (Ev.ret ⟨?_, rfl⟩)
        rw [if_neg]
        intro hm
        rw [eTa] at hm
        obtain ⟨q, q1, q2⟩ := sg_mem.mp hm
        exact g3 q (by omega) q2
      · refine Ev.pos (Or.inr rfl) (Ev.ret ⟨?_, rfl⟩)
        rw [if_pos g3]
    · refine Ev.pos (by first | (simp (disch := omega) only [wr_eq] <;> omega) | omega) ?_
      unfold f_X9_isIn_36
      rw [ek]
      rcases g3 with ⟨rfl, g3⟩ | ⟨rfl, g3⟩
      · refine Ev.pos rfl ?_
        rw [ix20 (by omega), Int.toNat_natCast]
        refine Ev.pos (by first | (simp (disch := omega) only [wr_eq] <;> omega) | omega) ?_
        have hx : w 87 (a * 20 + k) ∈ eT E a := by rw [eTa]; exact sg_mem.mpr ⟨k, by omega, rfl⟩
        have hx2 := hSO _ hx
        by_cases g : w 87 (a * 20 + k) = s
        · rw [g]
          refine Ev.pos rfl ?_
          exact Ev.eq (ih (k + 1) 1 (by omega) (by omega) (Or.inr ⟨rfl, by rw [← g]; exact hx⟩)) ⟨rfl, rfl⟩
        · refine Ev.neg (by first | (simp (disch := omega) only [wr_eq] <;> omega) | omega) ?_
          refine Ev.eq (ih (k + 1) 0 (by omega) (by omega) (Or.inl ⟨rfl, ?_⟩)) ⟨rfl, rfl⟩
          intro q hq
          by_cases e2 : q = k
          · rw [e2]
            exact g
          · exact g3 q (by omega)
      · refine Ev.neg (by decide) ?_
        exact Ev.eq (ih (k + 1) 1 (by omega) (by omega) (Or.inr ⟨rfl, g3⟩)) ⟨rfl, rfl⟩
theorem m_isIn {E : EV} {w : WS} (hE : EOK E) (h : EM E w) {a : Int} (ha : 0 ≤ a ∧ a < 30) {s : Int} (hs : -1 ≤ s ∧ s < 200000) : f_X9_isIn s a w = some (if s ∈ eT E a.toNat then 1 else 0, w) := by
  obtain ⟨a, rfl⟩ : ∃ k : Nat, a = k := ⟨a.toNat, by omega⟩
  rw [Int.toNat_natCast]
  have hl := (h.2.2.2.2.1 a).1
  unfold f_X9_isIn
  exact isIn_loop hE h (by omega) hs FU 0 0 (by unfold FU; omega) (by omega) (Or.inl ⟨rfl, fun q hq => by omega⟩)
theorem m_span {E : EV} {w : WS} (hE : EOK E) (h : EM E w) {a c : Int} (ha : 0 ≤ a ∧ a < 30) (hc : w 85 39 = c) (hc0 : 0 ≤ c) (n : Nat) : ∀ (m : Nat) (e : Int), n < m → 0 ≤ e → c + e ≤ (eS E).length → (eS E).length - (c + e) ≤ n → f_X9_takes_188 m a e w = f_X9_takes_226 (spanE (eS E) (eT E a.toNat) true n (c + e) - c) w := by
  have h20 := h.2.2.2.2.2.2.1
  have hS := hE.2.2.2.2.2.1
  have hl := hE.2.2.2.2.2.2.1
  induction n with
  | zero =>
    intro m e h1 h2 h3 h4
    obtain ⟨m, rfl⟩ : ∃ k, m = k + 1 := ⟨m - 1, by omega⟩
    rw [f_X9_takes_188_s, h20, hc]
    refine (if_neg (by first | (simp (disch := omega) only [wr_eq] <;> omega) | omega)).trans ?_
    congr 1
    show e = c + e - c
    omega
  | succ n ih =>
    intro m e h1 h2 h3 h4
    obtain ⟨m, rfl⟩ : ∃ k, m = k + 1 := ⟨m - 1, by omega⟩
    rw [f_X9_takes_188_s, h20, hc]
    unfold spanE
    by_cases q : c + e < (eS E).length
    · refine (if_pos (by first | (simp (disch := omega) only [wr_eq] <;> omega) | omega)).trans ((if_pos (by first | (simp (disch := omega) only [wr_eq] <;> omega) | omega)).trans ?_)
      have r1 := gt_rng hS (c + e)
      rw [wr_eq (a := c + e) (by omega), h.sign (by omega), m_isIn hE h ha r1, ob_some]
      by_cases d : gt (eS E) (c + e) ∈ eT E a.toNat
      · rw [if_pos d, if_neg (by decide), if_pos ⟨q, decide_eq_true d⟩]
        have := ih m (e + 1) (by omega) (by omega) (by omega) (by omega)
        rw [show c + (e + 1) = c + e + 1 from by omega] at this
        exact this
      · have hq : ¬ (c + e < (eS E).length ∧ decide (gt (eS E) (c + e) ∈ eT E a.toNat) = true) := fun q => d (of_decide_eq_true q.2)
        rw [if_neg d, if_pos (by rfl), if_neg hq]
        congr 1
        omega
    · have hq : ¬ (c + e < (eS E).length ∧ decide (gt (eS E) (c + e) ∈ eT E a.toNat) = true) := fun z => q z.1
      rw [if_neg hq]
      refine (if_neg (by first | (simp (disch := omega) only [wr_eq] <;> omega) | omega)).trans ?_
      congr 1
      omega
theorem m_break {E : EV} {w : WS} (hE : EOK E) (h : EM E w) {a c : Int} (ha : 0 ≤ a ∧ a < 30) (hc : w 85 39 = c) (hc0 : 0 ≤ c) (n : Nat) : ∀ (m : Nat) (e : Int), n < m → 0 ≤ e → c + e ≤ (eS E).length → (eS E).length - (c + e) ≤ n → f_X9_takes_236 m a e w = f_X9_takes_274 (spanE (eS E) (eT E a.toNat) false n (c + e) - c) w := by
  have h20 := h.2.2.2.2.2.2.1
  have hS := hE.2.2.2.2.2.1
  have hl := hE.2.2.2.2.2.2.1
  induction n with
  | zero =>
    intro m e h1 h2 h3 h4
    obtain ⟨m, rfl⟩ : ∃ k, m = k + 1 := ⟨m - 1, by omega⟩
    rw [f_X9_takes_236_s, h20, hc]
    refine (if_neg (by first | (simp (disch := omega) only [wr_eq] <;> omega) | omega)).trans ?_
    congr 1
    show e = c + e - c
    omega
  | succ n ih =>
    intro m e h1 h2 h3 h4
    obtain ⟨m, rfl⟩ : ∃ k, m = k + 1 := ⟨m - 1, by omega⟩
    rw [f_X9_takes_236_s, h20, hc]
    unfold spanE
    by_cases q : c + e < (eS E).length
    · refine (if_pos (by first | (simp (disch := omega) only [wr_eq] <;> omega) | omega)).trans ((if_pos (by first | (simp (disch := omega) only [wr_eq] <;> omega) | omega)).trans ?_)
      have r1 := gt_rng hS (c + e)
      rw [wr_eq (a := c + e) (by omega), h.sign (by omega), m_isIn hE h ha r1, ob_some]
      by_cases d : gt (eS E) (c + e) ∈ eT E a.toNat
      · have hq : ¬ (c + e < (eS E).length ∧ decide (gt (eS E) (c + e) ∈ eT E a.toNat) = false) := fun q => (of_decide_eq_false q.2) d
        rw [if_pos d, if_neg (by decide), if_neg hq]
        congr 1
        omega
      · rw [if_neg d, if_pos (by rfl), if_pos ⟨q, decide_eq_false d⟩]
        have := ih m (e + 1) (by omega) (by omega) (by omega) (by omega)
        rw [show c + (e + 1) = c + e + 1 from by omega] at this
        exact this
    · have hq : ¬ (c + e < (eS E).length ∧ decide (gt (eS E) (c + e) ∈ eT E a.toNat) = false) := fun z => q z.1
      rw [if_neg hq]
      refine (if_neg (by first | (simp (disch := omega) only [wr_eq] <;> omega) | omega)).trans ?_
      congr 1
      omega
theorem m_textTakes {E : EV} {w : WS} (hE : EOK E) (h : EM E w) {a c : Int} (ha : 0 ≤ a ∧ a < 30) (hc : w 85 39 = c) (hc0 : 0 ≤ c ∧ c ≤ (eS E).length) : f_X9_textTakes a w = some (if hasAt (eS E) (eT E a.toNat) c = true then ((eT E a.toNat).length : Int) else -1, w) := by
  obtain ⟨a, rfl⟩ : ∃ k : Nat, a = k := ⟨a.toNat, by omega⟩
  rw [Int.toNat_natCast]
  have h20 := h.2.2.2.2.2.2.1
  have hS := hE.2.2.2.2.2.1
  have hl := hE.2.2.2.2.2.2.1
  have hSO := hE.2.2.2.1 a
  have hr := h.2.2.2.2.1
  have lt := lnM (s := 87) hr a
  have g4 := h.2.2.2.1
  rw [g4] at lt
  have hg : ∀ y : Nat, y < (eT E a).length → w 87 (a * 20 + y) = gt (eT E a) y := fun y hy => by
    have := gt_rM (s := 87) (r := a) (y := y) hr (by omega)
    rw [Int.toNat_natCast, g4] at this
    exact this.symm
  have last : ∀ f : Int, (f = 0 ∧ hasAt (eS E) (eT E a) c ≠ true ∨ f = 1 ∧ hasAt (eS E) (eT E a) c = true) → f_X9_textTakes_77 a f w = some (if hasAt (eS E) (eT E a) c = true then ((eT E a).length : Int) else -1, w) := by
    intro f hf
    unfold f_X9_textTakes_77
    rw [wr_eq (a := (a : Int)) (by omega), Int.toNat_natCast]
    rcases hf with ⟨rfl, hf⟩ | ⟨rfl, hf⟩
    · rw [if_pos (by rfl), if_neg hf]
    · rw [if_neg (by decide), if_pos (show (0 : Int) ≤ a ∧ (a : Int) < 30 from by omega), if_pos hf, lt.1]
  have loop : ∀ (m k : Nat) (f : Int), (eT E a).length + 1 - k < m → k ≤ (eT E a).length → (f = 0 ∧ hasAt (eS E) (eT E a) c ≠ true ∨ f = 1 ∧ c + (eT E a).length ≤ (eS E).length ∧ ∀ q : Nat, q < k → gt (eS E) (c + q) = gt (eT E a) q) → f_X9_textTakes_26 m a f k w = some (if hasAt (eS E) (eT E a) c = true then ((eT E a).length : Int) else -1, w) := by
    intro m
    induction m with
    | zero => intro k f h; omega
    | succ m ih =>
      intro k f g1 g2 g3
      rw [f_X9_textTakes_26_s, wr_eq (a := (a : Int)) (by omega), Int.toNat_natCast]
      refine (if_pos (by first | (simp (disch := omega) only [wr_eq] <;> omega) | omega)).trans ?_
      by_cases e : k = (eT E a).length
      · refine (if_neg (by first | (simp (disch := omega) only [wr_eq] <;> omega) | omega)).trans (last f ?_)
        rcases g3 with g3 | ⟨g3, g4, g5⟩
        · exact Or.inl g3
        · exact Or.inr ⟨g3, hasAt_iff.mpr (fun q hq => g5 q (by omega))⟩
      · refine (if_pos (by first | (simp (disch := omega) only [wr_eq] <;> omega) | omega)).trans ?_
        rcases g3 with ⟨rfl, g3⟩ | ⟨rfl, g4, g5⟩
        · rw [if_pos (by rfl)]
          exact last 0 (Or.inl ⟨rfl, g3⟩)
        · rw [if_neg (by decide), hc]
          rw [show wr (c + (k : Int)) = c + k from wr_eq (by omega), ix20 (by omega), Int.toNat_natCast]
          refine (if_pos (by first | (simp (disch := omega) only [wr_eq] <;> omega) | omega)).trans ((if_pos (by first | (simp (disch := omega) only [wr_eq] <;> omega) | omega)).trans ?_)
          rw [h.sign (by omega), hg k (by omega)]
          have r1 := gt_rng hS (c + k)
          have r2 := gt_rng hSO k
          have ek : ((k : Int) + 1) = ((k + 1 : Nat) : Int) := by omega
          rw [ek]
          by_cases d : gt (eS E) (c + k) = gt (eT E a) k
          · rw [if_pos (by rw [d])]
            refine ih (k + 1) 1 (by omega) (by omega) (Or.inr ⟨rfl, g4, fun q hq => ?_⟩)
            by_cases e2 : q = k
            · rw [e2]; exact d
            · exact g5 q (by omega)
          · refine (if_neg (by first | (simp (disch := omega) only [wr_eq] <;> omega) | omega)).trans ?_
            refine ih (k + 1) 0 (by omega) (by omega) (Or.inl ⟨rfl, fun hh => d (hasAt_iff.mp hh k (by omega))⟩)
  unfold f_X9_textTakes
  rw [wr_eq (a := (a : Int)) (by omega), Int.toNat_natCast, hc, h20, ← lt.1]
  refine (if_pos (by first | (simp (disch := omega) only [wr_eq] <;> omega) | omega)).trans ?_
  by_cases q : c + (eT E a).length ≤ (eS E).length
  · refine (if_neg (by first | (simp (disch := omega) only [wr_eq] <;> omega) | omega)).trans ?_
    exact loop FU 0 1 (by unfold FU; omega) (by omega) (Or.inr ⟨rfl, q, fun q hq => by omega⟩)
  · refine (if_pos (by first | (simp (disch := omega) only [wr_eq] <;> omega) | omega)).trans ?_
    exact loop FU 0 0 (by unfold FU; omega) (by omega) (Or.inl ⟨rfl, fun hh => q (hasAt_len hSO hc0.2 hh)⟩)
theorem m_valueTakes {E : EV} {w : WS} (hE : EOK E) (h : EM E w) {V : Nat → List Int} (hV : VM w V) (vV : VOK V) {a c : Int} (ha : 0 ≤ a ∧ a < 26) (hc : w 85 39 = c) (hc0 : 0 ≤ c ∧ c ≤ (eS E).length) : f_X9_valueTakes a w = some (if hasAt (eS E) (V a.toNat) c = true then ((V a.toNat).length : Int) else -1, w) := by
  obtain ⟨a, rfl⟩ : ∃ k : Nat, a = k := ⟨a.toNat, by omega⟩
  rw [Int.toNat_natCast]
  have h20 := h.2.2.2.2.2.2.1
  have hS := hE.2.2.2.2.2.1
  have hl := hE.2.2.2.2.2.2.1
  have hSO := (vV a).1
  have hr := hV.2
  have lt := lnM (s := 89) hr a
  have g4 := hV.1
  rw [g4] at lt
  have hg : ∀ y : Nat, y < (V a).length → w 89 (a * 60 + y) = gt (V a) y := fun y hy => by
    have := gt_rM (s := 89) (r := a) (y := y) hr (by omega)
    rw [Int.toNat_natCast, g4] at this
    exact this.symm
  generalize V a = T at *
  have last : ∀ f : Int, (f = 0 ∧ hasAt (eS E) T c ≠ true ∨ f = 1 ∧ hasAt (eS E) T c = true) → f_X9_valueTakes_77 a f w = some (if hasAt (eS E) T c = true then (T.length : Int) else -1, w) := by
    intro f hf
    unfold f_X9_valueTakes_77
    rw [wr_eq (a := (a : Int)) (by omega), Int.toNat_natCast]
    rcases hf with ⟨rfl, hf⟩ | ⟨rfl, hf⟩
    · rw [if_pos (by rfl), if_neg hf]
    · rw [if_neg (by decide), if_pos (show (0 : Int) ≤ a ∧ (a : Int) < 26 from by omega), if_pos hf, lt.1]
  have loop : ∀ (m k : Nat) (f : Int), T.length + 1 - k < m → k ≤ T.length → (f = 0 ∧ hasAt (eS E) T c ≠ true ∨ f = 1 ∧ c + T.length ≤ (eS E).length ∧ ∀ q : Nat, q < k → gt (eS E) (c + q) = gt T q) → f_X9_valueTakes_26 m a f k w = some (if hasAt (eS E) T c = true then (T.length : Int) else -1, w) := by
    intro m
    induction m with
    | zero => intro k f h; omega
    | succ m ih =>
      intro k f g1 g2 g3
      rw [f_X9_valueTakes_26_s, wr_eq (a := (a : Int)) (by omega), Int.toNat_natCast]
      refine (if_pos (by first | (simp (disch := omega) only [wr_eq] <;> omega) | omega)).trans ?_
      by_cases e : k = T.length
      · refine (if_neg (by first | (simp (disch := omega) only [wr_eq] <;> omega) | omega)).trans (last f ?_)
        rcases g3 with g3 | ⟨g3, g4, g5⟩
        · exact Or.inl g3
        · exact Or.inr ⟨g3, hasAt_iff.mpr (fun q hq => g5 q (by omega))⟩
      · refine (if_pos (by first | (simp (disch := omega) only [wr_eq] <;> omega) | omega)).trans ?_
        rcases g3 with ⟨rfl, g3⟩ | ⟨rfl, g4, g5⟩
        · rw [if_pos (by rfl)]
          exact last 0 (Or.inl ⟨rfl, g3⟩)
        · rw [if_neg (by decide), hc]
          rw [show wr (c + (k : Int)) = c + k from wr_eq (by omega), ix60 (by omega), Int.toNat_natCast]
          refine (if_pos (by first | (simp (disch := omega) only [wr_eq] <;> omega) | omega)).trans ((if_pos (by first | (simp (disch := omega) only [wr_eq] <;> omega) | omega)).trans ?_)
          rw [h.sign (by omega), hg k (by omega)]
          have r1 := gt_rng hS (c + k)
          have r2 := gt_rng hSO k
          have ek : ((k : Int) + 1) = ((k + 1 : Nat) : Int) := by omega
          rw [ek]
          by_cases d : gt (eS E) (c + k) = gt T k
          · rw [if_pos (by rw [d])]
            refine ih (k + 1) 1 (by omega) (by omega) (Or.inr ⟨rfl, g4, fun q hq => ?_⟩)
            by_cases e2 : q = k
            · rw [e2]; exact d
            · exact g5 q (by omega)
          · refine (if_neg (by first | (simp (disch := omega) only [wr_eq] <;> omega) | omega)).trans ?_
            refine ih (k + 1) 0 (by omega) (by omega) (Or.inl ⟨rfl, fun hh => d (hasAt_iff.mp hh k (by omega))⟩)
  unfold f_X9_valueTakes
  rw [wr_eq (a := (a : Int)) (by omega), Int.toNat_natCast, hc, h20, ← lt.1]
  refine (if_pos (by first | (simp (disch := omega) only [wr_eq] <;> omega) | omega)).trans ?_
  by_cases q : c + T.length ≤ (eS E).length
  · refine (if_neg (by first | (simp (disch := omega) only [wr_eq] <;> omega) | omega)).trans ?_
    exact loop FU 0 1 (by unfold FU; omega) (by omega) (Or.inr ⟨rfl, q, fun q hq => by omega⟩)
  · refine (if_pos (by first | (simp (disch := omega) only [wr_eq] <;> omega) | omega)).trans ?_
    exact loop FU 0 0 (by unfold FU; omega) (by omega) (Or.inl ⟨rfl, fun hh => q (hasAt_len hSO hc0.2 hh)⟩)
