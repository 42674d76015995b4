theorem EC.sign {E : EV} {w : WS} (h : EC E w) {y : Int} (hy : -2147483648 ≤ y ∧ y < 2147483648) : f_X6_sign 13 0 y w = some (gt (eS E) y, w) := by
  obtain ⟨g1, g2, g3, g4, g5, g6, g7, g8, g9, g10⟩ := h
  have := f_sign RI_13 g7 (a := 0) (y := y) (by omega) hy
  rw [Int.toNat_zero, g6] at this
  exact this
theorem EC.cont {E : EV} {w : WS} (hE : EOK E) (h : EC E w) {a s : Int} (ha : 0 ≤ a ∧ a < 30) (hs : -1 ≤ s ∧ s < 200000) : f_X6_contains 4 a s w = some (if s ∈ eT E a.toNat then 1 else 0, w) := by
  obtain ⟨g1, g2, g3, g4, g5, g6, g7, g8, g9, g10⟩ := h
  have := f_contains RI_4 g5 (a := a) (by omega) (by rw [g4]; exact hE.2.2.2.1 _) hs
  rw [g4] at this
  exact this
theorem c_span {E : EV} {w : WS} (hE : EOK E) (h : EC E w) {a : Int} (ha : 0 ≤ a ∧ a < 30) (n : Nat) : ∀ (m : Nat) (e : Int), n < m → 0 ≤ e → e ≤ (eS E).length → (eS E).length - e ≤ n → f_X2_endOfSpan_5 m a e w = f_X2_endOfSpan_39 (spanE (eS E) (eT E a.toNat) true n e) w := by
  have h10 := h.2.2.2.2.2.2.2.2.2
  have hS := hE.2.2.2.2.2.1
  have hl := hE.2.2.2.2.2.2.1
  induction n with
  | zero =>
    intro m e h1 h2 h3 h4
    obtain ⟨m, rfl⟩ : ∃ k, m = k + 1 := ⟨m - 1, by omega⟩
    rw [f_X2_endOfSpan_5_s, h10]
    exact if_neg (by first | (simp (disch := omega) only [wr_eq] <;> omega) | omega)
  | succ n ih =>
    intro m e h1 h2 h3 h4
    obtain ⟨m, rfl⟩ : ∃ k, m = k + 1 := ⟨m - 1, by omega⟩
    rw [f_X2_endOfSpan_5_s, h10]
    unfold spanE
    by_cases c : e < (eS E).length
    · refine (if_pos (by first | (simp (disch := omega) only [wr_eq] <;> omega) | omega)).trans ?_
      have r1 := gt_rng hS e
      rw [h.sign (by omega), ob_some, h.cont hE ha r1, ob_some]
      by_cases d : gt (eS E) e ∈ eT E a.toNat
      · rw [if_pos d, if_neg (by decide), if_pos ⟨c, decide_eq_true d⟩]
        exact ih m (e + 1) (by omega) (by omega) (by omega) (by omega)
      · have hq : ¬ (e < (eS E).length ∧ decide (gt (eS E) e ∈ eT E a.toNat) = true) := fun q => d (of_decide_eq_true q.2)
        rw [if_neg d, if_pos (by rfl), if_neg hq]
    · have hq : ¬ (e < (eS E).length ∧ decide (gt (eS E) e ∈ eT E a.toNat) = true) := fun q => c q.1
      rw [if_neg hq]
      exact if_neg (by first | (simp (disch := omega) only [wr_eq] <;> omega) | omega)
theorem c_break {E : EV} {w : WS} (hE : EOK E) (h : EC E w) {a : Int} (ha : 0 ≤ a ∧ a < 30) (n : Nat) : ∀ (m : Nat) (e : Int), n < m → 0 ≤ e → e ≤ (eS E).length → (eS E).length - e ≤ n → f_X2_endOfBreak_5 m a e w = f_X2_endOfBreak_39 (spanE (eS E) (eT E a.toNat) false n e) w := by
  have h10 := h.2.2.2.2.2.2.2.2.2
  have hS := hE.2.2.2.2.2.1
  have hl := hE.2.2.2.2.2.2.1
  induction n with
  | zero =>
    intro m e h1 h2 h3 h4
    obtain ⟨m, rfl⟩ : ∃ k, m = k + 1 := ⟨m - 1, by omega⟩
    rw [f_X2_endOfBreak_5_s, h10]
    exact if_neg (by first | (simp (disch := omega) only [wr_eq] <;> omega) | omega)
  | succ n ih =>
    intro m e h1 h2 h3 h4
    obtain ⟨m, rfl⟩ : ∃ k, m = k + 1 := ⟨m - 1, by omega⟩
    rw [f_X2_endOfBreak_5_s, h10]
    unfold spanE
    by_cases c : e < (eS E).length
    · refine (if_pos (by first | (simp (disch := omega) only [wr_eq] <;> omega) | omega)).trans ?_
      have r1 := gt_rng hS e
      rw [h.sign (by omega), ob_some, h.cont hE ha r1, ob_some]
      by_cases d : gt (eS E) e ∈ eT E a.toNat
      · have hq : ¬ (e < (eS E).length ∧ decide (gt (eS E) e ∈ eT E a.toNat) = false) := fun q => (of_decide_eq_false q.2) d
        rw [if_pos d, if_neg (by decide), if_neg hq]
      · rw [if_neg d, if_pos (by rfl), if_pos ⟨c, decide_eq_false d⟩]
        exact ih m (e + 1) (by omega) (by omega) (by omega) (by omega)
    · have hq : ¬ (e < (eS E).length ∧ decide (gt (eS E) e ∈ eT E a.toNat) = false) := fun q => c q.1
      rw [if_neg hq]
      exact if_neg (by first | (simp (disch := omega) only [wr_eq] <;> omega) | omega)
theorem c_single {E : EV} {w : WS} (hE : EOK E) (h : EC E w) {V : Nat → List Int} (hV : VC w V) (vV : VOK V) {g c : Int} (hg : w 39 13 = g) (hc : w 39 14 = c) (hg0 : 0 ≤ g ∧ g < eN E) (hc0 : 0 ≤ c ∧ c ≤ (eS E).length) (hk : pk E g = 108 ∨ pk E g = 110 ∨ pk E g = 111 ∨ pk E g = 115 ∨ pk E g = 107 ∨ pk E g = 118 ∨ pk E g = 35 ∨ pk E g = 116 ∨ pk E g = 114 ∨ pk E g = 112 ∨ pk E g = 113 ∨ pk E g = 109 ∨ pk E g = 105) : f_X2_endOfSingle w = some (single (pk E g) (pf E g) (eT E (pf E g).toNat) (V (pf E g).toNat) (eS E) c, w) := by
  have hp := hE.1 g hg0.1 hg0.2
  have hN := hE.2.2.1
  have hl := hE.2.2.2.2.2.2.1
  have hS := hE.2.2.2.2.2.1
  have hT := hE.2.2.2.1 (pf E g).toNat
  have hTl := hE.2.2.2.2.1 (pf E g).toNat
  have hW := vV (pf E g).toNat
  have h10 := h.2.2.2.2.2.2.2.2.2
  have h0 := h
  obtain ⟨g1, g2, g3, g4, g5, g6, g7, g8, g9, -⟩ := h
  have e1 : f_X1_get 28 (w 39 13) w = some (pf E g, w) := by
    rw [hg]
    have := f_get (i := 28) (n := 50) (w := w) (x := g) rfl (by omega) (by omega)
    rw [g2] at this
    exact this
  have e2 : f_X1_get 26 (w 39 13) w = some (pk E g, w) := by
    rw [hg]
    have := f_get (i := 26) (n := 50) (w := w) (x := g) rfl (by omega) (by omega)
    rw [g1] at this
    exact this
  refine Ev.toEq ?_
  unfold f_X2_endOfSingle
  refine Ev.obe e1 ?_
  refine Ev.obe e2 ?_
  rw [hc, h10]
  unfold PK1 at hp
  generalize pf E g = x at *
  generalize pk E g = k at *
  generalize hTT : eT E x.toNat = T at *
  generalize hWW : V x.toNat = W at *
  have rs : ∀ y : Int, -1 ≤ gt (eS E) y ∧ gt (eS E) y < 200000 := gt_rng hS
  rcases hk with e | e | e | e | e | e | e | e | e | e | e | e | e
  · -- l
    rw [e]
    refine Ev.neg (by first | (simp (disch := omega) only [wr_eq] <;> omega) | omega) ?_; refine Ev.neg (by first | (simp (disch := omega) only [wr_eq] <;> omega) | omega) ?_; refine Ev.pos (by first | (simp (disch := omega) only [wr_eq] <;> omega) | omega) ?_
    have hh := f_hasThere RI_13 RI_4 g7 g5 (a := 0) (b := x) (y := c) (by omega) (by omega) (by omega) (by rw [Int.toNat_zero, g6]; exact hS) (by rw [g4, hTT]; exact hT)
    rw [Int.toNat_zero, g6, g4, hTT] at hh
    refine Ev.obe hh ?_
    have es : single 108 x T W (eS E) c = if hasAt (eS E) T c = true then c + T.length else -1 := by simp [single]
    rw [es]
    by_cases q : hasAt (eS E) T c = true
    · rw [if_pos q, if_pos q]
      refine Ev.neg (by decide) ?_
      have lt := ln (z := 6) rfl g5 x.toNat
      rw [g4, hTT] at lt
      have hle : f_X6_length 4 x w = some (w 6 x.toNat, w) := f_length RI_4 (by omega)
      refine Ev.obe hle (Ev.ret ⟨?_, rfl⟩)
      rw [hc, lt.1]
    · rw [if_neg q, if_neg q]
      exact Ev.pos rfl (Ev.ret ⟨rfl, rfl⟩)
  · -- n
    rw [e]
    refine Ev.neg (by first | (simp (disch := omega) only [wr_eq] <;> omega) | omega) ?_; refine Ev.neg (by first | (simp (disch := omega) only [wr_eq] <;> omega) | omega) ?_; refine Ev.neg (by first | (simp (disch := omega) only [wr_eq] <;> omega) | omega) ?_; refine Ev.neg (by first | (simp (disch := omega) only [wr_eq] <;> omega) | omega) ?_; refine Ev.pos (by first | (simp (disch := omega) only [wr_eq] <;> omega) | omega) ?_
    have es : single 110 x T W (eS E) c = if c < (eS E).length ∧ gt (eS E) c ∈ T then c + 1 else -1 := by simp [single]
    rw [es]
    by_cases q : c < (eS E).length
    · refine Ev.pos (by first | (simp (disch := omega) only [wr_eq] <;> omega) | omega) ?_
      refine Ev.obe (h0.sign (by omega)) ?_
      refine Ev.obe (h0.cont hE (a := x) (by omega) (rs c)) ?_
      rw [hTT, hc]
      by_cases d : gt (eS E) c ∈ T
      · have hq : c < (eS E).length ∧ gt (eS E) c ∈ T := ⟨q, d⟩
        rw [if_pos d, if_pos hq]
        exact Ev.neg (by decide) (Ev.ret ⟨rfl, rfl⟩)
      · have hq : ¬ (c < (eS E).length ∧ gt (eS E) c ∈ T) := fun z => d z.2
        rw [if_neg d, if_neg hq]
        exact Ev.pos rfl (Ev.ret ⟨rfl, rfl⟩)
    · have hq : ¬ (c < (eS E).length ∧ gt (eS E) c ∈ T) := fun z => q z.1
      rw [if_neg hq]
      refine Ev.neg (by first | (simp (disch := omega) only [wr_eq] <;> omega) | omega) ?_
      exact Ev.ret ⟨rfl, rfl⟩
  · -- o
    rw [e]
    refine Ev.neg (by first | (simp (disch := omega) only [wr_eq] <;> omega) | omega) ?_; refine Ev.neg (by first | (simp (disch := omega) only [wr_eq] <;> omega) | omega) ?_; refine Ev.neg (by first | (simp (disch := omega) only [wr_eq] <;> omega) | omega) ?_; refine Ev.neg (by first | (simp (disch := omega) only [wr_eq] <;> omega) | omega) ?_; refine Ev.neg (by first | (simp (disch := omega) only [wr_eq] <;> omega) | omega) ?_; refine Ev.pos (by first | (simp (disch := omega) only [wr_eq] <;> omega) | omega) ?_
    have es : single 111 x T W (eS E) c = if c < (eS E).length ∧ ¬ gt (eS E) c ∈ T then c + 1 else -1 := by simp [single]
    rw [es]
    by_cases q : c < (eS E).length
    · refine Ev.pos (by first | (simp (disch := omega) only [wr_eq] <;> omega) | omega) ?_
      refine Ev.obe (h0.sign (by omega)) ?_
      refine Ev.obe (h0.cont hE (a := x) (by omega) (rs c)) ?_
      rw [hTT, hc]
      by_cases d : gt (eS E) c ∈ T
      · have hq : ¬ (c < (eS E).length ∧ ¬ gt (eS E) c ∈ T) := fun z => z.2 d
        rw [if_pos d, if_neg hq]
        exact Ev.neg (by decide) (Ev.ret ⟨rfl, rfl⟩)
      · have hq : c < (eS E).length ∧ ¬ gt (eS E) c ∈ T := ⟨q, d⟩
        rw [if_neg d, if_pos hq]
        exact Ev.pos rfl (Ev.ret ⟨rfl, rfl⟩)
    · have hq : ¬ (c < (eS E).length ∧ ¬ gt (eS E) c ∈ T) := fun z => q z.1
      rw [if_neg hq]
      refine Ev.neg (by first | (simp (disch := omega) only [wr_eq] <;> omega) | omega) ?_
      exact Ev.ret ⟨rfl, rfl⟩
  · -- s
    rw [e]
    refine Ev.neg (by first | (simp (disch := omega) only [wr_eq] <;> omega) | omega) ?_; refine Ev.neg (by first | (simp (disch := omega) only [wr_eq] <;> omega) | omega) ?_; refine Ev.neg (by first | (simp (disch := omega) only [wr_eq] <;> omega) | omega) ?_; refine Ev.neg (by first | (simp (disch := omega) only [wr_eq] <;> omega) | omega) ?_; refine Ev.neg (by first | (simp (disch := omega) only [wr_eq] <;> omega) | omega) ?_; refine Ev.neg (by first | (simp (disch := omega) only [wr_eq] <;> omega) | omega) ?_; refine Ev.neg (by first | (simp (disch := omega) only [wr_eq] <;> omega) | omega) ?_; refine Ev.neg (by first | (simp (disch := omega) only [wr_eq] <;> omega) | omega) ?_; refine Ev.neg (by first | (simp (disch := omega) only [wr_eq] <;> omega) | omega) ?_; refine Ev.pos (by first | (simp (disch := omega) only [wr_eq] <;> omega) | omega) ?_
    have es : single 115 x T W (eS E) c = if c < spanE (eS E) T true 61 c then spanE (eS E) T true 61 c else -1 := by simp [single]
    rw [es]
    unfold f_X2_endOfSpan
    rw [hc, c_span hE h0 (a := x) (by omega) 61 FU c (by unfold FU; omega) (by omega) (by omega) (by omega), hTT]
    have sr := spanE_rng (eS E) T true 61 c hc0.2
    unfold f_X2_endOfSpan_39
    rw [hc]
    by_cases q : c < spanE (eS E) T true 61 c
    · rw [if_pos (show wr c < wr (spanE (eS E) T true 61 c) from (by first | (simp (disch := omega) only [wr_eq] <;> omega) | omega)), if_pos q, ob_some]
      exact Ev.ret ⟨rfl, rfl⟩
    · rw [if_neg (show ¬ wr c < wr (spanE (eS E) T true 61 c) from (by first | (simp (disch := omega) only [wr_eq] <;> omega) | omega)), if_neg q, ob_some]
      exact Ev.ret ⟨rfl, rfl⟩
  · -- k
    rw [e]
    refine Ev.neg (by first | (simp (disch := omega) only [wr_eq] <;> omega) | omega) ?_; refine Ev.pos (by first | (simp (disch := omega) only [wr_eq] <;> omega) | omega) ?_
    have es : single 107 x T W (eS E) c = if spanE (eS E) T false 61 c < (eS E).length then spanE (eS E) T false 61 c else -1 := by simp [single]
    rw [es]
    unfold f_X2_endOfBreak
    rw [hc, c_break hE h0 (a := x) (by omega) 61 FU c (by unfold FU; omega) (by omega) (by omega) (by omega), hTT]
    have sr := spanE_rng (eS E) T false 61 c hc0.2
    unfold f_X2_endOfBreak_39
    rw [h10]
    by_cases q : spanE (eS E) T false 61 c < (eS E).length
    · rw [if_pos (show wr (spanE (eS E) T false 61 c) < wr ((eS E).length) from (by first | (simp (disch := omega) only [wr_eq] <;> omega) | omega)), if_pos q, ob_some]
      exact Ev.ret ⟨rfl, rfl⟩
    · rw [if_neg (show ¬ wr (spanE (eS E) T false 61 c) < wr ((eS E).length) from (by first | (simp (disch := omega) only [wr_eq] <;> omega) | omega)), if_neg q, ob_some]
      exact Ev.ret ⟨rfl, rfl⟩
  · -- v
    rw [e]
    refine Ev.neg (by first | (simp (disch := omega) only [wr_eq] <;> omega) | omega) ?_; refine Ev.neg (by first | (simp (disch := omega) only [wr_eq] <;> omega) | omega) ?_; refine Ev.neg (by first | (simp (disch := omega) only [wr_eq] <;> omega) | omega) ?_; refine Ev.neg (by first | (simp (disch := omega) only [wr_eq] <;> omega) | omega) ?_; refine Ev.neg (by first | (simp (disch := omega) only [wr_eq] <;> omega) | omega) ?_; refine Ev.neg (by first | (simp (disch := omega) only [wr_eq] <;> omega) | omega) ?_; refine Ev.neg (by first | (simp (disch := omega) only [wr_eq] <;> omega) | omega) ?_; refine Ev.neg (by first | (simp (disch := omega) only [wr_eq] <;> omega) | omega) ?_; refine Ev.neg (by first | (simp (disch := omega) only [wr_eq] <;> omega) | omega) ?_; refine Ev.neg (by first | (simp (disch := omega) only [wr_eq] <;> omega) | omega) ?_; refine Ev.neg (by first | (simp (disch := omega) only [wr_eq] <;> omega) | omega) ?_; refine Ev.pos (by first | (simp (disch := omega) only [wr_eq] <;> omega) | omega) ?_
    have hh := f_hasThere RI_13 RI_7 g7 hV.2 (a := 0) (b := x) (y := c) (by omega) (by omega) (by omega) (by rw [Int.toNat_zero, g6]; exact hS) (by rw [hV.1, hWW]; exact hW.1)
    rw [Int.toNat_zero, g6, hV.1, hWW] at hh
    refine Ev.obe hh ?_
    have es : single 118 x T W (eS E) c = if hasAt (eS E) W c = true then c + W.length else -1 := by simp [single]
    rw [es]
    by_cases q : hasAt (eS E) W c = true
    · rw [if_pos q, if_pos q]
      refine Ev.neg (by decide) ?_
      have lt := ln (z := 9) rfl hV.2 x.toNat
      rw [hV.1, hWW] at lt
      have hle : f_X6_length 7 x w = some (w 9 x.toNat, w) := f_length RI_7 (by omega)
      refine Ev.obe hle (Ev.ret ⟨?_, rfl⟩)
      rw [hc, lt.1]
    · rw [if_neg q, if_neg q]
      exact Ev.pos rfl (Ev.ret ⟨rfl, rfl⟩)
  · -- #
    rw [e]
    refine Ev.pos (by first | (simp (disch := omega) only [wr_eq] <;> omega) | omega) ?_
    have es : single 35 x T W (eS E) c = if c + x ≤ (eS E).length then c + x else -1 := by simp [single]
    rw [es]
    by_cases q : c + x ≤ (eS E).length
    · rw [if_pos q]
      refine Ev.neg (by first | (simp (disch := omega) only [wr_eq] <;> omega) | omega) ?_
      exact Ev.ret ⟨rfl, rfl⟩
    · rw [if_neg q]
      refine Ev.pos (by first | (simp (disch := omega) only [wr_eq] <;> omega) | omega) ?_
      exact Ev.ret ⟨rfl, rfl⟩
  · -- t
    rw [e]
    refine Ev.neg (by first | (simp (disch := omega) only [wr_eq] <;> omega) | omega) ?_; refine Ev.neg (by first | (simp (disch := omega) only [wr_eq] <;> omega) | omega) ?_; refine Ev.neg (by first | (simp (disch := omega) only [wr_eq] <;> omega) | omega) ?_; refine Ev.neg (by first | (simp (disch := omega) only [wr_eq] <;> omega) | omega) ?_; refine Ev.neg (by first | (simp (disch := omega) only [wr_eq] <;> omega) | omega) ?_; refine Ev.neg (by first | (simp (disch := omega) only [wr_eq] <;> omega) | omega) ?_; refine Ev.neg (by first | (simp (disch := omega) only [wr_eq] <;> omega) | omega) ?_; refine Ev.neg (by first | (simp (disch := omega) only [wr_eq] <;> omega) | omega) ?_; refine Ev.neg (by first | (simp (disch := omega) only [wr_eq] <;> omega) | omega) ?_; refine Ev.neg (by first | (simp (disch := omega) only [wr_eq] <;> omega) | omega) ?_; refine Ev.pos (by first | (simp (disch := omega) only [wr_eq] <;> omega) | omega) ?_
    have es : single 116 x T W (eS E) c = if c ≤ x ∧ x ≤ (eS E).length then x else -1 := by simp [single]
    rw [es]
    by_cases q1 : c ≤ x
    · refine Ev.neg (by first | (simp (disch := omega) only [wr_eq] <;> omega) | omega) ?_
      by_cases q2 : x ≤ (eS E).length
      · have hq : c ≤ x ∧ x ≤ (eS E).length := ⟨q1, q2⟩
        rw [if_pos hq]
        refine Ev.neg (by first | (simp (disch := omega) only [wr_eq] <;> omega) | omega) ?_
        exact Ev.ret ⟨rfl, rfl⟩
      · have hq : ¬ (c ≤ x ∧ x ≤ (eS E).length) := fun z => q2 z.2
        rw [if_neg hq]
        refine Ev.pos (by first | (simp (disch := omega) only [wr_eq] <;> omega) | omega) ?_
        exact Ev.ret ⟨rfl, rfl⟩
    · have hq : ¬ (c ≤ x ∧ x ≤ (eS E).length) := fun z => q1 z.1
      rw [if_neg hq]
      refine Ev.pos (by first | (simp (disch := omega) only [wr_eq] <;> omega) | omega) ?_
      exact Ev.ret ⟨rfl, rfl⟩
  · -- r
    rw [e]
    refine Ev.neg (by first | (simp (disch := omega) only [wr_eq] <;> omega) | omega) ?_; refine Ev.neg (by first | (simp (disch := omega) only [wr_eq] <;> omega) | omega) ?_; refine Ev.neg (by first | (simp (disch := omega) only [wr_eq] <;> omega) | omega) ?_; refine Ev.neg (by first | (simp (disch := omega) only [wr_eq] <;> omega) | omega) ?_; refine Ev.neg (by first | (simp (disch := omega) only [wr_eq] <;> omega) | omega) ?_; refine Ev.neg (by first | (simp (disch := omega) only [wr_eq] <;> omega) | omega) ?_; refine Ev.neg (by first | (simp (disch := omega) only [wr_eq] <;> omega) | omega) ?_; refine Ev.neg (by first | (simp (disch := omega) only [wr_eq] <;> omega) | omega) ?_; refine Ev.pos (by first | (simp (disch := omega) only [wr_eq] <;> omega) | omega) ?_
    have es : single 114 x T W (eS E) c = if c ≤ (eS E).length - x then (eS E).length - x else -1 := by simp [single]
    rw [es]
    by_cases q : c ≤ (eS E).length - x
    · rw [if_pos q]
      refine Ev.neg (by first | (simp (disch := omega) only [wr_eq] <;> omega) | omega) ?_
      exact Ev.ret ⟨rfl, rfl⟩
    · rw [if_neg q]
      refine Ev.pos (by first | (simp (disch := omega) only [wr_eq] <;> omega) | omega) ?_
      exact Ev.ret ⟨rfl, rfl⟩
  · -- p
    rw [e]
    refine Ev.neg (by first | (simp (disch := omega) only [wr_eq] <;> omega) | omega) ?_; refine Ev.neg (by first | (simp (disch := omega) only [wr_eq] <;> omega) | omega) ?_; refine Ev.neg (by first | (simp (disch := omega) only [wr_eq] <;> omega) | omega) ?_; refine Ev.neg (by first | (simp (disch := omega) only [wr_eq] <;> omega) | omega) ?_; refine Ev.neg (by first | (simp (disch := omega) only [wr_eq] <;> omega) | omega) ?_; refine Ev.neg (by first | (simp (disch := omega) only [wr_eq] <;> omega) | omega) ?_; refine Ev.pos (by first | (simp (disch := omega) only [wr_eq] <;> omega) | omega) ?_
    have es : single 112 x T W (eS E) c = if c = x then c else -1 := by simp [single]
    rw [es]
    by_cases q : c = x
    · rw [if_pos q]
      refine Ev.pos (by first | (simp (disch := omega) only [wr_eq] <;> omega) | omega) ?_
      exact Ev.ret ⟨rfl, rfl⟩
    · rw [if_neg q]
      refine Ev.neg (by first | (simp (disch := omega) only [wr_eq] <;> omega) | omega) ?_
      exact Ev.ret ⟨rfl, rfl⟩
  · -- q
    rw [e]
    refine Ev.neg (by first | (simp (disch := omega) only [wr_eq] <;> omega) | omega) ?_; refine Ev.neg (by first | (simp (disch := omega) only [wr_eq] <;> omega) | omega) ?_; refine Ev.neg (by first | (simp (disch := omega) only [wr_eq] <;> omega) | omega) ?_; refine Ev.neg (by first | (simp (disch := omega) only [wr_eq] <;> omega) | omega) ?_; refine Ev.neg (by first | (simp (disch := omega) only [wr_eq] <;> omega) | omega) ?_; refine Ev.neg (by first | (simp (disch := omega) only [wr_eq] <;> omega) | omega) ?_; refine Ev.neg (by first | (simp (disch := omega) only [wr_eq] <;> omega) | omega) ?_; refine Ev.pos (by first | (simp (disch := omega) only [wr_eq] <;> omega) | omega) ?_
    have es : single 113 x T W (eS E) c = if c = (eS E).length - x then c else -1 := by simp [single]
    rw [es]
    by_cases q : c = (eS E).length - x
    · rw [if_pos q]
      refine Ev.pos (by first | (simp (disch := omega) only [wr_eq] <;> omega) | omega) ?_
      exact Ev.ret ⟨rfl, rfl⟩
    · rw [if_neg q]
      refine Ev.neg (by first | (simp (disch := omega) only [wr_eq] <;> omega) | omega) ?_
      exact Ev.ret ⟨rfl, rfl⟩
  · -- m
    rw [e]
    refine Ev.neg (by first | (simp (disch := omega) only [wr_eq] <;> omega) | omega) ?_; refine Ev.neg (by first | (simp (disch := omega) only [wr_eq] <;> omega) | omega) ?_; refine Ev.neg (by first | (simp (disch := omega) only [wr_eq] <;> omega) | omega) ?_; refine Ev.pos (by first | (simp (disch := omega) only [wr_eq] <;> omega) | omega) ?_
    have es : single 109 x T W (eS E) c = (eS E).length := by simp [single]
    rw [es]
    exact Ev.ret ⟨rfl, rfl⟩
  · -- i
    rw [e]
    refine Ev.neg (by first | (simp (disch := omega) only [wr_eq] <;> omega) | omega) ?_; refine Ev.neg (by first | (simp (disch := omega) only [wr_eq] <;> omega) | omega) ?_; refine Ev.neg (by first | (simp (disch := omega) only [wr_eq] <;> omega) | omega) ?_; refine Ev.neg (by first | (simp (disch := omega) only [wr_eq] <;> omega) | omega) ?_; refine Ev.neg (by first | (simp (disch := omega) only [wr_eq] <;> omega) | omega) ?_; refine Ev.neg (by first | (simp (disch := omega) only [wr_eq] <;> omega) | omega) ?_; refine Ev.neg (by first | (simp (disch := omega) only [wr_eq] <;> omega) | omega) ?_; refine Ev.neg (by first | (simp (disch := omega) only [wr_eq] <;> omega) | omega) ?_; refine Ev.neg (by first | (simp (disch := omega) only [wr_eq] <;> omega) | omega) ?_; refine Ev.neg (by first | (simp (disch := omega) only [wr_eq] <;> omega) | omega) ?_; refine Ev.neg (by first | (simp (disch := omega) only [wr_eq] <;> omega) | omega) ?_; refine Ev.neg (by first | (simp (disch := omega) only [wr_eq] <;> omega) | omega) ?_
    have es : single 105 x T W (eS E) c = -1 := by simp [single]
    rw [es]
    exact Ev.ret ⟨rfl, rfl⟩
theorem c_bal {E : EV} {w : WS} (hE : EOK E) (h : EC E w) (n : Nat) : ∀ (m : Nat) (o p : Int), n < m → 0 ≤ p → p ≤ (eS E).length → (eS E).length - p ≤ n → 0 ≤ o → o ≤ p → f_X2_balance_7 m o p w = if bal (eS E) n o p = -1 then some (9, w) else some (7, up w 39 14 (bal (eS E) n o p)) := by
  have h10 := h.2.2.2.2.2.2.2.2.2
  have hS := hE.2.2.2.2.2.1
  have hl := hE.2.2.2.2.2.2.1
  induction n with
  | zero =>
    intro m o p h1 h2 h3 h4 h5 h6
    obtain ⟨m, rfl⟩ : ∃ k, m = k + 1 := ⟨m - 1, by omega⟩
    rw [f_X2_balance_7_s, h10]
    refine (if_neg (by first | (simp (disch := omega) only [wr_eq] <;> omega) | omega)).trans ?_
    exact (if_pos rfl).symm
  | succ n ih =>
    intro m o p h1 h2 h3 h4 h5 h6
    obtain ⟨m, rfl⟩ : ∃ k, m = k + 1 := ⟨m - 1, by omega⟩
    rw [f_X2_balance_7_s, h10]
    unfold bal
    by_cases c : p < (eS E).length
    · refine (if_pos (by first | (simp (disch := omega) only [wr_eq] <;> omega) | omega)).trans ?_
      have r1 := gt_rng hS p
      rw [h.sign (by omega), ob_some, if_pos c]
      have tail : ∀ d : Int, par (gt (eS E) p) = d → (d = 1 ∨ d = -1 ∨ d = 0) → f_X2_balance_47 (fun x0 x1 x => f_X2_balance_7 m x0 x1 x) p d o w = if (if o + par (gt (eS E) p) < 0 then -1 else if o + par (gt (eS E) p) = 0 then p + 1 else bal (eS E) n (o + par (gt (eS E) p)) (p + 1)) = -1 then some (9, w) else some (7, up w 39 14 (if o + par (gt (eS E) p) < 0 then -1 else if o + par (gt (eS E) p) = 0 then p + 1 else bal (eS E) n (o + par (gt (eS E) p)) (p + 1))) := by
        intro d hd hd1
        rw [hd]
        unfold f_X2_balance_47
        by_cases q1 : o + d < 0
        · rw [if_pos (show wr (o + d) < 0 from (by first | (simp (disch := omega) only [wr_eq] <;> omega) | omega)), if_pos q1, if_pos rfl]
        · rw [if_neg (show ¬ wr (o + d) < 0 from (by first | (simp (disch := omega) only [wr_eq] <;> omega) | omega)), if_neg q1]
          by_cases q2 : o + d = 0
          · rw [if_pos (show wr (o + d) = 0 from (by first | (simp (disch := omega) only [wr_eq] <;> omega) | omega)), if_pos q2, if_neg (by omega)]
          · rw [if_neg (show ¬ wr (o + d) = 0 from (by first | (simp (disch := omega) only [wr_eq] <;> omega) | omega)), if_neg q2]
            exact ih m (o + d) (p + 1) (by omega) (by omega) (by omega) (by omega) (by omega) (by omega)
      by_cases q1 : gt (eS E) p = 40
      · rw [if_pos (show wr (gt (eS E) p) = wr 40 from by rw [q1])]
        exact tail 1 (by unfold par; rw [if_pos q1]) (Or.inl rfl)
      · rw [if_neg (show ¬ wr (gt (eS E) p) = wr 40 from (by first | (simp (disch := omega) only [wr_eq] <;> omega) | omega))]
        by_cases q2 : gt (eS E) p = 41
        · rw [if_pos (show wr (gt (eS E) p) = wr 41 from by rw [q2])]
          exact tail (-1) (by unfold par; rw [if_neg q1, if_pos q2]) (Or.inr (Or.inl rfl))
        · rw [if_neg (show ¬ wr (gt (eS E) p) = wr 41 from (by first | (simp (disch := omega) only [wr_eq] <;> omega) | omega))]
          exact tail 0 (by unfold par; rw [if_neg q1, if_neg q2]) (Or.inr (Or.inr rfl))
    · refine (if_neg (by first | (simp (disch := omega) only [wr_eq] <;> omega) | omega)).trans ?_
      rw [if_neg c, if_pos rfl]
