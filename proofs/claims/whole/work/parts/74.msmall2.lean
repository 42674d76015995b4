theorem m_takes {E : EV} {w : WS} (hE : EOK E) (h : EM E w) {V : Nat → List Int} (hV : VM w V) (vV : VOK V) {g c : Int} (hc : w 85 39 = c) (hg0 : 0 ≤ g ∧ g < eN E) (hc0 : 0 ≤ c ∧ c ≤ (eS E).length) (hk : pk E g = 108 ∨ pk E g = 110 ∨ pk E g = 111 ∨ pk E g = 115 ∨ pk E g = 107 ∨ pk E g = 118 ∨ pk E g = 35 ∨ pk E g = 116 ∨ pk E g = 114 ∨ pk E g = 112 ∨ pk E g = 113 ∨ pk E g = 109 ∨ pk E g = 105) : f_X9_takes (pk E g) (pf E g) w = some (if single (pk E g) (pf E g) (eT E (pf E g).toNat) (V (pf E g).toNat) (eS E) c = -1 then -1 else single (pk E g) (pf E g) (eT E (pf E g).toNat) (V (pf E g).toNat) (eS E) c - c, w) := by
  have hp := hE.1 g hg0.1 hg0.2
  have hl := hE.2.2.2.2.2.2.1
  have hS := hE.2.2.2.2.2.1
  have h20 := h.2.2.2.2.2.2.1
  have hrg := single_rng (k := pk E g) (x := pf E g) (c := c) (T := eT E (pf E g).toNat) (W := V (pf E g).toNat) (S := eS E) (hE.2.2.2.1 _) (vV _).1 (by intro e; unfold PK1 at hp; omega) (by intro e; unfold PK1 at hp; omega) hc0.2
  refine Ev.toEq ?_
  unfold f_X9_takes
  rw [hc, h20]
  unfold PK1 at hp
  generalize pf E g = x at *
  generalize pk E g = k at *
  have rs : ∀ y : Int, -1 ≤ gt (eS E) y ∧ gt (eS E) y < 200000 := gt_rng hS
  have fin : ∀ (p : Prop) (d : Decidable p) (e : Int), (p → e ≠ -1) → (if (@ite _ p d e (-1)) = -1 then -1 else (@ite _ p d e (-1)) - c) = @ite _ p d (e - c) (-1) := by
    intro p d e hne
    by_cases hp : p
    · rw [if_pos hp, if_pos hp, if_neg (hne hp)]
    · rw [if_neg hp, if_neg hp, if_pos rfl]
  rcases hk with e | e | e | e | e | e | e | e | e | e | e | e | e
  · rw [e]
    refine Ev.neg (by first | (simp (disch := omega) only [wr_eq] <;> omega) | omega) ?_; refine Ev.neg (by first | (simp (disch := omega) only [wr_eq] <;> omega) | omega) ?_; refine Ev.pos (by first | (simp (disch := omega) only [wr_eq] <;> omega) | omega) ?_
    have es : single 108 x (eT E x.toNat) (V x.toNat) (eS E) c = if hasAt (eS E) (eT E x.toNat) c = true then c + (eT E x.toNat).length else -1 := by simp [single]
    rw [es, fin _ _ _ (fun _ => by omega)]
    refine Ev.obe (m_textTakes hE h (a := x) (by omega) hc hc0) (Ev.ret ⟨?_, rfl⟩)
    congr 1
    omega
  · rw [e]
    refine Ev.neg (by first | (simp (disch := omega) only [wr_eq] <;> omega) | omega) ?_; refine Ev.neg (by first | (simp (disch := omega) only [wr_eq] <;> omega) | omega) ?_; refine Ev.neg (by first | (simp (disch := omega) only [wr_eq] <;> omega) | omega) ?_; refine Ev.neg (by first | (simp (disch := omega) only [wr_eq] <;> omega) | omega) ?_; refine Ev.pos (by first | (simp (disch := omega) only [wr_eq] <;> omega) | omega) ?_
    have es : single 110 x (eT E x.toNat) (V x.toNat) (eS E) c = if c < (eS E).length ∧ gt (eS E) c ∈ (eT E x.toNat) then c + 1 else -1 := by simp [single]
    rw [es, fin _ _ _ (fun _ => by omega)]
    by_cases q : c < (eS E).length
    · refine Ev.pos (by first | (simp (disch := omega) only [wr_eq] <;> omega) | omega) ?_; refine Ev.pos (by first | (simp (disch := omega) only [wr_eq] <;> omega) | omega) ?_
      rw [wr_eq (a := c) (by omega), h.sign (by omega)]
      refine Ev.obe (m_isIn hE h (a := x) (by omega) (rs c)) ?_
      by_cases d : gt (eS E) c ∈ eT E x.toNat
      · have hq : c < (eS E).length ∧ gt (eS E) c ∈ (eT E x.toNat) := ⟨q, d⟩
        rw [if_pos d, if_pos hq]
        exact Ev.neg (by decide) (Ev.ret ⟨by omega, rfl⟩)
      · have hq : ¬ (c < (eS E).length ∧ gt (eS E) c ∈ (eT E x.toNat)) := fun z => d z.2
        rw [if_neg d, if_neg hq]
        exact Ev.pos rfl (Ev.ret ⟨rfl, rfl⟩)
    · have hq : ¬ (c < (eS E).length ∧ gt (eS E) c ∈ (eT E x.toNat)) := fun z => q z.1
      rw [if_neg hq]
      refine Ev.neg (by first | (simp (disch := omega) only [wr_eq] <;> omega) | omega) ?_
      exact Ev.ret ⟨rfl, rfl⟩
  · rw [e]
    refine Ev.neg (by first | (simp (disch := omega) only [wr_eq] <;> omega) | omega) ?_; refine Ev.neg (by first | (simp (disch := omega) only [wr_eq] <;> omega) | omega) ?_; refine Ev.neg (by first | (simp (disch := omega) only [wr_eq] <;> omega) | omega) ?_; refine Ev.neg (by first | (simp (disch := omega) only [wr_eq] <;> omega) | omega) ?_; refine Ev.neg (by first | (simp (disch := omega) only [wr_eq] <;> omega) | omega) ?_; refine Ev.pos (by first | (simp (disch := omega) only [wr_eq] <;> omega) | omega) ?_
    have es : single 111 x (eT E x.toNat) (V x.toNat) (eS E) c = if c < (eS E).length ∧ ¬ gt (eS E) c ∈ (eT E x.toNat) then c + 1 else -1 := by simp [single]
    rw [es, fin _ _ _ (fun _ => by omega)]
    by_cases q : c < (eS E).length
    · refine Ev.pos (by first | (simp (disch := omega) only [wr_eq] <;> omega) | omega) ?_; refine Ev.pos (by first | (simp (disch := omega) only [wr_eq] <;> omega) | omega) ?_
      rw [wr_eq (a := c) (by omega), h.sign (by omega)]
      refine Ev.obe (m_isIn hE h (a := x) (by omega) (rs c)) ?_
      by_cases d : gt (eS E) c ∈ eT E x.toNat
      · have hq : ¬ (c < (eS E).length ∧ ¬ gt (eS E) c ∈ (eT E x.toNat)) := fun z => z.2 d
        rw [if_pos d, if_neg hq]
        exact Ev.neg (by decide) (Ev.ret ⟨rfl, rfl⟩)
      · have hq : c < (eS E).length ∧ ¬ gt (eS E) c ∈ (eT E x.toNat) := ⟨q, d⟩
        rw [if_neg d, if_pos hq]
        exact Ev.pos rfl (Ev.ret ⟨by omega, rfl⟩)
    · have hq : ¬ (c < (eS E).length ∧ ¬ gt (eS E) c ∈ (eT E x.toNat)) := fun z => q z.1
      rw [if_neg hq]
      refine Ev.neg (by first | (simp (disch := omega) only [wr_eq] <;> omega) | omega) ?_
      exact Ev.ret ⟨rfl, rfl⟩
  · rw [e]
    refine Ev.neg (by first | (simp (disch := omega) only [wr_eq] <;> omega) | omega) ?_; refine Ev.neg (by first | (simp (disch := omega) only [wr_eq] <;> omega) | omega) ?_; refine Ev.neg (by first | (simp (disch := omega) only [wr_eq] <;> omega) | omega) ?_; refine Ev.neg (by first | (simp (disch := omega) only [wr_eq] <;> omega) | omega) ?_; refine Ev.neg (by first | (simp (disch := omega) only [wr_eq] <;> omega) | omega) ?_; refine Ev.neg (by first | (simp (disch := omega) only [wr_eq] <;> omega) | omega) ?_; refine Ev.neg (by first | (simp (disch := omega) only [wr_eq] <;> omega) | omega) ?_; refine Ev.neg (by first | (simp (disch := omega) only [wr_eq] <;> omega) | omega) ?_; refine Ev.neg (by first | (simp (disch := omega) only [wr_eq] <;> omega) | omega) ?_; refine Ev.pos (by first | (simp (disch := omega) only [wr_eq] <;> omega) | omega) ?_
    have sr := spanE_rng (eS E) (eT E x.toNat) true 61 c hc0.2
    have es : single 115 x (eT E x.toNat) (V x.toNat) (eS E) c = if c < spanE (eS E) (eT E x.toNat) true 61 c then spanE (eS E) (eT E x.toNat) true 61 c else -1 := by simp [single]
    rw [es, fin _ _ _ (fun _ => by omega)]
    have hs := m_span hE h (a := x) (by omega) hc hc0.1 61 FU 0 (by unfold FU; omega) (by omega) (by omega) (by omega)
    rw [Int.add_zero] at hs
    rw [hs]
    unfold f_X9_takes_226
    by_cases q : c < spanE (eS E) (eT E x.toNat) true 61 c
    · rw [if_neg (show ¬ wr (spanE (eS E) (eT E x.toNat) true 61 c - c) = 0 from (by first | (simp (disch := omega) only [wr_eq] <;> omega) | omega)), if_pos q]
      exact Ev.ret ⟨rfl, rfl⟩
    · rw [if_pos (show wr (spanE (eS E) (eT E x.toNat) true 61 c - c) = 0 from (by first | (simp (disch := omega) only [wr_eq] <;> omega) | omega)), if_neg q]
      exact Ev.ret ⟨rfl, rfl⟩
  · rw [e]
    refine Ev.neg (by first | (simp (disch := omega) only [wr_eq] <;> omega) | omega) ?_; refine Ev.pos (by first | (simp (disch := omega) only [wr_eq] <;> omega) | omega) ?_
    have sr := spanE_rng (eS E) (eT E x.toNat) false 61 c hc0.2
    have es : single 107 x (eT E x.toNat) (V x.toNat) (eS E) c = if spanE (eS E) (eT E x.toNat) false 61 c < (eS E).length then spanE (eS E) (eT E x.toNat) false 61 c else -1 := by simp [single]
    rw [es, fin _ _ _ (fun _ => by omega)]
    have hs := m_break hE h (a := x) (by omega) hc hc0.1 61 FU 0 (by unfold FU; omega) (by omega) (by omega) (by omega)
    rw [Int.add_zero] at hs
    rw [hs]
    unfold f_X9_takes_274
    rw [hc, h20]
    by_cases q : spanE (eS E) (eT E x.toNat) false 61 c < (eS E).length
    · rw [if_neg (show ¬ wr (c + (spanE (eS E) (eT E x.toNat) false 61 c - c)) = wr ((eS E).length) from (by first | (simp (disch := omega) only [wr_eq] <;> omega) | omega)), if_pos q]
      exact Ev.ret ⟨rfl, rfl⟩
    · rw [if_pos (show wr (c + (spanE (eS E) (eT E x.toNat) false 61 c - c)) = wr ((eS E).length) from (by first | (simp (disch := omega) only [wr_eq] <;> omega) | omega)), if_neg q]
      exact Ev.ret ⟨rfl, rfl⟩
  · rw [e]
    refine Ev.neg (by first | (simp (disch := omega) only [wr_eq] <;> omega) | omega) ?_; refine Ev.neg (by first | (simp (disch := omega) only [wr_eq] <;> omega) | omega) ?_; refine Ev.neg (by first | (simp (disch := omega) only [wr_eq] <;> omega) | omega) ?_; refine Ev.neg (by first | (simp (disch := omega) only [wr_eq] <;> omega) | omega) ?_; refine Ev.neg (by first | (simp (disch := omega) only [wr_eq] <;> omega) | omega) ?_; refine Ev.neg (by first | (simp (disch := omega) only [wr_eq] <;> omega) | omega) ?_; refine Ev.neg (by first | (simp (disch := omega) only [wr_eq] <;> omega) | omega) ?_; refine Ev.neg (by first | (simp (disch := omega) only [wr_eq] <;> omega) | omega) ?_; refine Ev.neg (by first | (simp (disch := omega) only [wr_eq] <;> omega) | omega) ?_; refine Ev.neg (by first | (simp (disch := omega) only [wr_eq] <;> omega) | omega) ?_; refine Ev.neg (by first | (simp (disch := omega) only [wr_eq] <;> omega) | omega) ?_; refine Ev.pos (by first | (simp (disch := omega) only [wr_eq] <;> omega) | omega) ?_
    have es : single 118 x (eT E x.toNat) (V x.toNat) (eS E) c = if hasAt (eS E) (V x.toNat) c = true then c + (V x.toNat).length else -1 := by simp [single]
    rw [es, fin _ _ _ (fun _ => by omega)]
    refine Ev.obe (m_valueTakes hE h hV vV (a := x) (by omega) hc hc0) (Ev.ret ⟨?_, rfl⟩)
    congr 1
    omega
  · rw [e]
    refine Ev.pos (by first | (simp (disch := omega) only [wr_eq] <;> omega) | omega) ?_
    have es : single 35 x (eT E x.toNat) (V x.toNat) (eS E) c = if c + x ≤ (eS E).length then c + x else -1 := by simp [single]
    rw [es, fin _ _ _ (fun _ => by omega)]
    by_cases q : c + x ≤ (eS E).length
    · rw [if_pos q]
      refine Ev.neg (by first | (simp (disch := omega) only [wr_eq] <;> omega) | omega) ?_
      exact Ev.ret ⟨by omega, rfl⟩
    · rw [if_neg q]
      refine Ev.pos (by first | (simp (disch := omega) only [wr_eq] <;> omega) | omega) ?_
      exact Ev.ret ⟨rfl, rfl⟩
  · rw [e]
    refine Ev.neg (by first | (simp (disch := omega) only [wr_eq] <;> omega) | omega) ?_; refine Ev.neg (by first | (simp (disch := omega) only [wr_eq] <;> omega) | omega) ?_; refine Ev.neg (by first | (simp (disch := omega) only [wr_eq] <;> omega) | omega) ?_; refine Ev.neg (by first | (simp (disch := omega) only [wr_eq] <;> omega) | omega) ?_; refine Ev.neg (by first | (simp (disch := omega) only [wr_eq] <;> omega) | omega) ?_; refine Ev.neg (by first | (simp (disch := omega) only [wr_eq] <;> omega) | omega) ?_; refine Ev.neg (by first | (simp (disch := omega) only [wr_eq] <;> omega) | omega) ?_; refine Ev.neg (by first | (simp (disch := omega) only [wr_eq] <;> omega) | omega) ?_; refine Ev.neg (by first | (simp (disch := omega) only [wr_eq] <;> omega) | omega) ?_; refine Ev.neg (by first | (simp (disch := omega) only [wr_eq] <;> omega) | omega) ?_; refine Ev.pos (by first | (simp (disch := omega) only [wr_eq] <;> omega) | omega) ?_
    have es : single 116 x (eT E x.toNat) (V x.toNat) (eS E) c = if c ≤ x ∧ x ≤ (eS E).length then x else -1 := by simp [single]
    rw [es, fin _ _ _ (fun _ => by omega), wr_eq (a := x) (by omega), wr_eq (a := c) (by omega), wr_eq (a := ((eS E).length : Int)) (by omega)]
    refine Ev.obe (f_in (by omega) (by omega) (by omega)) ?_
    rw [hc]
    by_cases q : c ≤ x ∧ x ≤ (eS E).length
    · rw [if_pos q, if_pos q]
      exact Ev.neg (by decide) (Ev.ret ⟨rfl, rfl⟩)
    · rw [if_neg q, if_neg q]
      exact Ev.pos rfl (Ev.ret ⟨rfl, rfl⟩)
  · rw [e]
    refine Ev.neg (by first | (simp (disch := omega) only [wr_eq] <;> omega) | omega) ?_; refine Ev.neg (by first | (simp (disch := omega) only [wr_eq] <;> omega) | omega) ?_; refine Ev.neg (by first | (simp (disch := omega) only [wr_eq] <;> omega) | omega) ?_; refine Ev.neg (by first | (simp (disch := omega) only [wr_eq] <;> omega) | omega) ?_; refine Ev.neg (by first | (simp (disch := omega) only [wr_eq] <;> omega) | omega) ?_; refine Ev.neg (by first | (simp (disch := omega) only [wr_eq] <;> omega) | omega) ?_; refine Ev.neg (by first | (simp (disch := omega) only [wr_eq] <;> omega) | omega) ?_; refine Ev.neg (by first | (simp (disch := omega) only [wr_eq] <;> omega) | omega) ?_; refine Ev.pos (by first | (simp (disch := omega) only [wr_eq] <;> omega) | omega) ?_
    have es : single 114 x (eT E x.toNat) (V x.toNat) (eS E) c = if c ≤ (eS E).length - x then (eS E).length - x else -1 := by simp [single]
    rw [es, fin _ _ _ (fun _ => by omega)]
    by_cases q : c ≤ (eS E).length - x
    · rw [if_pos q]
      refine Ev.neg (by first | (simp (disch := omega) only [wr_eq] <;> omega) | omega) ?_
      exact Ev.ret ⟨rfl, rfl⟩
    · rw [if_neg q]
      refine Ev.pos (by first | (simp (disch := omega) only [wr_eq] <;> omega) | omega) ?_
      exact Ev.ret ⟨rfl, rfl⟩
  · rw [e]
    refine Ev.neg (by first | (simp (disch := omega) only [wr_eq] <;> omega) | omega) ?_; refine Ev.neg (by first | (simp (disch := omega) only [wr_eq] <;> omega) | omega) ?_; refine Ev.neg (by first | (simp (disch := omega) only [wr_eq] <;> omega) | omega) ?_; refine Ev.neg (by first | (simp (disch := omega) only [wr_eq] <;> omega) | omega) ?_; refine Ev.neg (by first | (simp (disch := omega) only [wr_eq] <;> omega) | omega) ?_; refine Ev.neg (by first | (simp (disch := omega) only [wr_eq] <;> omega) | omega) ?_; refine Ev.pos (by first | (simp (disch := omega) only [wr_eq] <;> omega) | omega) ?_
    have es : single 112 x (eT E x.toNat) (V x.toNat) (eS E) c = if c = x then c else -1 := by simp [single]
    rw [es, fin _ _ _ (fun _ => by omega)]
    by_cases q : c = x
    · rw [if_pos q]
      refine Ev.pos (by first | (simp (disch := omega) only [wr_eq] <;> omega) | omega) ?_
      exact Ev.ret ⟨by omega, rfl⟩
    · rw [if_neg q]
      refine Ev.neg (by first | (simp (disch := omega) only [wr_eq] <;> omega) | omega) ?_
      exact Ev.ret ⟨rfl, rfl⟩
  · rw [e]
    refine Ev.neg (by first | (simp (disch := omega) only [wr_eq] <;> omega) | omega) ?_; refine Ev.neg (by first | (simp (disch := omega) only [wr_eq] <;> omega) | omega) ?_; refine Ev.neg (by first | (simp (disch := omega) only [wr_eq] <;> omega) | omega) ?_; refine Ev.neg (by first | (simp (disch := omega) only [wr_eq] <;> omega) | omega) ?_; refine Ev.neg (by first | (simp (disch := omega) only [wr_eq] <;> omega) | omega) ?_; refine Ev.neg (by first | (simp (disch := omega) only [wr_eq] <;> omega) | omega) ?_; refine Ev.neg (by first | (simp (disch := omega) only [wr_eq] <;> omega) | omega) ?_; refine Ev.pos (by first | (simp (disch := omega) only [wr_eq] <;> omega) | omega) ?_
    have es : single 113 x (eT E x.toNat) (V x.toNat) (eS E) c = if c = (eS E).length - x then c else -1 := by simp [single]
    rw [es, fin _ _ _ (fun _ => by omega)]
    by_cases q : c = (eS E).length - x
    · rw [if_pos q]
      refine Ev.pos (by first | (simp (disch := omega) only [wr_eq] <;> omega) | omega) ?_
      exact Ev.ret ⟨by omega, rfl⟩
    · rw [if_neg q]
      refine Ev.neg (by first | (simp (disch := omega) only [wr_eq] <;> omega) | omega) ?_
      exact Ev.ret ⟨rfl, rfl⟩
  · rw [e]
    refine Ev.neg (by first | (simp (disch := omega) only [wr_eq] <;> omega) | omega) ?_; refine Ev.neg (by first | (simp (disch := omega) only [wr_eq] <;> omega) | omega) ?_; refine Ev.neg (by first | (simp (disch := omega) only [wr_eq] <;> omega) | omega) ?_; refine Ev.pos (by first | (simp (disch := omega) only [wr_eq] <;> omega) | omega) ?_
    have es : single 109 x (eT E x.toNat) (V x.toNat) (eS E) c = (eS E).length := by simp [single]
    rw [es, if_neg (by omega)]
    exact Ev.ret ⟨rfl, rfl⟩
  · rw [e]
    refine Ev.neg (by first | (simp (disch := omega) only [wr_eq] <;> omega) | omega) ?_; refine Ev.neg (by first | (simp (disch := omega) only [wr_eq] <;> omega) | omega) ?_; refine Ev.neg (by first | (simp (disch := omega) only [wr_eq] <;> omega) | omega) ?_; refine Ev.neg (by first | (simp (disch := omega) only [wr_eq] <;> omega) | omega) ?_; refine Ev.neg (by first | (simp (disch := omega) only [wr_eq] <;> omega) | omega) ?_; refine Ev.neg (by first | (simp (disch := omega) only [wr_eq] <;> omega) | omega) ?_; refine Ev.neg (by first | (simp (disch := omega) only [wr_eq] <;> omega) | omega) ?_; refine Ev.neg (by first | (simp (disch := omega) only [wr_eq] <;> omega) | omega) ?_; refine Ev.neg (by first | (simp (disch := omega) only [wr_eq] <;> omega) | omega) ?_; refine Ev.neg (by first | (simp (disch := omega) only [wr_eq] <;> omega) | omega) ?_; refine Ev.neg (by first | (simp (disch := omega) only [wr_eq] <;> omega) | omega) ?_; refine Ev.neg (by first | (simp (disch := omega) only [wr_eq] <;> omega) | omega) ?_
    have es : single 105 x (eT E x.toNat) (V x.toNat) (eS E) c = -1 := by simp [single]
    rw [es, if_pos rfl]
    exact Ev.ret ⟨rfl, rfl⟩
/-! balanced rows -/
def psum (S : List Int) (at_ : Int) : Nat → Int
  | 0 => 0
  | j + 1 => psum S at_ j + par (gt S (at_ + j))
def balPre (S : List Int) (at_ : Int) (far : Nat) : Prop := (∀ j, j ≤ far → 0 ≤ psum S at_ j) ∧ psum S at_ far = 0
theorem balPre_0 (S : List Int) (at_ : Int) : balPre S at_ 0 := by
  refine ⟨fun j hj => ?_, rfl⟩
  have e : j = 0 := by omega
  rw [e]
  exact Int.le_refl _
theorem par_rng (s : Int) : -1 ≤ par s ∧ par s ≤ 1 := by
  unfold par
  split
  · omega
  · split <;> omega
theorem psum_le (S : List Int) (at_ : Int) (j : Nat) : psum S at_ j ≤ j := by
  induction j with
  | zero => exact Int.le_refl _
  | succ j ih =>
    have := par_rng (gt S (at_ + j))
    show psum S at_ j + par (gt S (at_ + j)) ≤ _
    omega
theorem bal_pre {S : List Int} {at_ : Int} (n : Nat) : ∀ k : Nat, (∀ j, j ≤ k → 0 ≤ psum S at_ j) → bal S n (psum S at_ k) (at_ + k) ≠ -1 → ∃ far : Nat, bal S n (psum S at_ k) (at_ + k) = at_ + far ∧ k < far ∧ balPre S at_ far := by
  induction n with
  | zero => intro k _ h; exact absurd rfl h
  | succ n ih =>
    intro k hk h
    unfold bal at h ⊢
    have e : psum S at_ k + par (gt S (at_ + k)) = psum S at_ (k + 1) := rfl
    rw [e] at h ⊢
    by_cases h1 : at_ + (k : Int) < S.length
    · rw [if_pos h1] at h ⊢
      by_cases h2 : psum S at_ (k + 1) < 0
      · rw [if_pos h2] at h
        exact absurd rfl h
      · rw [if_neg h2] at h ⊢
        have hk1 : ∀ j, j ≤ k + 1 → 0 ≤ psum S at_ j := fun j hj => by
          by_cases q : j = k + 1
          · subst q; omega
          · exact hk j (by omega)
        by_cases h3 : psum S at_ (k + 1) = 0
        · rw [if_pos h3]
          exact ⟨k + 1, by omega, by omega, hk1, h3⟩
        · rw [if_neg h3] at h ⊢
          have ea : at_ + (k : Int) + 1 = at_ + ((k + 1 : Nat) : Int) := by omega
          rw [ea] at h ⊢
          obtain ⟨far, f1, f2, f3⟩ := ih (k + 1) hk1 h
          exact ⟨far, f1, by omega, f3⟩
    · rw [if_neg h1] at h
      exact absurd rfl h
theorem m_balanced {E : EV} {w : WS} (hE : EOK E) (h : EM E w) {at_ : Int} {far : Nat} (h0 : 0 ≤ at_) (hf : at_ + far ≤ (eS E).length) (hb : balPre (eS E) at_ far) : f_X9_balanced at_ far w = some (bal (eS E) 61 0 (at_ + far), w) := by
  have h20 := h.2.2.2.2.2.2.1
  have hS := hE.2.2.2.2.2.1
  have hl := hE.2.2.2.2.2.2.1
  have sign : ∀ (m k : Nat), at_ + (k : Int) < (eS E).length → ∀ o : Int, -1 ≤ o ∧ o ≤ k → (if wr (w 100 (wr (at_ + k)).toNat) = wr 40 then f_X9_balanced_52 (fun x0 x1 x2 x3 x => f_X9_balanced_5 m x0 x1 x2 x3 x) at_ far (at_ + k) 1 o w else if 0 ≤ wr (at_ + (k : Int)) ∧ wr (at_ + (k : Int)) < 60 then if wr (w 100 (wr (at_ + k)).toNat) = wr 41 then f_X9_balanced_52 (fun x0 x1 x2 x3 x => f_X9_balanced_5 m x0 x1 x2 x3 x) at_ far (at_ + k) (-1) o w else f_X9_balanced_52 (fun x0 x1 x2 x3 x => f_X9_balanced_5 m x0 x1 x2 x3 x) at_ far (at_ + k) 0 o w else none) = f_X9_balanced_52 (fun x0 x1 x2 x3 x => f_X9_balanced_5 m x0 x1 x2 x3 x) at_ far (at_ + k) (par (gt (eS E) (at_ + k))) o w := by
    intro m k hk o ho
    have r1 := gt_rng hS (at_ + k)
    rw [wr_eq (a := at_ + (k : Int)) (by omega), h.sign (by omega), wr_eq (a := gt (eS E) (at_ + k)) (by omega), wr_eq (a := 40) (by omega), wr_eq (a := 41) (by omega)]
    unfold par
    by_cases c1 : gt (eS E) (at_ + k) = 40
    · rw [if_pos c1, if_pos c1]
    · rw [if_neg c1, if_neg c1, if_pos (by omega)]
      by_cases c2 : gt (eS E) (at_ + k) = 41
      · rw [if_pos c2, if_pos c2]
      · rw [if_neg c2, if_neg c2]
  have second : ∀ (n m k : Nat) (o : Int), n + 1 < m → far ≤ k → at_ + (k : Int) ≤ (eS E).length → (eS E).length - (at_ + (k : Int)) ≤ n → 0 ≤ o → o ≤ k → f_X9_balanced_5 m at_ far o (at_ + k) w = some (bal (eS E) n o (at_ + k), w) := by
    intro n
    induction n with
    | zero =>
      intro m k o h1 h2 h3 h4 h5 h6
      obtain ⟨m, rfl⟩ : ∃ j, m = j + 1 := ⟨m - 1, by omega⟩
      rw [f_X9_balanced_5_s, h20]
      exact if_neg (by first | (simp (disch := omega) only [wr_eq] <;> omega) | omega)
    | succ n ih =>
      intro m k o h1 h2 h3 h4 h5 h6
      obtain ⟨m, rfl⟩ : ∃ j, m = j + 1 := ⟨m - 1, by omega⟩
      rw [f_X9_balanced_5_s, h20]
      unfold bal
      by_cases c : at_ + (k : Int) < (eS E).length
      · refine (if_pos (by first | (simp (disch := omega) only [wr_eq] <;> omega) | omega)).trans ((if_neg (by first | (simp (disch := omega) only [wr_eq] <;> omega) | omega)).trans ((if_pos (by first | (simp (disch := omega) only [wr_eq] <;> omega) | omega)).trans ?_))
        rw [sign m k c o (by omega), if_pos c]
        have pr := par_rng (gt (eS E) (at_ + k))
        generalize par (gt (eS E) (at_ + k)) = d at *
        unfold f_X9_balanced_52
        have ea : at_ + (k : Int) + 1 = at_ + ((k + 1 : Nat) : Int) := by omega
        by_cases q1 : o + d < 0
        · rw [if_neg (show ¬ wr (o + d) = 0 from (by first | (simp (disch := omega) only [wr_eq] <;> omega) | omega)), if_pos q1, ea]
          obtain ⟨m, rfl⟩ : ∃ j, m = j + 1 := ⟨m - 1, by omega⟩
          show f_X9_balanced_5 (m + 1) _ _ _ _ w = _
          rw [f_X9_balanced_5_s, h20]
          by_cases q2 : at_ + ((k + 1 : Nat) : Int) < (eS E).length
          · exact (if_pos (by first | (simp (disch := omega) only [wr_eq] <;> omega) | omega)).trans (if_pos (by first | (simp (disch := omega) only [wr_eq] <;> omega) | omega))
          · exact if_neg (by first | (simp (disch := omega) only [wr_eq] <;> omega) | omega)
        · rw [if_neg q1]
          by_cases q2 : o + d = 0
          · rw [if_pos (show wr (o + d) = 0 from (by first | (simp (disch := omega) only [wr_eq] <;> omega) | omega)), if_pos q2, if_pos (show wr (far : Int) < wr (at_ + k + 1 - at_) from (by first | (simp (disch := omega) only [wr_eq] <;> omega) | omega))]
          · rw [if_neg (show ¬ wr (o + d) = 0 from (by first | (simp (disch := omega) only [wr_eq] <;> omega) | omega)), if_neg q2, ea]
            exact ih m (k + 1) (o + d) (by omega) (by omega) (by omega) (by omega) (by omega) (by omega)
      · rw [if_neg c]
        exact if_neg (by first | (simp (disch := omega) only [wr_eq] <;> omega) | omega)
  have first : ∀ (r m k : Nat), r + k = far → r + 63 < m → f_X9_balanced_5 m at_ far (psum (eS E) at_ k) (at_ + k) w = some (bal (eS E) 61 0 (at_ + far), w) := by
    intro r
    induction r with
    | zero =>
      intro m k h1 h2
      have : k = far := by omega
      subst this
      rw [hb.2]
      exact second 61 m k 0 (by omega) (Nat.le_refl _) hf (by omega) (Int.le_refl _) (by omega)
    | succ r ih =>
      intro m k h1 h2
      obtain ⟨m, rfl⟩ : ∃ j, m = j + 1 := ⟨m - 1, by omega⟩
      have p0 := hb.1 k (by omega)
      have p1 := hb.1 (k + 1) (by omega)
      have p2 := psum_le (eS E) at_ k
      have p3 := psum_le (eS E) at_ (k + 1)
      rw [f_X9_balanced_5_s, h20]
      refine (if_pos (by first | (simp (disch := omega) only [wr_eq] <;> omega) | omega)).trans ((if_neg (by first | (simp (disch := omega) only [wr_eq] <;> omega) | omega)).trans ((if_pos (by first | (simp (disch := omega) only [wr_eq] <;> omega) | omega)).trans ?_))
      rw [sign m k (by omega) _ (by omega)]
      have e : psum (eS E) at_ k + par (gt (eS E) (at_ + k)) = psum (eS E) at_ (k + 1) := rfl
      unfold f_X9_balanced_52
      rw [e]
      have ea : at_ + (k : Int) + 1 = at_ + ((k + 1 : Nat) : Int) := by omega
      have nx : f_X9_balanced_5 m at_ far (psum (eS E) at_ (k + 1)) (at_ + k + 1) w = some (bal (eS E) 61 0 (at_ + far), w) := by
        rw [ea]
        exact ih m (k + 1) (by omega) (by omega)
      by_cases q2 : psum (eS E) at_ (k + 1) = 0
      · rw [if_pos (show wr (psum (eS E) at_ (k + 1)) = 0 from (by first | (simp (disch := omega) only [wr_eq] <;> omega) | omega)), if_neg (show ¬ wr (far : Int) < wr (at_ + k + 1 - at_) from (by first | (simp (disch := omega) only [wr_eq] <;> omega) | omega))]
        exact nx
      · rw [if_neg (show ¬ wr (psum (eS E) at_ (k + 1)) = 0 from (by first | (simp (disch := omega) only [wr_eq] <;> omega) | omega))]
        exact nx
  unfold f_X9_balanced
  have := first far FU 0 (by omega) (by unfold FU; omega)
  rw [show at_ + ((0 : Nat) : Int) = at_ from by omega] at this
  exact this
