theorem str_of {c c' : Int} {K : List Nd} (h : KC c K) (hc : c < c') : str c' K = true := by
  unfold str
  rw [List.all_eq_true]
  intro x hx
  have := h x hx
  exact decide_eq_true (by omega)
theorem str_tail {c : Int} {x : Nd} {K : List Nd} (h : str c (x :: K) = true) : x.2 < c ∧ str c K = true := by
  unfold str at h
  rw [List.all_cons, Bool.and_eq_true, decide_eq_true_iff] at h
  exact h
theorem phi1_le (g c : Int) (K : List Nd) (C : List Ch) (T : List Tk) {b : Int} (V : Nat → List Int) (s : Int) (hb : b ≤ 3000) : aPhi (1, g, c, K, C, T, b, V, s) ≤ 200 * (3001 - b).toNat + C.length + 2 * K.length + 1 := by
  show (if str c K = true then 200 * (3000 - b).toNat + 20 + C.length + 2 * K.length else 200 * (3001 - b).toNat + C.length + 2 * K.length + 1) ≤ _
  by_cases h : str c K = true
  · rw [if_pos h]; omega
  · rw [if_neg h]; omega
theorem phi1_str {g c : Int} {K : List Nd} {C : List Ch} {T : List Tk} {b : Int} {V : Nat → List Int} {s : Int} (h : str c K = true) : aPhi (1, g, c, K, C, T, b, V, s) = 200 * (3000 - b).toNat + 20 + C.length + 2 * K.length := if_pos h
theorem aBal_phi {E : EV} {p c : Int} {K : List Nd} {C : List Ch} {T : List Tk} {b : Int} {V : Nat → List Int} {s : Int} (hb : b ≤ 3000) (hk : K.length ≤ 50) (hc : 0 ≤ c) (h : KC c K) : aPhi (aBal E p c K C T b V s) ≤ 200 * (3001 - b).toNat + C.length + 1 := by
  unfold aBal
  rcases bal_rng (eS E) 61 0 c with g | g
  · rw [if_pos g]
    exact Nat.le_refl _
  · rw [if_neg (by omega), phi1_str (str_of h g.1), List.length_cons]
    omega
theorem a_phi {E : EV} (hE : EOK E) {st : MS} (h : AOK E st) (hm : st.1 ≤ 3) : aPhi (aStep E st) < aPhi st := by
  obtain ⟨md, g, c, K, C, T, b, V, s⟩ := st
  obtain ⟨e1, e2, e3, e4, e5, e6, e7, e8, e9, e10⟩ := hE
  match md, h, hm with
  | 0, h, _ =>
    obtain ⟨ha, hg1, hg2, hK, hKC, hs, hc, hgn, hdn⟩ := h
    have hb1 := ha.1
    have hb2 := ha.2.1
    have hl := KOK.len hK hg2
    show aPhi (aBegin E g c K C T b V s) < 200 * (3000 - b).toNat + 10 + C.length + 2 * K.length
    unfold aBegin
    by_cases hb : 3000 ≤ b
    · rw [if_pos hb]
      show 0 < _
      omega
    rw [if_neg hb]
    by_cases k1 : pk E g = 38 ∨ pk E g = 36 ∨ pk E g = 46
    · rw [if_pos k1]
      show 200 * (3000 - (b + 1)).toNat + 10 + C.length + 2 * ((g, c) :: K).length < _
      rw [List.length_cons]
      omega
    rw [if_neg k1]
    by_cases k2 : pk E g = 124
    · rw [if_pos k2]
      show 200 * (3000 - (b + 1)).toNat + 10 + ((g, c, K, T.length) :: C).length + 2 * K.length < _
      rw [List.length_cons]
      omega
    rw [if_neg k2]
    by_cases k3 : pk E g = 103 ∨ pk E g = 42 ∨ pk E g = 102
    · rw [if_pos k3]
      have := phi1_le g c K ((g, c, K, T.length) :: C) T V s (b := b + 1) (by omega)
      rw [List.length_cons] at this
      omega
    rw [if_neg k3]
    by_cases k4 : pk E g = 120
    · rw [if_pos k4]
      have := aBal_phi (E := E) (p := g) (C := C) (T := T) (V := V) (s := s) (b := b + 1) (by omega) (by omega) (by omega) hKC
      omega
    rw [if_neg k4]
    by_cases k5 : pk E g = 122
    · rw [if_pos k5]
      show 0 < _
      omega
    rw [if_neg k5]
    by_cases k6 : pk E g = 64
    · rw [if_pos k6]
      have := phi1_le g c K C T (vs V (pf E g).toNat (decS c)) s (b := b + 1) (by omega)
      omega
    rw [if_neg k6]
    by_cases k7 : single (pk E g) (pf E g) (eT E (pf E g).toNat) (V (pf E g).toNat) (eS E) c = -1
    · rw [if_pos k7]
      show 200 * (3001 - (b + 1)).toNat + C.length + 1 < _
      omega
    · rw [if_neg k7]
      have := phi1_le g (single (pk E g) (pf E g) (eT E (pf E g).toNat) (V (pf E g).toNat) (eS E) c) K C T V s (b := b + 1) (by omega)
      omega
  | 1, h, _ =>
    obtain ⟨ha, hb, hK, hKC, hs, hc, hgn, hdn⟩ := h
    have hb1 := ha.1
    have hb2 := ha.2.1
    show aPhi (aGoOn E g c K C T b V s) < _
    cases K with
    | nil =>
      show 0 < aPhi (1, g, c, [], C, T, b, V, s)
      rw [phi1_str rfl]
      omega
    | cons x K =>
      obtain ⟨p, f⟩ := x
      have lo : aPhi (1, g, c, (p, f) :: K, C, T, b, V, s) = (if str c ((p, f) :: K) = true then 200 * (3000 - b).toNat + 20 + C.length + 2 * (K.length + 1) else 200 * (3001 - b).toNat + C.length + 2 * (K.length + 1) + 1) := rfl
      have sub : ∀ (g' : Int) (T' : List Tk) (V' : Nat → List Int), aPhi (1, g', c, K, C, T', b, V', s) < aPhi (1, g, c, (p, f) :: K, C, T, b, V, s) := by
        intro g' T' V'
        rw [lo]
        by_cases q : str c ((p, f) :: K) = true
        · rw [if_pos q, phi1_str (str_tail q).2]
          omega
        · rw [if_neg q]
          have := phi1_le g' c K C T' V' s hb2
          omega
      show aPhi (if pk E p = 38 then _ else _) < _
      by_cases k1 : pk E p = 38
      · rw [if_pos k1]
        show 200 * (3000 - b).toNat + 10 + C.length + 2 * K.length < _
        rw [lo]
        by_cases q : str c ((p, f) :: K) = true
        · rw [if_pos q]
          omega
        · rw [if_neg q]
          omega
      rw [if_neg k1]
      by_cases k2 : pk E p = 36
      · rw [if_pos k2]
        exact sub _ _ _
      rw [if_neg k2]
      by_cases k3 : pk E p = 46
      · rw [if_pos k3]
        exact sub _ _ _
      rw [if_neg k3]
      by_cases k4 : c = f
      · rw [if_pos k4, lo]
        have q : ¬ str c ((p, f) :: K) = true := fun q => by
          have : f < c := (str_tail q).1
          omega
        rw [if_neg q]
        show 200 * (3001 - b).toNat + C.length + 1 < _
        omega
      · rw [if_neg k4, lo]
        by_cases q : str c ((p, f) :: K) = true
        · rw [if_pos q, phi1_str (str_tail q).2, List.length_cons]
          omega
        · rw [if_neg q]
          have := phi1_le p c K ((p, c, K, T.length) :: C) T V s hb2
          rw [List.length_cons] at this
          omega
  | 2, h, _ =>
    obtain ⟨ha, hb⟩ := h
    have hb1 := ha.1
    have hb2 := ha.2.1
    show aPhi (aBack E g c K C T b V s) < 200 * (3001 - b).toNat + C.length + 1
    cases C with
    | nil =>
      show 200 * (3001 - b).toNat < 200 * (3001 - b).toNat + 0 + 1
      omega
    | cons x C =>
      obtain ⟨p, c', K', n⟩ := x
      obtain ⟨g1, g2, g3, g4, g5, g6, g7, g8⟩ := ha
      obtain ⟨r1, r2, r3, r4, r5, r6, r7, r8, r9, r10, r11⟩ := g6
      have hl := KOK.len r4 r2
      rw [List.length_cons]
      show aPhi (if pk E p = 124 then _ else _) < _
      by_cases k1 : pk E p = 124
      · rw [if_pos k1]
        show 200 * (3000 - b).toNat + 10 + C.length + 2 * K'.length < _
        omega
      rw [if_neg k1]
      by_cases k2 : pk E p = 103
      · rw [if_pos k2]
        show 200 * (3000 - b).toNat + 10 + C.length + 2 * ((p, c') :: K').length < _
        rw [List.length_cons]
        omega
      rw [if_neg k2]
      by_cases k3 : pk E p = 42
      · rw [if_pos k3]
        by_cases k4 : ((eS E).length : Int) < c' + 1
        · rw [if_pos k4]
          show 200 * (3001 - b).toNat + C.length + 1 < _
          omega
        · rw [if_neg k4, phi1_str (str_of r5 (by omega)), List.length_cons]
          omega
      rw [if_neg k3]
      by_cases k4 : pk E p = 120
      · rw [if_pos k4]
        have := aBal_phi (E := E) (p := p) (C := C) (T := T.take n) (V := V) (s := s) hb2 (by omega) (by omega) r5
        omega
      rw [if_neg k4]
      show 0 < _
      omega
  | 3, h, _ =>
    obtain ⟨ha, rfl⟩ := h
    have hb1 := ha.1
    have hb2 := ha.2.1
    show aPhi (aNext E g c K [] T b V s) < 200 * (3001 - b).toNat
    unfold aNext
    by_cases k1 : ((eS E).length : Int) < s + 1 ∨ (eA E ≠ 0 ∧ 0 < s + 1)
    · rw [if_pos k1]
      show 0 < _
      omega
    · rw [if_neg k1]
      show 200 * (3000 - b).toNat + 10 + 0 + 2 * 0 < _
      omega
/-- so many steps -/
def aIter (E : EV) : Nat → MS → MS
  | 0, st => st
  | n + 1, st => aIter E n (aStep E st)
theorem aIter_ok {E : EV} (hE : EOK E) (n : Nat) : ∀ {st : MS}, AOK E st → AOK E (aIter E n st) := by
  induction n with
  | zero => intro st h; exact h
  | succ n ih => intro st h; exact ih (a_ok hE h)
/-- it comes to its end -/
theorem a_ends {E : EV} (hE : EOK E) (m : Nat) : ∀ st : MS, AOK E st → aPhi st ≤ m → ∃ n, n ≤ aPhi st ∧ 4 ≤ (aIter E n st).1 ∧ (∀ j, j < n → (aIter E j st).1 ≤ 3) := by
  induction m with
  | zero =>
    intro st h hp
    by_cases q : 4 ≤ st.1
    · exact ⟨0, Nat.zero_le _, q, fun j hj => by omega⟩
    · have := a_phi hE h (by omega)
      omega
  | succ m ih =>
    intro st h hp
    by_cases q : 4 ≤ st.1
    · exact ⟨0, Nat.zero_le _, q, fun j hj => by omega⟩
    · have h1 := a_phi hE h (by omega)
      obtain ⟨n, n1, n2, n3⟩ := ih (aStep E st) (a_ok hE h) (by omega)
      refine ⟨n + 1, by omega, n2, fun j hj => ?_⟩
      cases j with
      | zero => show st.1 ≤ 3; omega
      | succ j => exact n3 j (by omega)
theorem aPhi_le {E : EV} (hE : EOK E) {st : MS} (h : AOK E st) : aPhi st ≤ 620000 := by
  obtain ⟨md, g, c, K, C, T, b, V, s⟩ := st
  obtain ⟨e1, e2, e3, e4, e5, e6, e7, e8, e9, e10⟩ := hE
  match md, h with
  | 0, h =>
    obtain ⟨ha, hg1, hg2, hK, hKC, hs, hc, hgn, hdn⟩ := h
    have hb1 := ha.1
    have hb2 := ha.2.1
    have hl := KOK.len hK hg2
    show 200 * (3000 - b).toNat + 10 + C.length + 2 * K.length ≤ _
    omega
  | 1, h =>
    obtain ⟨ha, hb, hK, hKC, hs, hc, hgn, hdn⟩ := h
    have hb1 := ha.1
    have hb2 := ha.2.1
    have hl := KOK.len hK (by omega)
    have := phi1_le g c K C T V s hb2
    omega
  | 2, h =>
    obtain ⟨ha, hb⟩ := h
    obtain ⟨g1, g2, g3, g4, g5, g6, g7, g8⟩ := ha
    show 200 * (3001 - b).toNat + C.length + 1 ≤ _
    have : (C.length : Int) ≤ 3000 := by
      cases C with
      | nil => simp
      | cons x C =>
        obtain ⟨p, c', K', n⟩ := x
        have := g6.2.2.2.2.2.2.2.2.1
        rw [List.length_cons]
        omega
    omega
  | 3, h =>
    have hb1 := h.1.1
    show 200 * (3001 - b).toNat ≤ _
    omega
  | 4, h => show 0 ≤ _; omega
  | n + 5, h => show 0 ≤ _; omega
