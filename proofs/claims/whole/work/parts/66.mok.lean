theorem VOK.vs {V : Nat → List Int} {a : Nat} {L : List Int} (h : VOK V) (hs : SO L) (hl : L.length ≤ 60) : VOK (vs V a L) := fun r => by
  by_cases e : r = a
  · rw [e, vs_same]
    exact ⟨hs, hl⟩
  · rw [vs_ne _ _ e]
    exact h r
theorem slice_len {S : List Int} {f e : Int} (h : 0 ≤ f ∧ f ≤ e ∧ e ≤ S.length) : ((slice S f e).length : Int) = e - f := by
  unfold slice
  rw [List.length_take, List.length_drop]
  omega
theorem slice_SO {S : List Int} (f e : Int) (h : SO S) : SO (slice S f e) := fun x hx => h x (List.mem_of_mem_drop (List.mem_of_mem_take hx))
theorem decS_len (n : Int) : (decS n).length ≤ 10 := by
  unfold decS
  split
  · rw [List.length_cons]
    have := dec_len 9 (-n)
    omega
  · have := dec_len 9 n
    omega
theorem TOK.take {E : EV} {T : List Tk} (n : Nat) (h : TOK E T) : TOK E (T.take n) := fun x hx => h x (List.mem_of_mem_take hx)
theorem COK.take {E : EV} {b s : Int} {T : List Tk} {n : Nat} {C : List Ch} (hn : n ≤ T.length) (h : COK E b s n C) : COK E b s (T.take n).length C := by
  rw [List.length_take, Nat.min_eq_left hn]
  exact h
theorem AC.begun {E : EV} {C : List Ch} {T : List Tk} {b : Int} {V : Nat → List Int} {s : Int} (h : AC E C T b V s) (hb : b < 3000) : AC E C T (b + 1) V s := by
  obtain ⟨h1, h2, h3, h4, h5, h6, h7, h8⟩ := h
  exact ⟨by omega, by omega, h3, h4, h5, h6.mono (by omega) (Nat.le_refl _), by omega, h8⟩
theorem AC.push {E : EV} {C : List Ch} {T : List Tk} {b : Int} {V : Nat → List Int} {s p c : Int} {K : List Nd} (h : AC E C T b V s) (hp : 0 ≤ p ∧ p < eN E) (hk : choiK (pk E p)) (h1 : KOK E p K) (h2 : KC c K) (h3 : 0 ≤ s ∧ s ≤ c) (h4 : c ≤ (eS E).length) (h5 : (C.length : Int) + 1 + gn E K ≤ b) (h6 : (T.length : Int) + dn E K ≤ b) : AC E ((p, c, K, T.length) :: C) T b V s := by
  obtain ⟨g1, g2, g3, g4, g5, g6, g7, g8⟩ := h
  exact ⟨g1, g2, g3, g4, g5, ⟨hp.1, hp.2, hk, h1, h2, h3, h4, Nat.le_refl _, h5, h6, g6⟩, g7, g8⟩
theorem AC.val {E : EV} {C : List Ch} {T : List Tk} {b : Int} {V V' : Nat → List Int} {s : Int} (h : AC E C T b V s) (hv : VOK V') : AC E C T b V' s := by
  obtain ⟨g1, g2, g3, g4, g5, g6, g7, g8⟩ := h
  exact ⟨g1, g2, g3, g4, hv, g6, g7, g8⟩
theorem aBal_ok {E : EV} {p c : Int} {K : List Nd} {C : List Ch} {T : List Tk} {b : Int} {V : Nat → List Int} {s : Int} (h : AC E C T b V s) (hb : 1 ≤ b) (hp : 0 ≤ p ∧ p < eN E) (hk : pk E p = 120) (h1 : KOK E p K) (h2 : KC c K) (h3 : 0 ≤ s ∧ s ≤ c) (h5 : (C.length : Int) + 1 + gn E K ≤ b) (h6 : (T.length : Int) + dn E K ≤ b) : AOK E (aBal E p c K C T b V s) := by
  unfold aBal
  rcases bal_rng (eS E) 61 0 c with g | g
  · rw [if_pos g]
    exact ⟨h, by omega⟩
  · rw [if_neg (by omega)]
    refine ⟨h.push hp (Or.inr (Or.inr (Or.inr (Or.inl hk)))) h1 (h2.mono (by omega)) (by omega) g.2 h5 h6, hb, h1.mono (by omega), h2.mono (by omega), by omega, g.2, ?_, h6⟩
    rw [List.length_cons]
    omega
theorem a_ok {E : EV} (hE : EOK E) {st : MS} (h : AOK E st) : AOK E (aStep E st) := by
  obtain ⟨md, g, c, K, C, T, b, V, s⟩ := st
  obtain ⟨e1, e2, e3, e4, e5, e6, e7, e8, e9, e10⟩ := hE
  match md, h with
  | 0, h =>
    obtain ⟨ha, hg1, hg2, hK, hKC, hs, hc, hgn, hdn⟩ := h
    show AOK E (aBegin E g c K C T b V s)
    unfold aBegin
    have hp := e1 g hg1 hg2
    by_cases hb : 3000 ≤ b
    · rw [if_pos hb]
      exact ⟨ha.1, ha.2.1, ha.2.2.2.2.1⟩
    rw [if_neg hb]
    have ha1 := ha.begun (by omega)
    unfold PK1 at hp
    by_cases k1 : pk E g = 38 ∨ pk E g = 36 ∨ pk E g = 46
    · rw [if_pos k1]
      have hx : 0 ≤ pf E g ∧ pf E g < g := by omega
      have hn : nodeK (pk E g) := by unfold nodeK; omega
      refine ⟨ha1, hx.1, by omega, ⟨hx.2, hg2, hn, hK⟩, hKC.cons (by omega), hs, hc, ?_, ?_⟩
      · show (C.length : Int) + ((gn E K + (if pk E g = 103 then 1 else 0) : Nat) : Int) ≤ b + 1
        rw [if_neg (by omega)]
        omega
      · show (T.length : Int) + ((dn E K + (if pk E g = 46 then 1 else 0) : Nat) : Int) ≤ b + 1
        by_cases q : pk E g = 46
        · rw [if_pos q]; omega
        · rw [if_neg q]; omega
    rw [if_neg k1]
    by_cases k2 : pk E g = 124
    · rw [if_pos k2]
      have hx : 0 ≤ pf E g ∧ pf E g < g := by omega
      refine ⟨ha1.push ⟨hg1, hg2⟩ (Or.inl k2) hK hKC hs hc (by omega) (by omega), hx.1, by omega, hK.mono (by omega), hKC, hs, hc, ?_, by omega⟩
      rw [List.length_cons]
      omega
    rw [if_neg k2]
    by_cases k3 : pk E g = 103 ∨ pk E g = 42 ∨ pk E g = 102
    · rw [if_pos k3]
      have hn : choiK (pk E g) := by unfold choiK; omega
      refine ⟨ha1.push ⟨hg1, hg2⟩ hn hK hKC hs hc (by omega) (by omega), by have := ha.1; omega, hK.mono (by omega), hKC, hs, hc, ?_, by omega⟩
      rw [List.length_cons]
      omega
    rw [if_neg k3]
    by_cases k4 : pk E g = 120
    · rw [if_pos k4]
      exact aBal_ok ha1 (by have := ha.1; omega) ⟨hg1, hg2⟩ k4 hK hKC hs (by omega) (by omega)
    rw [if_neg k4]
    by_cases k5 : pk E g = 122
    · rw [if_pos k5]
      exact ⟨ha1.1, ha1.2.1, ha.2.2.2.2.1⟩
    rw [if_neg k5]
    by_cases k6 : pk E g = 64
    · rw [if_pos k6]
      refine ⟨ha1.val (VOK.vs ha.2.2.2.2.1 (decS_SO c) (by have := decS_len c; omega)), by have := ha.1; omega, hK.mono (by omega), hKC, hs, hc, by omega, by omega⟩
    rw [if_neg k6]
    have hr := single_rng (k := pk E g) (x := pf E g) (c := c) (T := eT E (pf E g).toNat) (W := V (pf E g).toNat) (S := eS E) (e4 _) (ha.2.2.2.2.1 _).1 (by omega) (by omega) hc
    rcases hr with hr | hr
    · rw [if_pos hr]
      exact ⟨ha1, by have := ha.1; omega⟩
    · rw [if_neg (by omega)]
      exact ⟨ha1, by have := ha.1; omega, hK.mono (by omega), hKC.mono hr.1, by omega, hr.2, by omega, by omega⟩
  | 1, h =>
    obtain ⟨ha, hb, hK, hKC, hs, hc, hgn, hdn⟩ := h
    show AOK E (aGoOn E g c K C T b V s)
    cases K with
    | nil => exact ⟨ha, hb, hK, hKC, hs, hc, hgn, hdn⟩
    | cons x K =>
      obtain ⟨p, f⟩ := x
      obtain ⟨q1, q2, q3, q4⟩ := hK
      have hf := hKC (p, f) List.mem_cons_self
      have hKC1 := hKC.tail
      have hgn : (C.length : Int) + ((gn E K + (if pk E p = 103 then 1 else 0) : Nat) : Int) ≤ b := hgn
      have hdn : (T.length : Int) + ((dn E K + (if pk E p = 46 then 1 else 0) : Nat) : Int) ≤ b := hdn
      have hp := e1 p (by omega) q2
      unfold PK1 at hp
      unfold nodeK at q3
      show AOK E (if pk E p = 38 then _ else _)
      by_cases k1 : pk E p = 38
      · rw [if_pos k1]
        exact ⟨ha, by omega, by omega, q4.mono (by omega), hKC1, hs, hc, by omega, by omega⟩
      rw [if_neg k1]
      by_cases k2 : pk E p = 36
      · rw [if_pos k2]
        have hl := slice_len (S := eS E) (f := f) (e := c) ⟨hf.1, hf.2, hc⟩
        have hf1 : 0 ≤ f := hf.1
        exact ⟨ha.val (VOK.vs ha.2.2.2.2.1 (slice_SO f c e6) (by omega)), hb, q4.mono (by omega), hKC1, hs, hc, by omega, by omega⟩
      rw [if_neg k2]
      by_cases k3 : pk E p = 46
      · rw [if_pos k3]
        rw [if_pos k3] at hdn
        obtain ⟨g1, g2, g3, g4, g5, g6, g7, g8⟩ := ha
        refine ⟨⟨g1, g2, g3, g4, g5, ?_, ?_, ?_⟩, hb, q4.mono (by omega), hKC1, hs, hc, by omega, ?_⟩
        · rw [List.length_append]
          exact g6.mono (Int.le_refl _) (by omega)
        · rw [List.length_append, List.length_singleton]
          omega
        · intro x hx
          rcases List.mem_append.mp hx with hx | hx
          · exact g8 x hx
          · rw [List.mem_singleton.mp hx]
            exact ⟨by omega, by omega, hf.1, hf.2, hc⟩
        · rw [List.length_append, List.length_singleton]
          omega
      rw [if_neg k3]
      by_cases k4 : c = f
      · rw [if_pos k4]
        exact ⟨ha, by omega⟩
      · rw [if_neg k4]
        have k5 : pk E p = 103 := by omega
        rw [if_pos k5] at hgn
        refine ⟨ha.push ⟨by omega, q2⟩ (Or.inr (Or.inl k5)) q4 hKC1 hs hc (by omega) (by omega), hb, q4.mono (by omega), hKC1, hs, hc, ?_, by omega⟩
        rw [List.length_cons]
        omega
  | 2, h =>
    obtain ⟨ha, hb⟩ := h
    show AOK E (aBack E g c K C T b V s)
    cases C with
    | nil => exact ⟨ha, rfl⟩
    | cons x C =>
      obtain ⟨p, c', K', n⟩ := x
      obtain ⟨g1, g2, g3, g4, g5, g6, g7, g8⟩ := ha
      obtain ⟨r1, r2, r3, r4, r5, r6, r7, r8, r9, r10, r11⟩ := g6
      have hb1 : 1 ≤ b := by
        by_cases q : b = 0
        · cases hb q
        · omega
      have hT : (T.take n).length = n := by rw [List.length_take, Nat.min_eq_left r8]
      have hAC : AC E C (T.take n) b V s := ⟨g1, g2, g3, g4, g5, r11.take r8, by omega, g8.take n⟩
      have hp := e1 p r1 r2
      unfold PK1 at hp
      unfold choiK at r3
      show AOK E (if pk E p = 124 then _ else _)
      by_cases k1 : pk E p = 124
      · rw [if_pos k1]
        exact ⟨hAC, by omega, by omega, r4.mono (by omega), r5, r6, r7, by omega, by omega⟩
      rw [if_neg k1]
      by_cases k2 : pk E p = 103
      · rw [if_pos k2]
        have hn : nodeK (pk E p) := by unfold nodeK; omega
        refine ⟨hAC, by omega, by omega, ⟨by omega, r2, hn, r4⟩, r5.cons (by omega), r6, r7, ?_, ?_⟩
        · show (C.length : Int) + ((gn E K' + (if pk E p = 103 then 1 else 0) : Nat) : Int) ≤ b
          rw [if_pos k2]
          omega
        · show ((T.take n).length : Int) + ((dn E K' + (if pk E p = 46 then 1 else 0) : Nat) : Int) ≤ b
          rw [if_neg (by omega)]
          omega
      rw [if_neg k2]
      by_cases k3 : pk E p = 42
      · rw [if_pos k3]
        by_cases k4 : ((eS E).length : Int) < c' + 1
        · rw [if_pos k4]
          exact ⟨hAC, by omega⟩
        · rw [if_neg k4]
          have := hAC.push (p := p) (c := c' + 1) ⟨r1, r2⟩ (Or.inr (Or.inr (Or.inl k3))) r4 (r5.mono (by omega)) (by omega) (by omega) (by omega) (by omega)
          rw [hT] at this
          refine ⟨this, hb1, r4.mono (by omega), r5.mono (by omega), by omega, by omega, ?_, by omega⟩
          rw [List.length_cons]
          omega
      rw [if_neg k3]
      by_cases k4 : pk E p = 120
      · rw [if_pos k4]
        exact aBal_ok hAC hb1 ⟨r1, r2⟩ k4 r4 r5 r6 (by omega) (by omega)
      rw [if_neg k4]
      exact ⟨g1, g2, g5⟩
  | 3, h =>
    obtain ⟨ha, rfl⟩ := h
    show AOK E (aNext E g c K [] T b V s)
    obtain ⟨g1, g2, g3, g4, g5, g6, g7, g8⟩ := ha
    unfold aNext
    by_cases k1 : ((eS E).length : Int) < s + 1 ∨ (eA E ≠ 0 ∧ 0 < s + 1)
    · rw [if_pos k1]
      exact ⟨g1, g2, g5⟩
    · rw [if_neg k1]
      refine ⟨⟨g1, g2, by omega, by omega, g5, trivial, ?_, fun x hx => by cases hx⟩, e9, e10, trivial, (fun x hx => by cases hx), ⟨by omega, Int.le_refl _⟩, by omega, ?_, ?_⟩
      · exact g1
      · show ((0 : Nat) : Int) + ((0 : Nat) : Int) ≤ b
        omega
      · show ((0 : Nat) : Int) + ((0 : Nat) : Int) ≤ b
        omega
  | 4, h => exact h
  | n + 5, h => exact h
