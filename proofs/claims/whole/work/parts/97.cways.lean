/-! all ways, in order; the class -/
def aAgain : MS → MS
  | (_, g, c, K, C, T, b, V, s) => (2, g, c, K, C, T, b, V, s)
/-- how many ways (-1: too many places begun), which, and the state behind the last search -/
noncomputable def aW (E : EV) : Nat → MS → List Int → Int × List Int × MS
  | 0, st, L => (L.length, L, st)
  | n + 1, st, L => if (aEnd E st).1 = 6 then (-1, L, aEnd E st) else if (aEnd E st).1 = 4 then aW E n (aAgain (aEnd E st)) (L ++ [100 * sOf (aEnd E st) + cOf (aEnd E st)]) else (L.length, L, aEnd E st)
theorem aAgain_v (st : MS) : vOf (aAgain st) = vOf st ∧ (aAgain st).1 = 2 ∧ sOf (aAgain st) = sOf st := by
  obtain ⟨md, g, c, K, C, T, b, V, s⟩ := st
  exact ⟨rfl, rfl, rfl⟩
theorem AOK.again {E : EV} {st : MS} (h : AOK E st) (hm : st.1 = 4) : AOK E (aAgain st) := by
  obtain ⟨md, g, c, K, C, T, b, V, s⟩ := st
  have hm : md = 4 := hm
  subst hm
  obtain ⟨h1, h2, -⟩ := h
  exact ⟨h1, fun q => absurd q (by omega)⟩
theorem RepC.again {E : EV} {st : MS} {w : WS} (h : RepC E st w) (hm : st.1 = 4) : RepC E (aAgain st) w := by
  obtain ⟨md, g, c, K, C, T, b, V, s⟩ := st
  have hm : md = 4 := hm
  subst hm
  obtain ⟨h1, h2, -⟩ := h
  exact ⟨h1, h2⟩
theorem RepC.any {E : EV} {st : MS} {w : WS} (h : RepC E st w) (hm : 2 ≤ st.1 ∧ st.1 ≤ 6) : EC E w ∧ VC w (vOf st) := by
  have h4 := fun q => RepC.md4 h q
  have h56 := fun q => RepC.md56 h q
  obtain ⟨md, g, c, K, C, T, b, V, s⟩ := st
  have hm : 2 ≤ md ∧ md ≤ 6 := hm
  have c' : md = 2 ∨ md = 3 ∨ md = 4 ∨ md = 5 ∨ md = 6 := by omega
  rcases c' with rfl | rfl | rfl | rfl | rfl
  · exact ⟨h.1.1, h.1.2.2.2.1⟩
  · exact ⟨h.1, h.2.2.2.1⟩
  · exact ⟨(h4 rfl).1, (h4 rfl).2.1⟩
  · exact h56 (Or.inl rfl)
  · exact h56 (Or.inr rfl)
theorem BC_84 {E : EV} {w w' : WS} {C : List Ch} {T : List Tk} {b : Int} {V : Nat → List Int} {s : Int} (h : BC E w C T b V s) (e : ∀ q, q ≠ 84 → w' q = w q) : BC E w' C T b V s := by
  obtain ⟨g1, g2, g3, g4, ⟨g5, g6⟩, g7, g8⟩ := h
  obtain ⟨k1, k2, k3, k4, k5, k6, k7, k8, k9, k10⟩ := g1
  have e39 := e 39 (by omega)
  have n : NA w w' := NA.same (by rw [e 40 (by omega)]) (e 41 (by omega)) (e 42 (by omega)) (e 43 (by omega))
  refine ⟨⟨(e 27 (by omega)).trans k1, (e 29 (by omega)).trans k2, (e 31 (by omega)).trans k3, (rC_fr (e 5 (by omega)) (e 6 (by omega))).trans k4, RO_fr (e 6 (by omega)) k5, (congrFun (rC_fr (e 14 (by omega)) (e 15 (by omega))) 0).trans k6, RO_fr (e 15 (by omega)) k7, by rw [e39]; exact k8, by rw [e39]; exact k9, by rw [e39]; exact k10⟩, by rw [e39]; exact g2, by rw [e39]; exact g3, g4.fr (e 8 (by omega)) (e 9 (by omega)), ⟨by rw [e 44 (by omega)]; exact g5, g6.mono n (fun k _ => ⟨by rw [e 45 (by omega)], by rw [e 46 (by omega)], by rw [e 47 (by omega)], by rw [e 49 (by omega)]⟩)⟩, g7.fr (by rw [e 50 (by omega)]) (e 51 (by omega)) (e 52 (by omega)) (e 53 (by omega)), by rw [e 40 (by omega)]; exact g8⟩
theorem RepC.again84 {E : EV} {st : MS} {w : WS} (h : RepC E st w) (hm : st.1 = 4) (k : Nat) (v : Int) : RepC E (aAgain st) (up w 84 k v) := by
  have h := h.again hm
  obtain ⟨md, g, c, K, C, T, b, V, s⟩ := st
  obtain ⟨h1, h2⟩ := h
  refine ⟨BC_84 h1 (fun q hq => up_row _ _ _ hq), ?_⟩
  rw [up_row _ _ _ (by omega)]
  exact h2
theorem aW_s (E : EV) (n : Nat) (st : MS) (L : List Int) : aW E (n + 1) st L = if (aEnd E st).1 = 6 then (-1, L, aEnd E st) else if (aEnd E st).1 = 4 then aW E n (aAgain (aEnd E st)) (L ++ [100 * sOf (aEnd E st) + cOf (aEnd E st)]) else (L.length, L, aEnd E st) := rfl
theorem sg_push (w : WS) (c : Nat) {n : Nat} {L : List Int} (h : sg (w c) 0 n = L) (v : Int) : sg (up w c n v c) 0 (n + 1) = L ++ [v] := by
  rw [sg_succ, sg_up_out (Or.inr (Or.inr (by omega))), h, Nat.zero_add, up_same]
theorem c_ways_loop {E : EV} (hE : EOK E) (n : Nat) : ∀ (m : Nat) (st : MS) (L : List Int) (w : WS), n < m → n + L.length = 200 → (st.1 = 2 ∨ st.1 = 3) → AOK E st → RepC E st w → sg (w 84) 0 L.length = L → Ev (f_X8_findWays_30 m L.length w) (fun v w' => v = (aW E n st L).1 ∧ Fr (84 :: LC) w w' ∧ EC E w' ∧ VC w' (vOf (aW E n st L).2.2) ∧ sg (w' 84) 0 (aW E n st L).2.1.length = (aW E n st L).2.1) := by
  induction n with
  | zero =>
    intro m st L w h1 h2 hm hA hR hL
    obtain ⟨m, rfl⟩ : ∃ j, m = j + 1 := ⟨m - 1, by omega⟩
    rw [f_X8_findWays_30_s]
    refine Ev.neg (by first | (simp (disch := omega) only [wr_eq] <;> omega) | omega) ?_
    obtain ⟨a1, a2⟩ := hR.any (by omega)
    refine Ev.ret ⟨?_, Fr.rf, a1, a2, hL⟩
    show (200 : Int) = L.length
    omega
  | succ n ih =>
    intro m st L w h1 h2 hm hA hR hL
    obtain ⟨m, rfl⟩ : ∃ j, m = j + 1 := ⟨m - 1, by omega⟩
    rw [f_X8_findWays_30_s, aW_s]
    refine Ev.pos (by first | (simp (disch := omega) only [wr_eq] <;> omega) | omega) ?_
    refine Ev.bd (c_seek hE hA hR hm) ?_
    rintro v w1 ⟨rfl, q1, q2⟩
    have hAe := AOK.end_ hE hA (by omega)
    have e84 : w1 84 = w 84 := q2 84 (by decide)
    generalize aEnd E st = e at *
    have F1 : Fr (84 :: LC) w w1 := q2.sub (by decide)
    obtain ⟨a1, a2⟩ := q1.any (by omega)
    by_cases m6 : e.1 = 6
    · rw [if_pos m6, m6]
      exact Ev.pos rfl (Ev.ret ⟨rfl, F1, a1, a2, by rw [e84]; exact hL⟩)
    rw [if_neg m6]
    by_cases m4 : e.1 = 4
    · rw [if_pos m4, m4]
      refine Ev.neg (by decide) (Ev.pos rfl ?_)
      obtain ⟨r1, r2, r3, r4, r5, r6⟩ := q1.md4 m4
      rw [r4, r5]
      refine Ev.obe (f_put (i := 83) (n := 200) (x := L.length) rfl (by omega) (by omega)) ?_
      rw [Int.toNat_natCast]
      have hp := sg_push w1 84 (n := L.length) (L := L) (by rw [e84]; exact hL) (100 * sOf e + cOf e)
      have hl : (L ++ [100 * sOf e + cOf e]).length = L.length + 1 := by simp
      have key := ih m (aAgain e) (L ++ [100 * sOf e + cOf e]) (up w1 84 L.length (100 * sOf e + cOf e)) (by omega) (by rw [hl]; omega) (Or.inl (aAgain_v e).2.1) (hAe.1.again m4) (q1.again84 m4 _ _) (by rw [hl]; exact hp)
      rw [hl] at key
      rw [show ((L.length : Int) + 1) = ((L.length + 1 : Nat) : Int) from by omega]
      refine key.mono ?_
      rintro v w2 ⟨y1, y2, y3⟩
      exact ⟨y1, (F1.up (by decide)).tr y2, y3⟩
    · rw [if_neg m4]
      have m5 : e.1 = 5 := by omega
      rw [m5]
      exact Ev.neg (by decide) (Ev.neg (by decide) (Ev.ret ⟨rfl, F1, a1, a2, by rw [e84]; exact hL⟩))
/-- all ways of a subject and pattern -/
noncomputable def aWays (E : EV) (V : Nat → List Int) : Int × List Int × MS := aW E 200 (aSt0 V) []
theorem c_findWays {w : WS} (ho1 : RO w 1 60 1) (ho4 : RO w 4 20 30) (ho7 : RO w 7 60 26) (ho10 : RO w 10 60 26) (ho13 : RO w 13 60 1) {V : Nat → List Int} (hV : rC w 7 60 = V) (vV : VOK V) {a : Int} (np : Int) (hE : EOK (w 27, w 29, w 31, rC w 4 20, rC w 1 60 0, w 0 12, a, np)) : Ev (f_X8_findWays a w) (fun v w' => v = (aWays (w 27, w 29, w 31, rC w 4 20, rC w 1 60 0, w 0 12, a, np) V).1 ∧ Fr [8, 9, 11, 12, 14, 15, 39, 40, 41, 42, 43, 44, 45, 46, 47, 49, 50, 51, 52, 53, 84] w w' ∧ RO w' 10 60 26 ∧ rC w' 10 60 = V ∧ RO w' 13 60 1 ∧ VC w' (vOf (aWays (w 27, w 29, w 31, rC w 4 20, rC w 1 60 0, w 0 12, a, np) V).2.2) ∧ sg (w' 84) 0 (aWays (w 27, w 29, w 31, rC w 4 20, rC w 1 60 0, w 0 12, a, np) V).2.1.length = (aWays (w 27, w 29, w 31, rC w 4 20, rC w 1 60 0, w 0 12, a, np) V).2.1) := by
  unfold f_X8_findWays
  refine Ev.bd (f_copyAll RI_10 RI_7 (by omega) ho10 ho7) ?_
  rintro v w1 ⟨-, q1, q2, q3⟩
  have q1 : Fr [11, 12] w w1 := q1
  rw [hV] at q3
  have e : ∀ c, c ≠ 11 → c ≠ 12 → w1 c = w c := fun c h1 h2 => q1 c (by simp; omega)
  have hEA := hE.2.2.2.2.2.2.2.1
  have o7 : RO w1 7 60 26 := RO_fr (e 9 (by omega) (by omega)) ho7
  have r7 : rC w1 7 60 = V := (rC_fr (e 8 (by omega) (by omega)) (e 9 (by omega) (by omega))).trans hV
  have r4 : rC w1 4 20 = rC w 4 20 := rC_fr (e 5 (by omega) (by omega)) (e 6 (by omega) (by omega))
  have r1 : rC w1 1 60 = rC w 1 60 := rC_fr (e 2 (by omega) (by omega)) (e 3 (by omega) (by omega))
  have e0 : w1 0 = w 0 := e 0 (by omega) (by omega)
  have pre := c_prepare RI_1 (w := w1) (RO_fr (e 3 (by omega) (by omega)) ho1) (RO_fr (e 6 (by omega) (by omega)) ho4) (RO_fr (e 15 (by omega) (by omega)) ho13) o7 (r := 0) (p := a) (an := w1 0 12) (by omega) (by omega) (by rw [e0]; exact hEA) np
  rw [e 27 (by omega) (by omega), e 29 (by omega) (by omega), e 31 (by omega) (by omega), r4, r1, r7, e0] at pre
  rw [e0]
  refine Ev.bd pre ?_
  rintro v w2 ⟨-, p1, p2⟩
  have p2 : RepC (w 27, w 29, w 31, rC w 4 20, rC w 1 60 0, w 0 12, a, np) (aSt0 V) w2 := p2
  generalize (w 27, w 29, w 31, rC w 4 20, rC w 1 60 0, w 0 12, a, np) = E at *
  refine Ev.mono (c_ways_loop hE 200 FU (aSt0 V) [] w2 (by unfold FU; omega) rfl (Or.inr rfl) (aSt0_ok vV) p2 rfl) ?_
  rintro v w3 ⟨y1, y2, y3, y4, y5⟩
  have G : Fr [8, 9, 14, 15, 39, 40, 41, 42, 43, 44, 45, 46, 47, 49, 50, 51, 52, 53, 84] w1 w3 := (p1.sub (by simp)).tr (y2.sub (by decide))
  exact ⟨y1, (q1.sub (by decide)).tr (G.sub (by decide)), RO_fr (G 12 (by decide)) q2, (rC_fr (G 11 (by decide)) (G 12 (by decide))).trans q3, y3.2.2.2.2.2.2.1, y4, y5⟩
