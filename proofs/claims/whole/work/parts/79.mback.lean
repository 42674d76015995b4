def GB (E : EV) (w : WS) (st : MS) (v : Int) (w' : WS) : Prop := FM w w' ∧ RepR E st w' ∧ (v = if st.1 ≤ 1 then 1 else 0) ∧ (st.1 = 5 → w' 85 41 = 1) ∧ w' 85 44 = (if st.1 = 2 then 1 else 0)
theorem GB.pre {E : EV} {w w1 w2 : WS} {st : MS} {v : Int} (F : FM w w1) (h : GB E w1 st v w2) : GB E w st v w2 := ⟨F.tr h.1, h.2⟩
theorem m_goesBack {E : EV} (hE : EOK E) {w : WS} {g c : Int} {K : List Nd} {C : List Ch} {T : List Tk} {b : Int} {V : Nat → List Int} {s : Int} (hA : AOK E (2, g, c, K, C, T, b, V, s)) (hR : RepR E (2, g, c, K, C, T, b, V, s) w) (h44 : w 85 44 = 0) : Ev (f_X9_goesBack w) (GB E w (aBack E g c K C T b V s)) := by
  obtain ⟨ha, hbz⟩ := hA
  obtain ⟨h, hN⟩ := hR
  have h34 := h.2.2.2.2.1.1
  have h41 := h.2.2.2.2.2.2.2.1
  cases C with
  | nil =>
    have h34 : w 85 34 = 0 := h34
    unfold f_X9_goesBack
    rw [h34]
    refine Ev.pos rfl (Ev.ret ⟨FM.rf, ⟨h.1, h.2.1, h.2.2.1, h.2.2.2.1, h.2.2.2.2.2.2.2⟩, rfl, fun e => absurd (show (3 : Nat) = 5 from e) (by decide), h44⟩)
  | cons x C =>
    obtain ⟨p, c', K', n⟩ := x
    obtain ⟨g1, g2, g3, g4, g5, g6, g7, g8⟩ := ha
    obtain ⟨r1, r2, r3, r4, r5, r6, r7, r8, r9, r10, r11⟩ := g6
    obtain ⟨y1, ⟨far, f1, f2, f3, f4, f5⟩, y3, y4, y5, y6, y7⟩ := h.2.2.2.2.1.2
    rw [List.length_cons] at h34
    have hl := hE.2.2.2.2.2.2.1
    have hEN := hE.2.2.1
    have hb1 : 1 ≤ b := by
      by_cases q : b = 0
      · cases hbz q
      · omega
    have hp := hE.1 p r1 r2
    unfold PK1 at hp
    unfold choiK at r3
    have e34 : w 85 34 - 1 = (C.length : Int) := by omega
    have hT : (T.take n).length = n := by rw [List.length_take, Nat.min_eq_left r8]
    unfold f_X9_goesBack
    rw [h41]
    refine Ev.neg (by first | (simp (disch := omega) only [wr_eq] <;> omega) | omega) ?_
    refine Ev.pos rfl ?_
    rw [e34]
    simp (maxSteps := 10000000) (disch := decide) only [up_row, up_same, up_slot]
    rw [ixn (k := C.length) (by omega), Int.toNat_natCast, y1]
    refine Ev.pos (by first | (simp (disch := omega) only [wr_eq] <;> omega) | omega) ?_; refine Ev.pos (by first | (simp (disch := omega) only [wr_eq] <;> omega) | omega) ?_; refine Ev.pos (by first | (simp (disch := omega) only [wr_eq] <;> omega) | omega) ?_; refine Ev.pos (by first | (simp (disch := omega) only [wr_eq] <;> omega) | omega) ?_; refine Ev.pos (by first | (simp (disch := omega) only [wr_eq] <;> omega) | omega) ?_; refine Ev.pos (by first | (simp (disch := omega) only [wr_eq] <;> omega) | omega) ?_; refine Ev.pos (by first | (simp (disch := omega) only [wr_eq] <;> omega) | omega) ?_
    -- the world after the choice was taken
    have hw5 : ∃ w5, w5 = up (up (up (up (up w 85 34 (C.length : Int)) 85 39 (w 106 C.length)) 85 40 (w 107 C.length)) 85 38 (w 109 C.length)) 85 27 (w 110 C.length) := ⟨_, rfl⟩
    obtain ⟨w5, hw5⟩ := hw5
    rw [← hw5]
    have e : ∀ i, i ≠ 85 → w5 i = w i := fun i hi => by
      rw [hw5, up_row _ _ _ hi, up_row _ _ _ hi, up_row _ _ _ hi, up_row _ _ _ hi, up_row _ _ _ hi]
    have sl : ∀ i, i ≠ 27 → i ≠ 38 → i ≠ 40 → i ≠ 39 → i ≠ 34 → w5 85 i = w 85 i := fun i a1 a2 a3 a4 a5 => by
      rw [hw5, up_slot _ _ _ _ a1, up_slot _ _ _ _ a2, up_slot _ _ _ _ a3, up_slot _ _ _ _ a4, up_slot _ _ _ _ a5]
    have s27 : w5 85 27 = w 110 C.length := by rw [hw5, up_same]
    have s38 : w5 85 38 = (n : Int) := by rw [hw5, up_slot _ _ _ _ (by omega), up_same, y3]
    have s40 : w5 85 40 = w 107 C.length := by rw [hw5, up_slot _ _ _ _ (by omega), up_slot _ _ _ _ (by omega), up_same]
    have s39 : w5 85 39 = w 106 C.length := by rw [hw5, up_slot _ _ _ _ (by omega), up_slot _ _ _ _ (by omega), up_slot _ _ _ _ (by omega), up_same]
    have s34 : w5 85 34 = (C.length : Int) := by rw [hw5, up_slot _ _ _ _ (by omega), up_slot _ _ _ _ (by omega), up_slot _ _ _ _ (by omega), up_slot _ _ _ _ (by omega), up_same]
    have F5 : FM w w5 := by
      rw [hw5]
      exact ((((FM.f85 w 34 _ (by decide)).put 39 _ (by decide)).put 40 _ (by decide)).put 38 _ (by decide)).put 27 _ (by decide)
    clear hw5
    obtain ⟨t1, t2, t3, t4, -, t7, t8, t9, t10⟩ := h
    have hNR : ∀ q, NR q w w5 := fun q => NR.same (e 101 (by omega)) (e 102 (by omega)) (e 103 (by omega)) (e 104 (by omega))
    have B5 : BR E w5 C (T.take n) b V s := by
      refine ⟨t1.fr F5, (sl 22 (by omega) (by omega) (by omega) (by omega) (by omega)).trans t2, (sl 43 (by omega) (by omega) (by omega) (by omega) (by omega)).trans t3, t4.fr (e 89 (by omega)) (e 90 (by omega)), ⟨s34, ?_⟩, ?_, by rw [s27]; exact y4, (sl 41 (by omega) (by omega) (by omega) (by omega) (by omega)).trans t9, (sl 42 (by omega) (by omega) (by omega) (by omega) (by omega)).trans t10⟩
      · rw [s27]
        refine y7.mono (hNR _) (Int.le_refl _) (fun q _ => ?_)
        rw [e 105 (by omega), e 106 (by omega), e 107 (by omega), e 108 (by omega), e 109 (by omega), e 110 (by omega)]
        exact ⟨rfl, rfl, rfl, rfl, rfl, rfl⟩
      · refine ⟨by rw [s38, hT], fun k hk x hx => ?_⟩
        rw [hT] at hk
        rw [e 111 (by omega), e 112 (by omega), e 113 (by omega)]
        rw [List.getElem?_take_of_lt hk] at hx
        exact t7.2 k (by omega) x hx
    have k5 : chR E w5 (w5 85 27) K' (w5 85 40) := by
      rw [s27, s40]
      exact y6.mono (hNR _) (Int.le_refl _)
    have a44 : w5 85 44 = 0 := (sl 44 (by omega) (by omega) (by omega) (by omega) (by omega)).trans h44
    have n5 : w5 85 27 ≤ 4 * b + 1 := by omega
    have ends : ∀ {F : Option (Int × WS)} {st : MS}, Ev F (GB E w5 st) → Ev F (GB E w st) := fun hh => hh.mono (fun _ _ q => GB.pre F5 q)
    refine ends ?_
    have e91 : w 91 p.toNat = pk E p := by rw [t1.1]; rfl
    have e93 : w 93 p.toNat = ps E p := by rw [t1.2.2.1]; rfl
    have e92 : w5 92 p.toNat = pf E p := by rw [e 92 (by omega), t1.2.1]; rfl
    rw [wr_eq (a := p) (by omega), e91, e93, f2]
    have h20 := t1.2.2.2.2.2.2.1
    have h27 := B5.2.2.2.2.2.2.1
    show Ev _ (GB E w5 (if pk E p = 124 then _ else _))
    by_cases k124 : pk E p = 124
    · rw [if_pos k124, k124]
      have hfar : far = 0 := by omega
      refine Ev.pos rfl ?_
      refine Ev.pos (by first | (simp (disch := omega) only [wr_eq] <;> omega) | omega) ?_
      rw [← s40]
      refine Ev.obe (m_addGoal (w := w5) (by omega) 0 (ps E p) 0 (w5 85 40)) ?_
      have nw := goaW_new w5 0 (ps E p) 0 (w5 85 40)
      have B3 := (B5.goal 0 (ps E p) 0 (w5 85 40)).fld 40 (w5 85 27) (Or.inr (Or.inl rfl))
      have e' : ∀ i, i ≠ 85 → (up (goaW w5 0 (ps E p) 0 (w5 85 40)) 85 40 (w5 85 27)) i = (goaW w5 0 (ps E p) 0 (w5 85 40)) i := fun i hi => up_row _ _ _ hi
      have n3 : (up (goaW w5 0 (ps E p) 0 (w5 85 40)) 85 40 (w5 85 27)) 85 27 = w5 85 27 + 1 := by rw [up_slot _ _ _ _ (by omega), goaW_n]
      have e40 : (up (goaW w5 0 (ps E p) 0 (w5 85 40)) 85 40 (w5 85 27)) 85 40 = w5 85 27 := up_same _ _ _ _
      refine Ev.ret ⟨(goaW_FM w5 0 (ps E p) 0 (w5 85 40)).put 40 _ (by decide), ⟨B3, ?_, ?_, ?_, ?_, ?_, ?_⟩, rfl, fun e => absurd (show (0 : Nat) = 5 from e) (by decide), ?_⟩
      · rw [n3]; omega
      · rw [up_slot _ _ _ _ (by omega), goaW_85 w5 0 (ps E p) 0 (w5 85 40) (by omega), s39]; omega
      · rw [n3, e40]; omega
      · rw [e40, e' 101 (by omega)]; exact nw.1
      · rw [e40, e' 102 (by omega)]; exact nw.2.1
      · rw [e40, e' 104 (by omega), nw.2.2.2, n3]
        exact (k5.mono (goaW_NR w5 0 (ps E p) 0 (w5 85 40)) (by omega)).fld 40 _
      · rw [up_slot _ _ _ _ (by omega), goaW_85 w5 0 (ps E p) 0 (w5 85 40) (by omega)]; exact a44
    rw [if_neg k124]
    by_cases k42 : pk E p = 42
    · rw [if_neg (by omega : ¬ pk E p = 103), if_pos k42, k42]
      refine Ev.neg (by decide) (Ev.pos rfl ?_)
      rw [h20]
      unfold f_X9_backAgain
      by_cases q : ((eS E).length : Int) < c' + 1
      · rw [if_pos q]
        refine Ev.pos (by first | (simp (disch := omega) only [wr_eq] <;> omega) | omega) ?_
        refine Ev.obe rfl (Ev.pos (Or.inl rfl) (Ev.ret ⟨FM.f85 w5 44 _ (by decide), ⟨B5.fld 44 _ (Or.inr (Or.inr rfl)), ?_⟩, rfl, fun e => absurd (show (2 : Nat) = 5 from e) (by decide), up_same _ _ _ _⟩))
        rw [up_slot _ _ _ _ (by omega)]; exact n5
      · rw [if_neg q]
        refine Ev.neg (by first | (simp (disch := omega) only [wr_eq] <;> omega) | omega) ?_
        have B2 := B5.choi (p := p) (c := c' + 1) (x := w5 85 39) (z := w5 85 40) (u := far + 1) (far := far + 1) (K := K') (by rw [s39]; omega) (by omega) (by rw [s39]; exact f3) (Or.inl k42) (fun e => by omega) k5
        rw [hT] at B2
        rw [← s39, ← s40]
        refine Ev.obe (m_addChoice (by omega) p (w5 85 39) (w5 85 40) (far + 1)) ?_
        refine Ev.ret ⟨(chmW_FM w5 p (w5 85 39) (w5 85 40) (far + 1)).put 39 _ (by decide), ⟨B2.fld 39 _ (Or.inl rfl), ?_, ?_, ?_⟩, rfl, fun e => absurd (show (1 : Nat) = 5 from e) (by decide), ?_⟩
        · rw [up_slot _ _ _ _ (by omega), chmW_85 w5 p _ _ _ (by omega)]; exact n5
        · rw [up_same, chmW_85 w5 p _ _ _ (by omega), s39]; omega
        · rw [up_slot _ _ _ _ (by omega), up_slot _ _ _ _ (by omega), chmW_85 w5 p _ _ _ (by omega), chmW_85 w5 p _ _ _ (by omega)]
          exact (chmW_ch p _ _ _ k5).fld 39 _
        · rw [up_slot _ _ _ _ (by omega), chmW_85 w5 p _ _ _ (by omega)]; exact a44
    by_cases k103 : pk E p = 103
    · rw [if_pos k103]
      have hfar : far = 0 := by omega
      have kk := k103
      rw [k103]
      refine Ev.neg (by decide) (Ev.neg (by decide) (Ev.pos rfl ?_))
      have hcx : w5 85 39 = c' := by rw [s39]; omega
      rw [← s40, ← s39]
      refine Ev.obe (m_addGoal (by omega) 3 p (w5 85 39) (w5 85 40)) ?_
      refine Ev.pos (by first | (simp (disch := omega) only [wr_eq] <;> omega) | omega) ?_
      rw [goaW_fr w5 3 p _ _ 92 (by simp), e92]
      have B2 := B5.goal 3 p (w5 85 39) (w5 85 40)
      have n2 := goaW_n w5 3 p (w5 85 39) (w5 85 40)
      have F2 := goaW_FM w5 3 p (w5 85 39) (w5 85 40)
      have k2 := goaW_ch (E := E) (p := p) (f := c') (x := 3) (y := p) (z := w5 85 39) h27 (by rw [kk]; rfl) (by unfold go; rw [if_pos kk]) (fun _ => hcx) k5
      have c2 : goaW w5 3 p (w5 85 39) (w5 85 40) 85 39 = c' := (goaW_85 w5 3 p _ _ (by omega)).trans hcx
      have a2 : goaW w5 3 p (w5 85 39) (w5 85 40) 85 44 = 0 := (goaW_85 w5 3 p _ _ (by omega)).trans a44
      generalize goaW w5 3 p (w5 85 39) (w5 85 40) = w6 at B2 n2 F2 k2 c2 a2 ⊢
      refine Ev.obe (m_addGoal (by omega) 0 (pf E p) 0 (w5 85 27)) ?_
      have nw := goaW_new w6 0 (pf E p) 0 (w5 85 27)
      have B3 := (B2.goal 0 (pf E p) 0 (w5 85 27)).fld 40 (w6 85 27) (Or.inr (Or.inl rfl))
      have e' : ∀ i, i ≠ 85 → (up (goaW w6 0 (pf E p) 0 (w5 85 27)) 85 40 (w6 85 27)) i = (goaW w6 0 (pf E p) 0 (w5 85 27)) i := fun i hi => up_row _ _ _ hi
      have n3 : (up (goaW w6 0 (pf E p) 0 (w5 85 27)) 85 40 (w6 85 27)) 85 27 = w6 85 27 + 1 := by rw [up_slot _ _ _ _ (by omega), goaW_n]
      have e40 : (up (goaW w6 0 (pf E p) 0 (w5 85 27)) 85 40 (w6 85 27)) 85 40 = w6 85 27 := up_same _ _ _ _
      refine Ev.ret ⟨F2.tr ((goaW_FM w6 0 (pf E p) 0 (w5 85 27)).put 40 _ (by decide)), ⟨B3, ?_, ?_, ?_, ?_, ?_, ?_⟩, rfl, fun e => absurd (show (0 : Nat) = 5 from e) (by decide), ?_⟩
      · rw [n3]; omega
      · rw [up_slot _ _ _ _ (by omega), goaW_85 w6 0 _ 0 _ (by omega), c2]
      · rw [n3, e40]; omega
      · rw [e40, e' 101 (by omega)]; exact nw.1
      · rw [e40, e' 102 (by omega)]; exact nw.2.1
      · rw [e40, e' 104 (by omega), nw.2.2.2, n3]
        rw [← n2] at k2
        exact (k2.mono (goaW_NR w6 0 (pf E p) 0 (w5 85 27)) (by omega)).fld 40 _
      · rw [up_slot _ _ _ _ (by omega), goaW_85 w6 0 _ 0 _ (by omega)]; exact a2
    rw [if_neg k103, if_neg k42]
    by_cases k120 : pk E p = 120
    · rw [if_pos k120]
      have hpre := f5 k120
      rw [k120]
      refine Ev.neg (by decide) (Ev.neg (by decide) (Ev.neg (by decide) (Ev.pos rfl ?_)))
      have hbal := m_balanced hE B5.1 (at_ := w 106 C.length) (far := far) f3 (by omega) hpre
      refine Ev.obe hbal ?_
      have hb2 := bal_pre (S := eS E) (at_ := w 106 C.length) 61 far hpre.1
      rw [hpre.2] at hb2
      rw [f1] at hb2 ⊢
      unfold aBal f_X9_backAgain
      have hrg := bal_rng (eS E) 61 0 c'
      generalize bal (eS E) 61 0 c' = e9 at *
      by_cases q : e9 = -1
      · rw [if_pos q, q]
        refine Ev.pos rfl (Ev.obe rfl (Ev.pos (Or.inl rfl) (Ev.ret ⟨FM.f85 w5 44 _ (by decide), ⟨B5.fld 44 _ (Or.inr (Or.inr rfl)), ?_⟩, rfl, fun e => absurd (show (2 : Nat) = 5 from e) (by decide), up_same _ _ _ _⟩)))
        rw [up_slot _ _ _ _ (by omega)]; exact n5
      · rw [if_neg q]
        refine Ev.neg (by first | (simp (disch := omega) only [wr_eq] <;> omega) | omega) ?_
        obtain ⟨far2, z1, z2, z3⟩ := hb2 q
        have B2 := B5.choi (p := p) (c := e9) (x := w5 85 39) (z := w5 85 40) (u := e9 - w5 85 39) (far := far2) (K := K') (by rw [s39]; omega) (by rw [s39]; omega) (by rw [s39]; exact f3) (Or.inr (Or.inl k120)) (fun _ => by rw [s39]; exact z3) k5
        refine Ev.obe (m_addChoice (by omega) p (w5 85 39) (w5 85 40) (e9 - w5 85 39)) ?_
        refine Ev.ret ⟨(chmW_FM w5 p (w5 85 39) (w5 85 40) _).put 39 _ (by decide), ⟨B2.fld 39 _ (Or.inl rfl), ?_, up_same _ _ _ _, ?_⟩, rfl, fun e => absurd (show (1 : Nat) = 5 from e) (by decide), ?_⟩
        · rw [up_slot _ _ _ _ (by omega), chmW_85 w5 p _ _ _ (by omega)]; exact n5
        · rw [up_slot _ _ _ _ (by omega), up_slot _ _ _ _ (by omega), chmW_85 w5 p _ _ _ (by omega), chmW_85 w5 p _ _ _ (by omega)]
          exact (chmW_ch p _ _ _ k5).fld 39 _
        · rw [up_slot _ _ _ _ (by omega), chmW_85 w5 p _ _ _ (by omega)]; exact a44
    rw [if_neg k120]
    have k102 : pk E p = 102 := by omega
    rw [k102]
    refine Ev.neg (by decide) (Ev.neg (by decide) (Ev.neg (by decide) (Ev.neg (by decide) ?_)))
    have F6 : FM w5 (up w5 85 41 1) := FM.f85 w5 41 _ (by decide)
    refine Ev.ret ⟨F6, ⟨B5.1.fr F6, (up_slot _ _ _ _ (by omega)).trans B5.2.1, B5.2.2.2.1.fr (up_row _ _ _ (by omega)) (up_row _ _ _ (by omega)), (up_slot _ _ _ _ (by omega)).trans B5.2.2.2.2.2.2.2.2⟩, rfl, fun _ => up_same _ _ _ _, (up_slot _ _ _ _ (by omega)).trans a44⟩
