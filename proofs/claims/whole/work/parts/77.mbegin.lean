def MB (E : EV) (w : WS) (st : MS) (v : Int) (w' : WS) : Prop := FM w w' ∧ RepR E st w' ∧ (v = if st.1 ≤ 1 then 1 else 0) ∧ (st.1 = 5 → w' 85 41 = 1)
theorem MB.pre {E : EV} {w w1 w2 : WS} {st : MS} {v : Int} (F : FM w w1) (h : MB E w1 st v w2) : MB E w st v w2 := ⟨F.tr h.1, h.2⟩
/-- a pattern's node behind it, and itself ahead -/
theorem m_two {E : EV} {w : WS} {g c : Int} {K : List Nd} {C : List Ch} {T : List Tk} {b : Int} {V : Nat → List Int} {s x y z q nx : Int} (h : BR E w C T b V s) (hN : w 85 27 + 2 ≤ 4 * b + 3) (hb : b ≤ 3000) (hc : w 85 39 = c) (hx : x = gk (pk E g)) (hy : y = go E g) (hz : pk E g ≠ 38 → z = c) (hk : chR E w (w 85 27) K nx) : Ev (ob (f_X9_addGoal x y z nx w) fun r1 w1 => ob (f_X9_addGoal 0 q 0 ((up w1 85 40 r1) 85 40) (up w1 85 40 r1)) fun r2 w2 => some (1, (up w2 85 40 r2))) (MB E w (0, q, c, (g, c) :: K, C, T, b, V, s)) := by
  have h0 := h.2.2.2.2.2.2.1
  refine Ev.obe (m_addGoal (by omega) x y z nx) ?_
  have B1 := (h.goal x y z nx).fld 40 (w 85 27) (Or.inr (Or.inl rfl))
  have F1 : FM w (up (goaW w x y z nx) 85 40 (w 85 27)) := (goaW_FM w x y z nx).put 40 _ (by decide)
  have n1 : (up (goaW w x y z nx) 85 40 (w 85 27)) 85 27 = w 85 27 + 1 := by rw [up_slot _ _ _ _ (by omega), goaW_n]
  have c1 : (up (goaW w x y z nx) 85 40 (w 85 27)) 85 39 = c := by rw [up_slot _ _ _ _ (by omega), goaW_85 w x y z nx (by omega), hc]
  have k1 := (goaW_ch (p := g) (f := c) h0 hx hy hz hk).fld 40 (w 85 27)
  rw [up_same]
  generalize up (goaW w x y z nx) 85 40 (w 85 27) = w1 at B1 F1 n1 c1 k1 ⊢
  refine Ev.obe (m_addGoal (by omega) 0 q 0 (w 85 27)) ?_
  have B2 := (B1.goal 0 q 0 (w 85 27)).fld 40 (w1 85 27) (Or.inr (Or.inl rfl))
  have nw := goaW_new w1 0 q 0 (w 85 27)
  have e : ∀ i, i ≠ 85 → (up (goaW w1 0 q 0 (w 85 27)) 85 40 (w1 85 27)) i = (goaW w1 0 q 0 (w 85 27)) i := fun i hi => up_row _ _ _ hi
  have n2 : (up (goaW w1 0 q 0 (w 85 27)) 85 40 (w1 85 27)) 85 27 = w1 85 27 + 1 := by rw [up_slot _ _ _ _ (by omega), goaW_n]
  have e40 : (up (goaW w1 0 q 0 (w 85 27)) 85 40 (w1 85 27)) 85 40 = w1 85 27 := up_same _ _ _ _
  have k2 : chR E (up (goaW w1 0 q 0 (w 85 27)) 85 40 (w1 85 27)) (w1 85 27 + 1) ((g, c) :: K) (w 85 27) := by
    rw [← n1] at k1
    exact (k1.mono (goaW_NR w1 0 q 0 (w 85 27)) (by omega)).fld 40 (w1 85 27)
  refine Ev.ret ⟨F1.tr ((goaW_FM w1 0 q 0 (w 85 27)).put 40 _ (by decide)), ⟨B2, ?_, ?_, ?_, ?_, ?_, ?_⟩, rfl, fun e => absurd (show (0 : Nat) = 5 from e) (by decide)⟩
  · rw [n2]; omega
  · rw [up_slot _ _ _ _ (by omega), goaW_85 w1 0 q 0 (w 85 27) (by omega), c1]
  · rw [n2, e40]; omega
  · rw [e40, e 101 (by omega)]; exact nw.1
  · rw [e40, e 102 (by omega)]; exact nw.2.1
  · rw [e40, e 104 (by omega), nw.2.2.2, n2]
    exact k2
theorem m_begin {E : EV} (hE : EOK E) {w : WS} {g c : Int} {K : List Nd} {C : List Ch} {T : List Tk} {b : Int} {V : Nat → List Int} {s nx : Int} (hA : AOK E (0, g, c, K, C, T, b, V, s)) (h : BR E w C T b V s) (hN : w 85 27 ≤ 4 * b + 3) (hc : w 85 39 = c) (hk : chR E w (w 85 27) K nx) : Ev (f_X9_begin g nx w) (MB E w (aBegin E g c K C T b V s)) := by
  obtain ⟨ha, hg1, hg2, hK, hKC, hs, hcl, hgn, hdn⟩ := hA
  have hp := hE.1 g hg1 hg2
  have hEN := hE.2.2.1
  have hl := hE.2.2.2.2.2.2.1
  have hb0 := ha.1
  have hb3 := ha.2.1
  have h22 := h.2.1
  unfold f_X9_begin aBegin
  rw [h22, up_same]
  by_cases hb : 3000 ≤ b
  · rw [if_pos hb]
    refine Ev.pos (by first | (simp (disch := omega) only [wr_eq] <;> omega) | omega) ?_
    have F1 : FM w (up (up w 85 22 (b + 1)) 85 42 1) := (FM.f85 w 22 _ (by decide)).put 42 _ (by decide)
    exact Ev.ret ⟨F1, ⟨h.1.fr F1, h.2.2.2.1.fr (by rw [up_row _ _ _ (by omega), up_row _ _ _ (by omega)]) (by rw [up_row _ _ _ (by omega), up_row _ _ _ (by omega)]), up_same _ _ _ _⟩, rfl, fun e => absurd (show (6 : Nat) = 5 from e) (by decide)⟩
  rw [if_neg hb]
  refine Ev.neg (by first | (simp (disch := omega) only [wr_eq] <;> omega) | omega) ?_
  have B1 := h.begun.fld 40 nx (Or.inr (Or.inl rfl))
  have F1 : FM w (up (up w 85 22 (b + 1)) 85 40 nx) := (FM.f85 w 22 _ (by decide)).put 40 _ (by decide)
  have n1 : (up (up w 85 22 (b + 1)) 85 40 nx) 85 27 = w 85 27 := by rw [up_slot _ _ _ _ (by omega), up_slot _ _ _ _ (by omega)]
  have c1 : (up (up w 85 22 (b + 1)) 85 40 nx) 85 39 = c := by rw [up_slot _ _ _ _ (by omega), up_slot _ _ _ _ (by omega), hc]
  have g1 : (up (up w 85 22 (b + 1)) 85 40 nx) 85 40 = nx := up_same _ _ _ _
  have k1 : chR E (up (up w 85 22 (b + 1)) 85 40 nx) ((up (up w 85 22 (b + 1)) 85 40 nx) 85 27) K nx := by
    rw [n1]
    exact (hk.fld 22 _).fld 40 _
  have e91 : (up w 85 22 (b + 1)) 91 (wr g).toNat = pk E g := by
    rw [up_row _ _ _ (by omega), wr_eq (by omega), h.1.1]
    rfl
  have e92 : (up w 85 22 (b + 1)) 92 (wr g).toNat = pf E g := by
    rw [up_row _ _ _ (by omega), wr_eq (by omega), h.1.2.1]
    rfl
  have e93 : (up w 85 22 (b + 1)) 93 (wr g).toNat = ps E g := by
    rw [up_row _ _ _ (by omega), wr_eq (by omega), h.1.2.2.1]
    rfl
  rw [e91, e92, e93]
  generalize up (up w 85 22 (b + 1)) 85 40 nx = w1 at B1 F1 n1 c1 g1 k1 ⊢
  rw [c1]
  refine Ev.pos (by first | (simp (disch := omega) only [wr_eq] <;> omega) | omega) ?_; refine Ev.pos (by first | (simp (disch := omega) only [wr_eq] <;> omega) | omega) ?_; refine Ev.pos (by first | (simp (disch := omega) only [wr_eq] <;> omega) | omega) ?_
  have h34 := B1.2.2.2.2.1.1
  have ends : ∀ {F : Option (Int × WS)} {st : MS}, Ev F (MB E w1 st) → Ev F (MB E w st) := fun hh => hh.mono (fun _ _ q => MB.pre F1 q)
  refine ends ?_
  unfold PK1 at hp
  have bd : w1 85 27 + 2 ≤ 4 * (b + 1) + 3 := by omega
  by_cases k38 : pk E g = 38
  · rw [if_pos (Or.inl k38)]
    rw [k38]
    refine Ev.neg (by first | (simp (disch := omega) only [wr_eq] <;> omega) | omega) ?_; refine Ev.pos (by first | (simp (disch := omega) only [wr_eq] <;> omega) | omega) ?_
    exact m_two B1 bd (by omega) c1 (by rw [k38]; rfl) (by unfold go; rw [if_neg (by omega)]) (fun e => absurd k38 e) k1
  by_cases k36 : pk E g = 36
  · rw [if_pos (Or.inr (Or.inl k36))]
    rw [k36]
    refine Ev.pos (by first | (simp (disch := omega) only [wr_eq] <;> omega) | omega) ?_
    exact m_two B1 bd (by omega) c1 (by rw [k36]; rfl) (by unfold go; rw [if_neg (by omega)]) (fun _ => rfl) k1
  by_cases k46 : pk E g = 46
  · rw [if_pos (Or.inr (Or.inr k46))]
    rw [k46]
    refine Ev.neg (by first | (simp (disch := omega) only [wr_eq] <;> omega) | omega) ?_; refine Ev.neg (by first | (simp (disch := omega) only [wr_eq] <;> omega) | omega) ?_; refine Ev.neg (by first | (simp (disch := omega) only [wr_eq] <;> omega) | omega) ?_; refine Ev.pos (by first | (simp (disch := omega) only [wr_eq] <;> omega) | omega) ?_
    exact m_two B1 bd (by omega) c1 (by rw [k46]; rfl) (by unfold go; rw [if_neg (by omega)]) (fun _ => rfl) k1
  have k1n : ¬ (pk E g = 38 ∨ pk E g = 36 ∨ pk E g = 46) := by omega
  rw [if_neg k1n]
  have leave : (pk E g = 42 ∨ pk E g = 102 ∨ pk E g = 103) → Ev (ob (f_X9_addChoice g c nx 0 w1) fun _ w5 => some (1, w5)) (MB E w1 (1, g, c, K, (g, c, K, T.length) :: C, T, b + 1, V, s)) := by
    intro hk3
    refine Ev.obe (m_addChoice (by omega) g c nx 0) ?_
    have B2 := B1.choi (p := g) (c := c) (x := c) (z := nx) (u := 0) (far := 0) (K := K) (by omega) rfl (by omega) (Or.inr (Or.inr rfl)) (fun e => by omega) k1
    refine Ev.ret ⟨chmW_FM w1 g c nx 0, ⟨B2, ?_, ?_, ?_⟩, rfl, fun e => absurd (show (1 : Nat) = 5 from e) (by decide)⟩
    · rw [chmW_85 w1 g c nx 0 (by omega)]; omega
    · rw [chmW_85 w1 g c nx 0 (by omega)]; exact c1
    · rw [chmW_85 w1 g c nx 0 (by omega), chmW_85 w1 g c nx 0 (by omega), g1]
      exact chmW_ch g c nx 0 k1
  by_cases k124 : pk E g = 124
  · rw [if_pos k124]
    rw [k124]
    refine Ev.neg (by first | (simp (disch := omega) only [wr_eq] <;> omega) | omega) ?_; refine Ev.neg (by first | (simp (disch := omega) only [wr_eq] <;> omega) | omega) ?_; refine Ev.neg (by first | (simp (disch := omega) only [wr_eq] <;> omega) | omega) ?_; refine Ev.neg (by first | (simp (disch := omega) only [wr_eq] <;> omega) | omega) ?_; refine Ev.neg (by first | (simp (disch := omega) only [wr_eq] <;> omega) | omega) ?_; refine Ev.neg (by first | (simp (disch := omega) only [wr_eq] <;> omega) | omega) ?_; refine Ev.neg (by first | (simp (disch := omega) only [wr_eq] <;> omega) | omega) ?_; refine Ev.neg (by first | (simp (disch := omega) only [wr_eq] <;> omega) | omega) ?_; refine Ev.neg (by first | (simp (disch := omega) only [wr_eq] <;> omega) | omega) ?_; refine Ev.pos (by first | (simp (disch := omega) only [wr_eq] <;> omega) | omega) ?_
    refine Ev.obe (m_addChoice (by omega) g c nx 0) ?_
    have B2 := B1.choi (p := g) (c := c) (x := c) (z := nx) (u := 0) (far := 0) (K := K) (by omega) rfl (by omega) (Or.inr (Or.inr rfl)) (fun e => by omega) k1
    have n2 : chmW w1 g c nx 0 85 27 = w1 85 27 := chmW_85 w1 g c nx 0 (by omega)
    have c2 : chmW w1 g c nx 0 85 39 = c := (chmW_85 w1 g c nx 0 (by omega)).trans c1
    have k2 : chR E (chmW w1 g c nx 0) (chmW w1 g c nx 0 85 27) K nx := by rw [n2]; exact chmW_ch g c nx 0 k1
    have F2 := chmW_FM w1 g c nx 0
    generalize chmW w1 g c nx 0 = w2 at B2 n2 c2 k2 F2 ⊢
    have h0 := B2.2.2.2.2.2.2.1
    refine Ev.obe (m_addGoal (by omega) 0 (pf E g) 0 nx) ?_
    have nw := goaW_new w2 0 (pf E g) 0 nx
    have B3 := (B2.goal 0 (pf E g) 0 nx).fld 40 (w2 85 27) (Or.inr (Or.inl rfl))
    have e : ∀ i, i ≠ 85 → (up (goaW w2 0 (pf E g) 0 nx) 85 40 (w2 85 27)) i = (goaW w2 0 (pf E g) 0 nx) i := fun i hi => up_row _ _ _ hi
    have n3 : (up (goaW w2 0 (pf E g) 0 nx) 85 40 (w2 85 27)) 85 27 = w2 85 27 + 1 := by rw [up_slot _ _ _ _ (by omega), goaW_n]
    have e40 : (up (goaW w2 0 (pf E g) 0 nx) 85 40 (w2 85 27)) 85 40 = w2 85 27 := up_same _ _ _ _
    refine Ev.ret ⟨F2.tr ((goaW_FM w2 0 (pf E g) 0 nx).put 40 _ (by decide)), ⟨B3, ?_, ?_, ?_, ?_, ?_, ?_⟩, rfl, fun e => absurd (show (0 : Nat) = 5 from e) (by decide)⟩
    · rw [n3]; omega
    · rw [up_slot _ _ _ _ (by omega), goaW_85 w2 0 (pf E g) 0 nx (by omega), c2]
    · rw [n3, e40]; omega
    · rw [e40, e 101 (by omega)]; exact nw.1
    · rw [e40, e 102 (by omega)]; exact nw.2.1
    · rw [e40, e 104 (by omega), nw.2.2.2, n3]
      exact (k2.mono (goaW_NR w2 0 (pf E g) 0 nx) (by omega)).fld 40 _
  rw [if_neg k124]
  by_cases k42 : pk E g = 42
  · rw [if_pos (Or.inr (Or.inl k42))]
    have := leave (Or.inl k42)
    rw [k42]
    refine Ev.neg (by first | (simp (disch := omega) only [wr_eq] <;> omega) | omega) ?_; refine Ev.neg (by first | (simp (disch := omega) only [wr_eq] <;> omega) | omega) ?_; refine Ev.pos (by first | (simp (disch := omega) only [wr_eq] <;> omega) | omega) ?_
    exact this
  by_cases k102 : pk E g = 102
  · rw [if_pos (Or.inr (Or.inr k102))]
    have := leave (Or.inr (Or.inl k102))
    rw [k102]
    refine Ev.neg (by first | (simp (disch := omega) only [wr_eq] <;> omega) | omega) ?_; refine Ev.neg (by first | (simp (disch := omega) only [wr_eq] <;> omega) | omega) ?_; refine Ev.neg (by first | (simp (disch := omega) only [wr_eq] <;> omega) | omega) ?_; refine Ev.neg (by first | (simp (disch := omega) only [wr_eq] <;> omega) | omega) ?_; refine Ev.neg (by first | (simp (disch := omega) only [wr_eq] <;> omega) | omega) ?_; refine Ev.pos (by first | (simp (disch := omega) only [wr_eq] <;> omega) | omega) ?_
    exact this
  by_cases k103 : pk E g = 103
  · rw [if_pos (Or.inl k103)]
    have := leave (Or.inr (Or.inr k103))
    rw [k103]
    refine Ev.neg (by first | (simp (disch := omega) only [wr_eq] <;> omega) | omega) ?_; refine Ev.neg (by first | (simp (disch := omega) only [wr_eq] <;> omega) | omega) ?_; refine Ev.neg (by first | (simp (disch := omega) only [wr_eq] <;> omega) | omega) ?_; refine Ev.neg (by first | (simp (disch := omega) only [wr_eq] <;> omega) | omega) ?_; refine Ev.neg (by first | (simp (disch := omega) only [wr_eq] <;> omega) | omega) ?_; refine Ev.neg (by first | (simp (disch := omega) only [wr_eq] <;> omega) | omega) ?_; refine Ev.pos (by first | (simp (disch := omega) only [wr_eq] <;> omega) | omega) ?_
    exact this
  have k3n : ¬ (pk E g = 103 ∨ pk E g = 42 ∨ pk E g = 102) := by omega
  rw [if_neg k3n]
  by_cases k120 : pk E g = 120
  · rw [if_pos k120]
    rw [k120]
    refine Ev.neg (by first | (simp (disch := omega) only [wr_eq] <;> omega) | omega) ?_; refine Ev.neg (by first | (simp (disch := omega) only [wr_eq] <;> omega) | omega) ?_; refine Ev.neg (by first | (simp (disch := omega) only [wr_eq] <;> omega) | omega) ?_; refine Ev.neg (by first | (simp (disch := omega) only [wr_eq] <;> omega) | omega) ?_; refine Ev.neg (by first | (simp (disch := omega) only [wr_eq] <;> omega) | omega) ?_; refine Ev.neg (by first | (simp (disch := omega) only [wr_eq] <;> omega) | omega) ?_; refine Ev.neg (by first | (simp (disch := omega) only [wr_eq] <;> omega) | omega) ?_; refine Ev.pos (by first | (simp (disch := omega) only [wr_eq] <;> omega) | omega) ?_
    have hbal := m_balanced hE B1.1 (at_ := c) (far := 0) (by omega) (by omega) (balPre_0 _ _)
    rw [show c + ((0 : Nat) : Int) = c from by omega] at hbal
    refine Ev.obe hbal ?_
    unfold aBal
    have hp0 : ∀ j, j ≤ 0 → 0 ≤ psum (eS E) c j := by
      intro j hj
      have e0 : j = 0 := by omega
      rw [e0]
      exact Int.le_refl _
    have hpre := bal_pre (S := eS E) (at_ := c) 61 0 hp0
    rw [show c + ((0 : Nat) : Int) = c from by omega, show psum (eS E) c 0 = 0 from rfl] at hpre
    have hrg := bal_rng (eS E) 61 0 c
    generalize bal (eS E) 61 0 c = e at *
    by_cases q : e = -1
    · rw [if_pos q, q]
      refine Ev.pos rfl (Ev.ret ⟨FM.rf, ⟨B1, by omega⟩, rfl, fun e => absurd (show (2 : Nat) = 5 from e) (by decide)⟩)
    · rw [if_neg q]
      refine Ev.neg (by first | (simp (disch := omega) only [wr_eq] <;> omega) | omega) ?_
      obtain ⟨far, f1, f2, f3⟩ := hpre q
      rw [c1]
      refine Ev.obe (m_addChoice (by omega) g c nx (e - c)) ?_
      have B2 := (B1.choi (p := g) (c := e) (x := c) (z := nx) (u := e - c) (far := far) (K := K) (by omega) (by omega) (by omega) (Or.inr (Or.inl k120)) (fun _ => f3) k1).fld 39 e (Or.inl rfl)
      refine Ev.ret ⟨(chmW_FM w1 g c nx (e - c)).put 39 _ (by decide), ⟨B2, ?_, up_same _ _ _ _, ?_⟩, rfl, fun e => absurd (show (1 : Nat) = 5 from e) (by decide)⟩
      · rw [up_slot _ _ _ _ (by omega), chmW_85 w1 g c nx (e - c) (by omega)]; omega
      · rw [up_slot _ _ _ _ (by omega), up_slot _ _ _ _ (by omega), chmW_85 w1 g c nx (e - c) (by omega), chmW_85 w1 g c nx (e - c) (by omega), g1]
        exact (chmW_ch g c nx (e - c) k1).fld 39 _
  rw [if_neg k120]
  by_cases k122 : pk E g = 122
  · rw [if_pos k122]
    rw [k122]
    refine Ev.neg (by first | (simp (disch := omega) only [wr_eq] <;> omega) | omega) ?_; refine Ev.neg (by first | (simp (disch := omega) only [wr_eq] <;> omega) | omega) ?_; refine Ev.neg (by first | (simp (disch := omega) only [wr_eq] <;> omega) | omega) ?_; refine Ev.neg (by first | (simp (disch := omega) only [wr_eq] <;> omega) | omega) ?_; refine Ev.neg (by first | (simp (disch := omega) only [wr_eq] <;> omega) | omega) ?_; refine Ev.neg (by first | (simp (disch := omega) only [wr_eq] <;> omega) | omega) ?_; refine Ev.neg (by first | (simp (disch := omega) only [wr_eq] <;> omega) | omega) ?_; refine Ev.neg (by first | (simp (disch := omega) only [wr_eq] <;> omega) | omega) ?_; refine Ev.pos (by first | (simp (disch := omega) only [wr_eq] <;> omega) | omega) ?_
    have F2 : FM w1 (up w1 85 41 1) := FM.f85 w1 41 _ (by decide)
    refine Ev.ret ⟨F2, ⟨B1.1.fr F2, (up_slot _ _ _ _ (by omega)).trans B1.2.1, B1.2.2.2.1.fr (up_row _ _ _ (by omega)) (up_row _ _ _ (by omega)), (up_slot _ _ _ _ (by omega)).trans B1.2.2.2.2.2.2.2.2⟩, rfl, fun _ => up_same _ _ _ _⟩
  rw [if_neg k122]
  by_cases k64 : pk E g = 64
  · rw [if_pos k64]
    rw [k64]
    refine Ev.neg (by first | (simp (disch := omega) only [wr_eq] <;> omega) | omega) ?_; refine Ev.neg (by first | (simp (disch := omega) only [wr_eq] <;> omega) | omega) ?_; refine Ev.neg (by first | (simp (disch := omega) only [wr_eq] <;> omega) | omega) ?_; refine Ev.neg (by first | (simp (disch := omega) only [wr_eq] <;> omega) | omega) ?_; refine Ev.pos (by first | (simp (disch := omega) only [wr_eq] <;> omega) | omega) ?_
    refine Ev.bd (m_assignCursor B1.2.2.2.1 (a := pf E g) (by omega) c1 (by omega)) ?_
    rintro v w2 ⟨-, q1, q2⟩
    have e85 := q1 85 (by simp)
    refine Ev.ret ⟨FM.of q1 (by decide) (by simp), ⟨B1.vals q1 q2, by rw [e85]; omega, by rw [e85]; exact c1, ?_⟩, rfl, fun e => absurd (show (1 : Nat) = 5 from e) (by decide)⟩
    rw [e85, g1]
    exact k1.mono (NR.same (q1 101 (by simp)) (q1 102 (by simp)) (q1 103 (by simp)) (q1 104 (by simp))) (Int.le_refl _)
  rw [if_neg k64]
  have ks : pk E g = 108 ∨ pk E g = 110 ∨ pk E g = 111 ∨ pk E g = 115 ∨ pk E g = 107 ∨ pk E g = 118 ∨ pk E g = 35 ∨ pk E g = 116 ∨ pk E g = 114 ∨ pk E g = 112 ∨ pk E g = 113 ∨ pk E g = 109 ∨ pk E g = 105 := by omega
  refine Ev.neg (by first | (simp (disch := omega) only [wr_eq] <;> omega) | omega) ?_; refine Ev.neg (by first | (simp (disch := omega) only [wr_eq] <;> omega) | omega) ?_; refine Ev.neg (by first | (simp (disch := omega) only [wr_eq] <;> omega) | omega) ?_; refine Ev.neg (by first | (simp (disch := omega) only [wr_eq] <;> omega) | omega) ?_; refine Ev.neg (by first | (simp (disch := omega) only [wr_eq] <;> omega) | omega) ?_; refine Ev.neg (by first | (simp (disch := omega) only [wr_eq] <;> omega) | omega) ?_; refine Ev.neg (by first | (simp (disch := omega) only [wr_eq] <;> omega) | omega) ?_; refine Ev.neg (by first | (simp (disch := omega) only [wr_eq] <;> omega) | omega) ?_; refine Ev.neg (by first | (simp (disch := omega) only [wr_eq] <;> omega) | omega) ?_; refine Ev.neg (by first | (simp (disch := omega) only [wr_eq] <;> omega) | omega) ?_
  have hsg := m_takes hE B1.1 B1.2.2.2.1 ha.2.2.2.2.1 c1 ⟨hg1, hg2⟩ (by omega) ks
  have hr := single_rng (k := pk E g) (x := pf E g) (c := c) (T := eT E (pf E g).toNat) (W := V (pf E g).toNat) (S := eS E) (hE.2.2.2.1 _) (ha.2.2.2.2.1 _).1 (by omega) (by omega) hcl
  unfold rngP at hr
  generalize single (pk E g) (pf E g) (eT E (pf E g).toNat) (V (pf E g).toNat) (eS E) c = e at *
  refine Ev.obe hsg ?_
  unfold f_X9_begin_397
  rw [c1]
  by_cases q : e = -1
  · rw [if_pos q, if_pos q]
    refine Ev.pos rfl (Ev.pos rfl (Ev.ret ⟨FM.f85 w1 39 _ (by decide), ⟨B1.fld 39 _ (Or.inl rfl), ?_⟩, rfl, fun e => absurd (show (2 : Nat) = 5 from e) (by decide)⟩))
    rw [up_slot _ _ _ _ (by omega)]
    omega
  · rw [if_neg q, if_neg q]
    refine Ev.neg (by first | (simp (disch := omega) only [wr_eq] <;> omega) | omega) ?_; refine Ev.neg (by first | (simp (disch := omega) only [wr_eq] <;> omega) | omega) ?_
    refine Ev.ret ⟨FM.f85 w1 39 _ (by decide), ⟨B1.fld 39 _ (Or.inl rfl), ?_, ?_, ?_⟩, rfl, fun e => absurd (show (1 : Nat) = 5 from e) (by decide)⟩
    · rw [up_slot _ _ _ _ (by omega)]; omega
    · rw [up_same]; omega
    · rw [up_slot _ _ _ _ (by omega), up_slot _ _ _ _ (by omega), g1]
      exact k1.fld 39 _
