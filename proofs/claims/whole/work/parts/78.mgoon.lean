/-- a row's goal on top is a pattern to begin -/
theorem repR_row {E : EV} {w : WS} {g c p f : Int} {K : List Nd} {C : List Ch} {T : List Tk} {b : Int} {V : Nat → List Int} {s : Int} (hk : pk E p = 38) (h : RepR E (1, g, c, (p, f) :: K, C, T, b, V, s) w) : RepR E (0, ps E p, c, K, C, T, b, V, s) w := by
  obtain ⟨h1, h2, h3, h4, h5, h6, h7, h8, h9⟩ := h
  refine ⟨h1, by omega, h3, ⟨h4, h5⟩, ?_, ?_, h9⟩
  · rw [h6, hk]; rfl
  · rw [h7]
    unfold go
    rw [if_neg (by omega)]
theorem m_goesOn0 {E : EV} (hE : EOK E) {w : WS} {g c : Int} {K : List Nd} {C : List Ch} {T : List Tk} {b : Int} {V : Nat → List Int} {s : Int} (hA : AOK E (0, g, c, K, C, T, b, V, s)) (hR : RepR E (0, g, c, K, C, T, b, V, s) w) : Ev (f_X9_goesOn w) (MB E w (aBegin E g c K C T b V s)) := by
  obtain ⟨h, hN, hc, ⟨hg1, hg2⟩, e101, e102, hk⟩ := hR
  have hb := hA.1.2.1
  unfold f_X9_goesOn
  rw [wr_eq (a := w 85 40) (by omega), up_row w 40 _ (by omega : (101 : Nat) ≠ 85), e101, e102]
  refine Ev.pos (by first | (simp (disch := omega) only [wr_eq] <;> omega) | omega) ?_; refine Ev.pos (by first | (simp (disch := omega) only [wr_eq] <;> omega) | omega) ?_; refine Ev.pos (by first | (simp (disch := omega) only [wr_eq] <;> omega) | omega) ?_
  refine Ev.pos rfl ?_
  have F1 : FM w (up w 85 40 (w 104 (w 85 40).toNat)) := FM.f85 w 40 _ (by decide)
  refine Ev.bd (m_begin hE hA (h.fld 40 (w 104 (w 85 40).toNat) (Or.inr (Or.inl rfl))) (by rw [up_slot _ _ _ _ (by omega)]; exact hN) (by rw [up_slot _ _ _ _ (by omega)]; exact hc) (by rw [up_slot _ _ _ _ (by omega)]; exact hk.fld 40 _)) ?_
  intro v w2 hm
  have h1 := hm.2.2.1
  refine Ev.pos ?_ (Ev.ret (MB.pre F1 hm))
  by_cases q : (aBegin E g c K C T b V s).1 ≤ 1
  · rw [if_pos q] at h1; exact Or.inr h1
  · rw [if_neg q] at h1; exact Or.inl h1
def tkW (w : WS) (a b c : Int) : WS := up (up (up (up w 111 (w 85 38).toNat a) 112 (w 85 38).toNat b) 113 (w 85 38).toNat c) 85 38 (w 85 38 + 1)
theorem BR.kept {E : EV} {w : WS} {C : List Ch} {T : List Tk} {b : Int} {V : Nat → List Int} {s : Int} (h : BR E w C T b V s) (x : Tk) : BR E (tkW w x.1 x.2.1 x.2.2) C (T ++ [x]) b V s ∧ FM w (tkW w x.1 x.2.1 x.2.2) ∧ (∀ g K r, chR E w g K r → chR E (tkW w x.1 x.2.1 x.2.2) g K r) ∧ (∀ k, k ≠ 38 → tkW w x.1 x.2.1 x.2.2 85 k = w 85 k) := by
  obtain ⟨g1, g2, g3, g4, ⟨g5, g6⟩, g7, g8, g9, g10⟩ := h
  have F : Fr [85, 111, 112, 113] w (tkW w x.1 x.2.1 x.2.2) := (((Fr.rf.up (by simp)).up (by simp)).up (by simp)).up (by simp)
  have s' : ∀ q, q ≠ 38 → tkW w x.1 x.2.1 x.2.2 85 q = w 85 q := fun q h1 => by
    unfold tkW
    rw [up_slot _ _ _ _ h1, up_row _ _ _ (by omega), up_row _ _ _ (by omega), up_row _ _ _ (by omega)]
  have FMw : FM w (tkW w x.1 x.2.1 x.2.2) := ⟨F.sub (by decide), fun q hq => s' q (fun e => hq (by rw [e]; decide))⟩
  have hN : ∀ g, NR g w (tkW w x.1 x.2.1 x.2.2) := fun g => NR.same (F 101 (by simp)) (F 102 (by simp)) (F 103 (by simp)) (F 104 (by simp))
  refine ⟨⟨g1.fr FMw, (s' 22 (by omega)).trans g2, (s' 43 (by omega)).trans g3, g4.fr (F 89 (by simp)) (F 90 (by simp)), ⟨(s' 34 (by omega)).trans g5, ?_⟩, ?_, by rw [s' 27 (by omega)]; exact g8, (s' 41 (by omega)).trans g9, (s' 42 (by omega)).trans g10⟩, FMw, fun g K r hk => hk.mono (hN g) (Int.le_refl _), s'⟩
  · rw [s' 27 (by omega)]
    refine g6.mono (hN _) (Int.le_refl _) (fun q _ => ?_)
    rw [F 105 (by simp), F 106 (by simp), F 107 (by simp), F 108 (by simp), F 109 (by simp), F 110 (by simp)]
    exact ⟨rfl, rfl, rfl, rfl, rfl, rfl⟩
  · obtain ⟨t1, t2⟩ := g7
    have et : (w 85 38).toNat = T.length := by omega
    refine ⟨by unfold tkW; rw [up_same, List.length_append, t1]; rfl, fun k hk y hy => ?_⟩
    rw [List.length_append, List.length_singleton] at hk
    have e1 : tkW w x.1 x.2.1 x.2.2 111 k = (if k = T.length then x.1 else w 111 k) ∧ tkW w x.1 x.2.1 x.2.2 112 k = (if k = T.length then x.2.1 else w 112 k) ∧ tkW w x.1 x.2.1 x.2.2 113 k = (if k = T.length then x.2.2 else w 113 k) := by
      unfold tkW
      rw [et]
      by_cases q : k = T.length
      · rw [if_pos q, if_pos q, if_pos q, q]
        refine ⟨?_, ?_, ?_⟩
        · rw [up_row _ _ _ (by omega), up_row _ _ _ (by omega), up_row _ _ _ (by omega), up_same]
        · rw [up_row _ _ _ (by omega), up_row _ _ _ (by omega), up_same]
        · rw [up_row _ _ _ (by omega), up_same]
      · rw [if_neg q, if_neg q, if_neg q]
        refine ⟨?_, ?_, ?_⟩
        · rw [up_row _ _ _ (by omega), up_row _ _ _ (by omega), up_row _ _ _ (by omega), up_slot _ _ _ _ q]
        · rw [up_row _ _ _ (by omega), up_row _ _ _ (by omega), up_slot _ _ _ _ q, up_row _ _ _ (by omega)]
        · rw [up_row _ _ _ (by omega), up_slot _ _ _ _ q, up_row _ _ _ (by omega), up_row _ _ _ (by omega)]
    rw [e1.1, e1.2.1, e1.2.2]
    by_cases q : k = T.length
    · rw [if_pos q, if_pos q, if_pos q]
      subst q
      rw [List.getElem?_append_right (Nat.le_refl _), Nat.sub_self] at hy
      have hy : x = y := Option.some.inj hy
      subst hy
      exact ⟨rfl, rfl, rfl⟩
    · rw [if_neg q, if_neg q, if_neg q]
      rw [List.getElem?_append_left (by omega)] at hy
      exact t2 k (by omega) y hy
theorem m_goesOn1 {E : EV} (hE : EOK E) {w : WS} {g c p f : Int} {K : List Nd} {C : List Ch} {T : List Tk} {b : Int} {V : Nat → List Int} {s : Int} (hA : AOK E (1, g, c, (p, f) :: K, C, T, b, V, s)) (hR : RepR E (1, g, c, (p, f) :: K, C, T, b, V, s) w) (h38 : pk E p ≠ 38) : Ev (f_X9_goesOn w) (MB E w (aGoOn E g c ((p, f) :: K) C T b V s)) := by
  obtain ⟨ha, hb, hK, hKC, hs, hcl, hgn, hdn⟩ := hA
  obtain ⟨h, hN, hc, r1, r2, e101, e102, e103, hk⟩ := hR
  obtain ⟨q1, q2, q3, q4⟩ := hK
  have hf0 := hKC (p, f) List.mem_cons_self
  have hf1 : 0 ≤ f := hf0.1
  have hf2 : f ≤ c := hf0.2
  have hl := hE.2.2.2.2.2.2.1
  have hb3 := ha.2.1
  have hgn : (C.length : Int) + ((gn E K + (if pk E p = 103 then 1 else 0) : Nat) : Int) ≤ b := hgn
  have hdn : (T.length : Int) + ((dn E K + (if pk E p = 46 then 1 else 0) : Nat) : Int) ≤ b := hdn
  have hp := hE.1 p (by omega) q2
  unfold PK1 at hp
  unfold nodeK at q3
  have e103 := e103 h38
  have h38' := h.2.2.2.2.2.1.1
  have h34 := h.2.2.2.2.1.1
  unfold f_X9_goesOn
  rw [wr_eq (a := w 85 40) (by omega), up_row w 40 _ (by omega : (101 : Nat) ≠ 85), up_row w 40 _ (by omega : (103 : Nat) ≠ 85), e101, e102, e103, up_slot w 85 85 _ (by omega : (39 : Nat) ≠ 40), hc]
  refine Ev.pos (by first | (simp (disch := omega) only [wr_eq] <;> omega) | omega) ?_; refine Ev.pos (by first | (simp (disch := omega) only [wr_eq] <;> omega) | omega) ?_; refine Ev.pos (by first | (simp (disch := omega) only [wr_eq] <;> omega) | omega) ?_
  have F1 : FM w (up w 85 40 (w 104 (w 85 40).toNat)) := FM.f85 w 40 _ (by decide)
  have B1 := h.fld 40 (w 104 (w 85 40).toNat) (Or.inr (Or.inl rfl))
  have n1 : (up w 85 40 (w 104 (w 85 40).toNat)) 85 27 = w 85 27 := up_slot _ _ _ _ (by omega)
  have c1 : (up w 85 40 (w 104 (w 85 40).toNat)) 85 39 = c := (up_slot _ _ _ _ (by omega)).trans hc
  have g1 : (up w 85 40 (w 104 (w 85 40).toNat)) 85 40 = w 104 (w 85 40).toNat := up_same _ _ _ _
  have k1 : chR E (up w 85 40 (w 104 (w 85 40).toNat)) ((up w 85 40 (w 104 (w 85 40).toNat)) 85 27) K (w 104 (w 85 40).toNat) := by
    rw [n1]
    exact hk.fld 40 _
  have t1 : (up w 85 40 (w 104 (w 85 40).toNat)) 85 38 = w 85 38 := up_slot _ _ _ _ (by omega)
  have ends : ∀ {F : Option (Int × WS)} {st : MS}, Ev F (MB E (up w 85 40 (w 104 (w 85 40).toNat)) st) → Ev F (MB E w st) := fun hh => hh.mono (fun _ _ q => MB.pre F1 q)
  refine ends ?_
  show Ev _ (MB E _ (if pk E p = 38 then _ else _))
  rw [if_neg h38]
  by_cases k36 : pk E p = 36
  · rw [if_pos k36, k36]
    refine Ev.neg (by decide) (Ev.pos rfl ?_)
    refine Ev.pos (by first | (simp (disch := omega) only [wr_eq] <;> omega) | omega) ?_
    have eg : go E p = ps E p := by unfold go; rw [if_neg (by omega)]
    rw [eg]
    refine Ev.bd (m_assign B1.1 hl B1.2.2.2.1 (a := ps E p) (f := f) (e := c) (by omega) (by omega)) ?_
    rintro v w2 ⟨-, p1, p2⟩
    have e85 := p1 85 (by simp)
    refine Ev.ret ⟨FM.of p1 (by decide) (by simp), ⟨B1.vals p1 p2, by rw [e85, n1]; omega, by rw [e85]; exact c1, ?_⟩, rfl, fun e => absurd (show (1 : Nat) = 5 from e) (by decide)⟩
    rw [e85, g1]
    exact k1.mono (NR.same (p1 101 (by simp)) (p1 102 (by simp)) (p1 103 (by simp)) (p1 104 (by simp))) (Int.le_refl _)
  rw [if_neg k36]
  by_cases k46 : pk E p = 46
  · rw [if_pos k46, k46]
    rw [if_pos k46] at hdn
    refine Ev.neg (by decide) (Ev.neg (by decide) (Ev.pos rfl ?_))
    have eg : go E p = ps E p := by unfold go; rw [if_neg (by omega)]
    rw [eg]
    have kp := B1.kept (ps E p, f, c)
    generalize hw1 : up w 85 40 (w 104 (w 85 40).toNat) = w1 at B1 F1 n1 c1 g1 k1 t1 kp ⊢
    have e103' : w1 103 (w 85 40).toNat = f := by rw [← hw1, up_row _ _ _ (by omega), e103]
    simp (disch := decide) only [up_row, up_same, c1, e103']
    rw [t1, wr_eq (a := w 85 38) (by omega)]
    refine Ev.pos (by first | (simp (disch := omega) only [wr_eq] <;> omega) | omega) ?_; refine Ev.pos (by first | (simp (disch := omega) only [wr_eq] <;> omega) | omega) ?_; refine Ev.pos (by first | (simp (disch := omega) only [wr_eq] <;> omega) | omega) ?_; refine Ev.pos (by first | (simp (disch := omega) only [wr_eq] <;> omega) | omega) ?_
    have ew : up (up (up (up w1 111 (w 85 38).toNat (ps E p)) 112 (w 85 38).toNat f) 113 (w 85 38).toNat c) 85 38 (w 85 38 + 1) = tkW w1 (ps E p) f c := by unfold tkW; rw [t1]
    rw [ew]
    refine Ev.ret ⟨kp.2.1, ⟨kp.1, ?_, ?_, ?_⟩, rfl, fun e => absurd (show (1 : Nat) = 5 from e) (by decide)⟩
    · rw [kp.2.2.2 27 (by omega), n1]; omega
    · rw [kp.2.2.2 39 (by omega)]; exact c1
    · rw [kp.2.2.2 27 (by omega), kp.2.2.2 40 (by omega), g1]
      exact kp.2.2.1 _ _ _ k1
  rw [if_neg k46]
  have k103 : pk E p = 103 := by omega
  rw [k103]
  refine Ev.neg (by decide) (Ev.neg (by decide) (Ev.neg (by decide) ?_))
  refine Ev.pos (by first | (simp (disch := omega) only [wr_eq] <;> omega) | omega) ?_
  have eg : go E p = p := by unfold go; rw [if_pos k103]
  rw [eg]
  rw [if_pos k103] at hgn
  by_cases q : c = f
  · rw [if_pos q]
    refine Ev.pos (by rw [q]) (Ev.ret ⟨FM.rf, ⟨B1, by rw [n1]; omega⟩, rfl, fun e => absurd (show (2 : Nat) = 5 from e) (by decide)⟩)
  · rw [if_neg q]
    refine Ev.neg (by first | (simp (disch := omega) only [wr_eq] <;> omega) | omega) ?_
    have h34' := B1.2.2.2.2.1.1
    refine Ev.obe (m_addChoice (by omega) p c (w 104 (w 85 40).toNat) 0) ?_
    have B2 := B1.choi (p := p) (c := c) (x := c) (z := w 104 (w 85 40).toNat) (u := 0) (far := 0) (K := K) (by omega) rfl (by omega) (Or.inr (Or.inr rfl)) (fun e => by omega) k1
    refine Ev.ret ⟨chmW_FM _ p c _ 0, ⟨B2, ?_, ?_, ?_⟩, rfl, fun e => absurd (show (1 : Nat) = 5 from e) (by decide)⟩
    · rw [chmW_85 _ p c _ 0 (by omega), n1]; omega
    · rw [chmW_85 _ p c _ 0 (by omega)]; exact c1
    · rw [chmW_85 _ p c _ 0 (by omega), chmW_85 _ p c _ 0 (by omega), g1]
      exact chmW_ch p c _ 0 k1
