theorem aEnd_step {E : EV} (hE : EOK E) {st : MS} (hA : AOK E st) : aEnd E (aStep E st) = aEnd E st := by
  obtain ⟨n, n1, n2, n3, n4⟩ := aEnd_ex hE hA
  rw [n2] at n3 ⊢
  cases n with
  | zero =>
    have h : 4 ≤ st.1 := n3
    rw [aStep_halt h]
    exact aEnd_halt h
  | succ n =>
    have h : 4 ≤ (aIter E n (aStep E st)).1 := n3
    exact aEnd_eq h
/-- what comes of going back -/
def Bk (E : EV) (w : WS) (st : MS) (v : Int) (w' : WS) : Prop := ∃ st', FM w w' ∧ RepR E st' w' ∧ AOK E st' ∧ aEnd E st' = aEnd E st ∧ aPhi st' < aPhi st ∧ ((v = 1 ∧ st'.1 ≤ 1) ∨ (v = 0 ∧ (st'.1 = 3 ∨ (st'.1 = 5 ∧ w' 85 41 = 1))))
theorem back_range {E : EV} {g c : Int} {K : List Nd} {C : List Ch} {T : List Tk} {b : Int} {V : Nat → List Int} {s : Int} : (aBack E g c K C T b V s).1 ≤ 3 ∨ (aBack E g c K C T b V s).1 = 5 := by
  unfold aBack
  cases C with
  | nil => exact Or.inl (Nat.le_refl 3)
  | cons x C =>
    obtain ⟨p, c', K', n⟩ := x
    show (if pk E p = 124 then _ else _ : MS).1 ≤ 3 ∨ (if pk E p = 124 then _ else _ : MS).1 = 5
    have hb : ∀ (b' : Int) (T' : List Tk), (aBal E p c' K' C T' b' V s).1 ≤ 3 ∨ (aBal E p c' K' C T' b' V s).1 = 5 := by
      intro b' T'
      unfold aBal
      by_cases q : bal (eS E) 61 0 c' = -1
      · rw [if_pos q]; exact Or.inl (by show 2 ≤ 3; omega)
      · rw [if_neg q]; exact Or.inl (by show 1 ≤ 3; omega)
    by_cases k1 : pk E p = 124
    · rw [if_pos k1]; exact Or.inl (Nat.zero_le 3)
    rw [if_neg k1]
    by_cases k2 : pk E p = 103
    · rw [if_pos k2]; exact Or.inl (Nat.zero_le 3)
    rw [if_neg k2]
    by_cases k3 : pk E p = 42
    · rw [if_pos k3]
      by_cases k4 : ((eS E).length : Int) < c' + 1
      · rw [if_pos k4]; exact Or.inl (by show 2 ≤ 3; omega)
      · rw [if_neg k4]; exact Or.inl (by show 1 ≤ 3; omega)
    rw [if_neg k3]
    by_cases k4 : pk E p = 120
    · rw [if_pos k4]; exact hb _ _
    rw [if_neg k4]
    exact Or.inr rfl
theorem RepR_44 {E : EV} {g c : Int} {K : List Nd} {C : List Ch} {T : List Tk} {b : Int} {V : Nat → List Int} {s : Int} {w : WS} (v : Int) (h : RepR E (2, g, c, K, C, T, b, V, s) w) : RepR E (2, g, c, K, C, T, b, V, s) (up w 85 44 v) := ⟨h.1.fld 44 v (Or.inr (Or.inr rfl)), by rw [up_slot _ _ _ _ (by omega)]; exact h.2⟩
theorem m_back_loop {E : EV} (hE : EOK E) (m : Nat) : ∀ (st : MS) (w : WS), st.1 = 2 → AOK E st → RepR E st w → aPhi st < m → w 85 44 = 1 → Ev (f_X9_back_7 m 0 w) (Bk E w st) := by
  induction m with
  | zero => intro st w _ _ _ h; omega
  | succ m ih =>
    intro st w h2 hA hR hp h44
    obtain ⟨md, g, c, K, C, T, b, V, s⟩ := st
    have h2 : md = 2 := h2
    subst h2
    rw [f_X9_back_7_s, h44]
    refine Ev.neg (by decide) (Ev.pos rfl ?_)
    have F0 : FM w (up w 85 44 0) := FM.f85 w 44 _ (by decide)
    refine Ev.bd (m_goesBack hE hA (RepR_44 0 hR) (up_same _ _ _ _)) ?_
    rintro v w2 ⟨g1, g2, g3, g4, g5⟩
    have e0 : aStep E (2, g, c, K, C, T, b, V, s) = aBack E g c K C T b V s := rfl
    have hA2 := a_ok hE hA
    have hphi := a_phi hE hA (by show 2 ≤ 3; omega)
    have hend := aEnd_step hE hA
    rw [e0] at hA2 hphi hend
    have hrg := back_range (E := E) (g := g) (c := c) (K := K) (C := C) (T := T) (b := b) (V := V) (s := s)
    have F2 := F0.tr g1
    obtain ⟨m2, rfl⟩ : ∃ k, m = k + 1 := ⟨m - 1, by omega⟩
    generalize aBack E g c K C T b V s = st2 at *
    have stop : ∀ x : Int, (x = 0 ∨ x = 1) → w2 85 44 = 0 → Bk E w (2, g, c, K, C, T, b, V, s) x w2 → Ev (f_X9_back_7 (m2 + 1) x w2) (Bk E w (2, g, c, K, C, T, b, V, s)) := by
      intro x hx h44 hB
      rw [f_X9_back_7_s, h44]
      exact Ev.pos rfl (Ev.pos hx (Ev.ret hB))
    by_cases q1 : st2.1 ≤ 1
    · rw [if_pos q1] at g3
      rw [if_neg (by omega)] at g5
      rw [g3]
      exact stop 1 (Or.inr rfl) g5 ⟨st2, F2, g2, hA2, hend, hphi, Or.inl ⟨rfl, q1⟩⟩
    · rw [if_neg q1] at g3
      rw [g3]
      by_cases q2 : st2.1 = 2
      · rw [if_pos q2] at g5
        refine Ev.mono (ih st2 w2 q2 hA2 g2 (by omega) g5) ?_
        rintro v w3 ⟨st', z1, z2, z3, z4, z5, z6⟩
        exact ⟨st', F2.tr z1, z2, z3, z4.trans hend, by omega, z6⟩
      · rw [if_neg q2] at g5
        refine stop 0 (Or.inl rfl) g5 ⟨st2, F2, g2, hA2, hend, hphi, Or.inr ⟨rfl, ?_⟩⟩
        by_cases q3 : st2.1 = 3
        · exact Or.inl q3
        · exact Or.inr ⟨by omega, g4 (by omega)⟩
theorem m_back {E : EV} (hE : EOK E) {st : MS} {w : WS} (h2 : st.1 = 2) (hA : AOK E st) (hR : RepR E st w) : Ev (f_X9_back w) (Bk E w st) := by
  have hphi := aPhi_le hE hA
  obtain ⟨md, g, c, K, C, T, b, V, s⟩ := st
  have h2 : md = 2 := h2
  subst h2
  unfold f_X9_back
  refine Ev.mono (m_back_loop hE FU _ _ rfl hA (RepR_44 1 hR) (by unfold FU; omega) (up_same _ _ _ _)) ?_
  rintro v w2 ⟨st', z1, z2⟩
  exact ⟨st', (FM.f85 w 44 _ (by decide)).tr z1, z2⟩
/-- what comes of reaching on -/
def Rc (E : EV) (w : WS) (st : MS) (v : Int) (w' : WS) : Prop := ∃ st', FM w w' ∧ RepR E st' w' ∧ AOK E st' ∧ aEnd E st' = aEnd E st ∧ aPhi st' ≤ aPhi st ∧ ((v = 1 ∧ st'.1 = 4) ∨ (v = 0 ∧ (st'.1 = 3 ∨ (st'.1 = 5 ∧ w' 85 41 = 1) ∨ st'.1 = 6)))
theorem begin_range {E : EV} {g c : Int} {K : List Nd} {C : List Ch} {T : List Tk} {b : Int} {V : Nat → List Int} {s : Int} : (aBegin E g c K C T b V s).1 ≤ 2 ∨ (aBegin E g c K C T b V s).1 = 5 ∨ (aBegin E g c K C T b V s).1 = 6 := by
  unfold aBegin
  by_cases k0 : 3000 ≤ b
  · rw [if_pos k0]; exact Or.inr (Or.inr rfl)
  rw [if_neg k0]
  by_cases k1 : pk E g = 38 ∨ pk E g = 36 ∨ pk E g = 46
  · rw [if_pos k1]; exact Or.inl (Nat.zero_le 2)
  rw [if_neg k1]
  by_cases k2 : pk E g = 124
  · rw [if_pos k2]; exact Or.inl (Nat.zero_le 2)
  rw [if_neg k2]
  by_cases k3 : pk E g = 103 ∨ pk E g = 42 ∨ pk E g = 102
  · rw [if_pos k3]; exact Or.inl (by show 1 ≤ 2; omega)
  rw [if_neg k3]
  by_cases k4 : pk E g = 120
  · rw [if_pos k4]
    unfold aBal
    by_cases q : bal (eS E) 61 0 c = -1
    · rw [if_pos q]; exact Or.inl (Nat.le_refl 2)
    · rw [if_neg q]; exact Or.inl (by show 1 ≤ 2; omega)
  rw [if_neg k4]
  by_cases k5 : pk E g = 122
  · rw [if_pos k5]; exact Or.inr (Or.inl rfl)
  rw [if_neg k5]
  by_cases k6 : pk E g = 64
  · rw [if_pos k6]; exact Or.inl (by show 1 ≤ 2; omega)
  rw [if_neg k6]
  by_cases k7 : single (pk E g) (pf E g) (eT E (pf E g).toNat) (V (pf E g).toNat) (eS E) c = -1
  · rw [if_pos k7]; exact Or.inl (Nat.le_refl 2)
  · rw [if_neg k7]; exact Or.inl (by show 1 ≤ 2; omega)
theorem goOn_range {E : EV} {g c : Int} {x : Nd} {K : List Nd} {C : List Ch} {T : List Tk} {b : Int} {V : Nat → List Int} {s : Int} : (aGoOn E g c (x :: K) C T b V s).1 ≤ 2 := by
  obtain ⟨p, f⟩ := x
  show (if pk E p = 38 then _ else _ : MS).1 ≤ 2
  by_cases k1 : pk E p = 38
  · rw [if_pos k1]; exact Nat.zero_le 2
  rw [if_neg k1]
  by_cases k2 : pk E p = 36
  · rw [if_pos k2]; show 1 ≤ 2; omega
  rw [if_neg k2]
  by_cases k3 : pk E p = 46
  · rw [if_pos k3]; show 1 ≤ 2; omega
  rw [if_neg k3]
  by_cases k4 : c = f
  · rw [if_pos k4]; exact Nat.le_refl 2
  · rw [if_neg k4]; show 1 ≤ 2; omega
theorem back_over {w : WS} (h : w 85 41 = 1) : f_X9_back w = some (0, up (up w 85 44 1) 85 44 0) := by
  have e1 : (up w 85 44 1) 85 44 = 1 := up_same _ _ _ _
  have e2 : (up (up w 85 44 1) 85 44 0) 85 44 = 0 := up_same _ _ _ _
  have e3 : (up (up w 85 44 1) 85 44 0) 85 41 = 1 := by rw [up_slot _ _ _ _ (by omega), up_slot _ _ _ _ (by omega), h]
  have hg : f_X9_goesBack (up (up w 85 44 1) 85 44 0) = some (0, up (up w 85 44 1) 85 44 0) := by
    unfold f_X9_goesBack
    rw [e3]
    by_cases q : wr ((up (up w 85 44 1) 85 44 0) 85 34) = 0
    · exact if_pos q
    · exact (if_neg q).trans (if_neg (by decide))
  unfold f_X9_back
  obtain ⟨m, hm⟩ : ∃ m, FU = m + 2 := ⟨FU - 2, by unfold FU; omega⟩
  rw [hm, f_X9_back_7_s, e1, if_neg (by decide), if_pos (by rfl), hg, ob_some, f_X9_back_7_s, e2, if_pos (by rfl), if_pos (Or.inl rfl)]
theorem m_reach_loop {E : EV} (hE : EOK E) (m : Nat) : ∀ (n : Nat) (st : MS) (w : WS), n + 1 < m → aPhi st < n → st.1 ≤ 1 → AOK E st → RepR E st w → Ev (f_X9_reaches_17 m 1 w) (Rc E w st) := by
  induction m with
  | zero => intro n st w h; omega
  | succ m ihm =>
    intro n
    induction n with
    | zero => intro st w _ h; omega
    | succ n ihn =>
      intro st w hnm hp hst hA hR
      -- a goal that is done by goesOn
      have act : ∀ st2 : MS, aStep E st = st2 → (st2.1 ≤ 2 ∨ st2.1 = 5 ∨ st2.1 = 6) → Ev (f_X9_goesOn w) (MB E w st2) → (0 ≤ w 85 40 ∧ w 85 40 < 2147483648) → Ev (f_X9_reaches_17 (m + 1) 1 w) (Rc E w st) := by
        intro st2 hst2 hrg hgo h40
        have hA2 : AOK E st2 := by rw [← hst2]; exact a_ok hE hA
        have hphi : aPhi st2 < aPhi st := by rw [← hst2]; exact a_phi hE hA (by omega)
        have hend : aEnd E st2 = aEnd E st := by rw [← hst2]; exact aEnd_step hE hA
        rw [f_X9_reaches_17_s]
        refine Ev.neg (by decide) ?_
        refine Ev.neg (by first | (simp (disch := omega) only [wr_eq] <;> omega) | omega) ?_
        refine Ev.bd hgo ?_
        rintro v w2 ⟨g1, g2, g3, g4⟩
        have up1 : ∀ {F : Option (Int × WS)}, Ev F (Rc E w2 st2) → Ev F (Rc E w st) := fun hh => hh.mono (fun v w3 q => by
          obtain ⟨st', z1, z2, z3, z4, z5, z6⟩ := q
          exact ⟨st', g1.tr z1, z2, z3, z4.trans hend, by omega, z6⟩)
        obtain ⟨m2, rfl⟩ : ∃ k, m = k + 1 := ⟨m - 1, by omega⟩
        by_cases q1 : st2.1 ≤ 1
        · rw [if_pos q1] at g3
          rw [g3]
          refine Ev.neg (by decide) ?_
          exact up1 (ihm n st2 w2 (by omega) (by omega) q1 hA2 g2)
        · rw [if_neg q1] at g3
          rw [g3]
          refine Ev.pos rfl ?_
          obtain ⟨md2, gg2, c2, K2, C2, T2, b2, V2, s2⟩ := st2
          have q2 : md2 = 2 ∨ md2 = 5 ∨ md2 = 6 := by
            have q1 : ¬ md2 ≤ 1 := q1
            have hrg : md2 ≤ 2 ∨ md2 = 5 ∨ md2 = 6 := hrg
            omega
          rcases q2 with rfl | rfl | rfl
          · have h42 := g2.1.2.2.2.2.2.2.2.2
            rw [h42]
            refine Ev.pos rfl ?_
            refine Ev.bd (m_back hE rfl hA2 g2) ?_
            rintro v3 w3 ⟨st3, z1, z2, z3, z4, z5, z6⟩
            rcases z6 with ⟨rfl, z6⟩ | ⟨rfl, z6⟩
            · refine Ev.neg (by decide) ?_
              refine up1 (Ev.mono (ihm n st3 w3 (by omega) (by omega) z6 z3 z2) ?_)
              rintro v4 w4 ⟨st', y1, y2, y3, y4, y5, y6⟩
              exact ⟨st', z1.tr y1, y2, y3, y4.trans z4, by omega, y6⟩
            · refine Ev.pos rfl ?_
              rw [f_X9_reaches_17_s]
              refine Ev.pos rfl (Ev.pos (Or.inl rfl) (Ev.ret ⟨st3, g1.tr z1, z2, z3, z4.trans hend, by omega, Or.inr ⟨rfl, ?_⟩⟩))
              rcases z6 with z6 | z6
              · exact Or.inl z6
              · exact Or.inr (Or.inl z6)
          · have h42 : w2 85 42 = 0 := g2.2.2.2
            have h41 : w2 85 41 = 1 := g4 rfl
            rw [h42]
            refine Ev.pos rfl ?_
            refine Ev.obe (back_over h41) (Ev.pos rfl ?_)
            rw [f_X9_reaches_17_s]
            have F9 : FM w2 (up (up w2 85 44 1) 85 44 0) := (FM.f85 w2 44 _ (by decide)).put 44 _ (by decide)
            refine Ev.pos rfl (Ev.pos (Or.inl rfl) (Ev.ret ⟨(5, gg2, c2, K2, C2, T2, b2, V2, s2), g1.tr F9, ⟨g2.1.fr F9, by rw [up_slot _ _ _ _ (by omega), up_slot _ _ _ _ (by omega)]; exact g2.2.1, g2.2.2.1.fr (by rw [up_row _ _ _ (by omega), up_row _ _ _ (by omega)]) (by rw [up_row _ _ _ (by omega), up_row _ _ _ (by omega)]), by rw [up_slot _ _ _ _ (by omega), up_slot _ _ _ _ (by omega)]; exact h42⟩, hA2, hend, by omega, Or.inr ⟨rfl, Or.inr (Or.inl ⟨rfl, by rw [up_slot _ _ _ _ (by omega), up_slot _ _ _ _ (by omega)]; exact h41⟩)⟩⟩))
          · have h42 : w2 85 42 = 1 := g2.2.2
            rw [h42]
            refine Ev.neg (by decide) ?_
            rw [f_X9_reaches_17_s]
            exact Ev.pos rfl (Ev.pos (Or.inl rfl) (Ev.ret ⟨_, g1, g2, hA2, hend, by omega, Or.inr ⟨rfl, Or.inr (Or.inr rfl)⟩⟩))
      obtain ⟨md, g, c, K, C, T, b, V, s⟩ := st
      have hmd : md = 0 ∨ md = 1 := by
        have hst : md ≤ 1 := hst
        omega
      have hb : b ≤ 3000 := by
        rcases hmd with rfl | rfl
        · exact hA.1.2.1
        · exact hA.1.2.1
      rcases hmd with rfl | rfl
      · have hx := hR.2.1
        have hy := hR.2.2.2.1
        exact act _ rfl begin_range (m_goesOn0 hE hA hR) (by omega)
      · cases K with
        | nil =>
          have h40 : w 85 40 = -1 := hR.2.2.2
          rw [f_X9_reaches_17_s, h40]
          refine Ev.neg (by decide) (Ev.pos rfl (Ev.pos (Or.inr rfl) (Ev.ret ⟨(4, g, c, [], C, T, b, V, s), FM.rf, hR, hA, ?_, Nat.zero_le _, Or.inl ⟨rfl, rfl⟩⟩)))
          have := aEnd_step hE hA
          rw [show aStep E (1, g, c, [], C, T, b, V, s) = (4, g, c, [], C, T, b, V, s) from rfl] at this
          exact this
        | cons x K =>
          obtain ⟨p, f⟩ := x
          have hx := hR.2.1
          have hy := hR.2.2.2.1
          have hz := hR.2.2.2.2.1
          by_cases k38 : pk E p = 38
          · have e : aStep E (1, g, c, (p, f) :: K, C, T, b, V, s) = (0, ps E p, c, K, C, T, b, V, s) := if_pos k38
            have hA2 := a_ok hE hA
            have hphi := a_phi hE hA (by show 1 ≤ 3; omega)
            have hend := aEnd_step hE hA
            rw [e] at hA2 hphi hend
            refine Ev.mono (ihn (0, ps E p, c, K, C, T, b, V, s) w (by omega) (by omega) (Nat.zero_le 1) hA2 (repR_row k38 hR)) ?_
            rintro v w2 ⟨st', z1, z2, z3, z4, z5, z6⟩
            exact ⟨st', z1, z2, z3, z4.trans hend, by omega, z6⟩
          · exact act _ rfl (Or.inl goOn_range) (m_goesOn1 hE hA hR k38) (by omega)
theorem m_reach {E : EV} (hE : EOK E) {st : MS} {w : WS} (h1 : st.1 ≤ 1) (hA : AOK E st) (hR : RepR E st w) : Ev (f_X9_reaches 1 w) (Rc E w st) := by
  have hphi := aPhi_le hE hA
  unfold f_X9_reaches
  refine Ev.neg (by decide) ?_
  exact m_reach_loop hE FU 620001 st w (by unfold FU; omega) (by omega) h1 hA hR
theorem m_reach0 {E : EV} (hE : EOK E) {st : MS} {w : WS} (h2 : st.1 = 2) (hA : AOK E st) (hR : RepR E st w) : Ev (f_X9_reaches 0 w) (Rc E w st) := by
  unfold f_X9_reaches
  refine Ev.pos rfl ?_
  refine Ev.bd (m_back hE h2 hA hR) ?_
  rintro v w2 ⟨st2, z1, z2, z3, z4, z5, z6⟩
  rcases z6 with ⟨rfl, z6⟩ | ⟨rfl, z6⟩
  · refine Ev.neg (by decide) ?_
    have hphi := aPhi_le hE z3
    refine Ev.mono (m_reach_loop hE FU 620001 st2 w2 (by unfold FU; omega) (by omega) z6 z3 z2) ?_
    rintro v4 w4 ⟨st', y1, y2, y3, y4, y5, y6⟩
    exact ⟨st', z1.tr y1, y2, y3, y4.trans z4, by omega, y6⟩
  · refine Ev.pos rfl ?_
    obtain ⟨m, hm⟩ : ∃ m, FU = m + 1 := ⟨FU - 1, by unfold FU; omega⟩
    rw [hm, f_X9_reaches_17_s]
    refine Ev.pos rfl (Ev.pos (Or.inl rfl) (Ev.ret ⟨st2, z1, z2, z3, z4, by omega, Or.inr ⟨rfl, ?_⟩⟩))
    rcases z6 with z6 | z6
    · exact Or.inl z6
    · exact Or.inr (Or.inl z6)
