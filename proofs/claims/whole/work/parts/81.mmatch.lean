def sOf (st : MS) : Int := st.2.2.2.2.2.2.2.2
def vOf (st : MS) : Nat → List Int := st.2.2.2.2.2.2.2.1
def bOf (st : MS) : Int := st.2.2.2.2.2.2.1
def cOf (st : MS) : Int := st.2.2.1
def tOf (st : MS) : List Tk := st.2.2.2.2.2.1
/-- what of the reference a whole match may change -/
def FN (w w' : WS) : Prop := Fr LM w w' ∧ ∀ k, k ∉ (43 :: SM) → w' 85 k = w 85 k
theorem FN.rf {w : WS} : FN w w := ⟨Fr.rf, fun _ _ => rfl⟩
theorem FN.tr {a b c : WS} (h : FN a b) (k : FN b c) : FN a c := ⟨h.1.tr k.1, fun q hq => (k.2 q hq).trans (h.2 q hq)⟩
theorem FM.n {a b : WS} (h : FM a b) : FN a b := ⟨h.1, fun k hk => h.2 k (fun q => hk (List.mem_cons_of_mem _ q))⟩
theorem EM.frN {E : EV} {w w' : WS} (h : EM E w) (F : FN w w') : EM E w' := by
  obtain ⟨g1, g2, g3, g4, g5, g6, g7, g8⟩ := h
  have f87 := F.1 87 (by decide)
  have f88 := F.1 88 (by decide)
  exact ⟨(F.1 91 (by decide)).trans g1, (F.1 92 (by decide)).trans g2, (F.1 93 (by decide)).trans g3, (rM_fr f87 f88).trans g4, RM_fr f88 g5, by rw [F.1 100 (by decide)]; exact g6, (F.2 20 (by decide)).trans g7, (F.2 21 (by decide)).trans g8⟩
theorem m_beginAt {E : EV} {w : WS} {b : Int} {V : Nat → List Int} {x : Int} (h : EM E w) (hb : w 85 22 = b) (hb0 : 0 ≤ b) (hV : VM w V) (h41 : w 85 41 = 0) (h42 : w 85 42 = 0) : Ev (f_X9_beginAt x (eP E) w) (fun _ w' => FN w w' ∧ RepR E (0, eP E, x, [], [], [], b, V, x) w' ∧ w' 85 43 = x) := by
  unfold f_X9_beginAt
  have hw : ∃ w5, w5 = up (up (up (up (up w 85 43 x) 85 39 x) 85 27 0) 85 34 0) 85 38 0 := ⟨_, rfl⟩
  obtain ⟨w5, hw5⟩ := hw
  rw [← hw5]
  have e : ∀ i, i ≠ 85 → w5 i = w i := fun i hi => by
    rw [hw5, up_row _ _ _ hi, up_row _ _ _ hi, up_row _ _ _ hi, up_row _ _ _ hi, up_row _ _ _ hi]
  have sl : ∀ i, i ≠ 38 → i ≠ 34 → i ≠ 27 → i ≠ 39 → i ≠ 43 → w5 85 i = w 85 i := fun i a1 a2 a3 a4 a5 => by
    rw [hw5, up_slot _ _ _ _ a1, up_slot _ _ _ _ a2, up_slot _ _ _ _ a3, up_slot _ _ _ _ a4, up_slot _ _ _ _ a5]
  have s38 : w5 85 38 = 0 := by rw [hw5, up_same]
  have s34 : w5 85 34 = 0 := by rw [hw5, up_slot _ _ _ _ (by omega), up_same]
  have s27 : w5 85 27 = 0 := by rw [hw5, up_slot _ _ _ _ (by omega), up_slot _ _ _ _ (by omega), up_same]
  have s39 : w5 85 39 = x := by rw [hw5, up_slot _ _ _ _ (by omega), up_slot _ _ _ _ (by omega), up_slot _ _ _ _ (by omega), up_same]
  have s43 : w5 85 43 = x := by rw [hw5, up_slot _ _ _ _ (by omega), up_slot _ _ _ _ (by omega), up_slot _ _ _ _ (by omega), up_slot _ _ _ _ (by omega), up_same]
  clear hw5
  have F5 : FN w w5 := ⟨fun c hc => e c (fun q => hc (by rw [q]; decide)), fun k hk => by
    have : k ≠ 38 ∧ k ≠ 34 ∧ k ≠ 27 ∧ k ≠ 39 ∧ k ≠ 43 := by
      refine ⟨?_, ?_, ?_, ?_, ?_⟩ <;> (intro q; exact hk (by rw [q]; decide))
    exact sl k this.1 this.2.1 this.2.2.1 this.2.2.2.1 this.2.2.2.2⟩
  have B5 : BR E w5 [] [] b V x := ⟨h.frN F5, (sl 22 (by omega) (by omega) (by omega) (by omega) (by omega)).trans hb, s43, hV.fr (e 89 (by omega)) (e 90 (by omega)), ⟨s34, trivial⟩, ⟨s38, fun k hk => by simp at hk⟩, by omega, (sl 41 (by omega) (by omega) (by omega) (by omega) (by omega)).trans h41, (sl 42 (by omega) (by omega) (by omega) (by omega) (by omega)).trans h42⟩
  refine Ev.obe (m_addGoal (by omega) 0 (eP E) 0 (-1)) ?_
  have nw := goaW_new w5 0 (eP E) 0 (-1)
  have B3 := (B5.goal 0 (eP E) 0 (-1)).fld 40 (w5 85 27) (Or.inr (Or.inl rfl))
  have e' : ∀ i, i ≠ 85 → (up (goaW w5 0 (eP E) 0 (-1)) 85 40 (w5 85 27)) i = (goaW w5 0 (eP E) 0 (-1)) i := fun i hi => up_row _ _ _ hi
  have n3 : (up (goaW w5 0 (eP E) 0 (-1)) 85 40 (w5 85 27)) 85 27 = w5 85 27 + 1 := by rw [up_slot _ _ _ _ (by omega), goaW_n]
  have e40 : (up (goaW w5 0 (eP E) 0 (-1)) 85 40 (w5 85 27)) 85 40 = w5 85 27 := up_same _ _ _ _
  refine Ev.ret ⟨F5.tr (((goaW_FM w5 0 (eP E) 0 (-1)).put 40 _ (by decide)).n), ⟨B3, ?_, ?_, ?_, ?_, ?_, ?_⟩, ?_⟩
  · rw [n3]; omega
  · rw [up_slot _ _ _ _ (by omega), goaW_85 w5 0 _ 0 _ (by omega), s39]
  · rw [n3, e40]; omega
  · rw [e40, e' 101 (by omega)]; exact nw.1
  · rw [e40, e' 102 (by omega)]; exact nw.2.1
  · rw [e40, e' 104 (by omega), nw.2.2.2]
    rfl
  · rw [up_slot _ _ _ _ (by omega), goaW_85 w5 0 _ 0 _ (by omega), s43]
/-- ahead of a cursor: no place is begun -/
def R3 (E : EV) (st : MS) (w : WS) : Prop := EM E w ∧ w 85 22 = bOf st ∧ VM w (vOf st) ∧ w 85 41 = 0 ∧ w 85 42 = 0
theorem RepR.r3 {E : EV} {st : MS} {w : WS} (h : RepR E st w) (hm : st.1 = 3) : R3 E st w := by
  obtain ⟨md, g, c, K, C, T, b, V, s⟩ := st
  have hm : md = 3 := hm
  subst hm
  exact ⟨h.1, h.2.1, h.2.2.2.1, h.2.2.2.2⟩
def lastC (E : EV) : Int := if eA E = 0 then (eS E).length else 0
/-- one cursor on: what beginning there comes to -/
theorem m_try {E : EV} (hE : EOK E) {w : WS} {st : MS} (h3 : st.1 = 3) (hA : AOK E st) (hR : R3 E st w) (hgo : sOf st + 1 ≤ lastC E) : Ev (ob (f_X9_beginAt (sOf st + 1) (eP E) w) fun _ w1 => f_X9_reaches 1 w1) (fun v w' => FN w w' ∧ w' 85 43 = sOf st + 1 ∧ ∃ st', RepR E st' w' ∧ AOK E st' ∧ aEnd E st' = aEnd E st ∧ ((v = 1 ∧ st'.1 = 4) ∨ (v = 0 ∧ (st'.1 = 3 ∨ (st'.1 = 5 ∧ w' 85 41 = 1) ∨ st'.1 = 6)))) := by
  obtain ⟨md, g, c, K, C, T, b, V, s⟩ := st
  have h3 : md = 3 := h3
  subst h3
  have hgo : s + 1 ≤ lastC E := hgo
  show Ev (ob (f_X9_beginAt (s + 1) (eP E) w) fun _ w1 => f_X9_reaches 1 w1) (fun v w' => FN w w' ∧ w' 85 43 = s + 1 ∧ _)
  obtain ⟨r1, r2, r4, r5, r6⟩ := hR
  have hA2 := a_ok hE hA
  have hend := aEnd_step hE hA
  have hs : aStep E (3, g, c, K, C, T, b, V, s) = (0, eP E, s + 1, [], [], [], b, V, s + 1) := by
    show aNext E g c K C T b V s = _
    unfold aNext
    unfold lastC at hgo
    rw [if_neg]
    intro q
    by_cases e : eA E = 0
    · rw [if_pos e] at hgo
      omega
    · rw [if_neg e] at hgo
      have := hE.2.2.2.2.2.2.2.1
      omega
  rw [hs] at hA2 hend
  refine Ev.bd (m_beginAt (x := s + 1) r1 r2 hA.1.1 r4 r5 r6) ?_
  rintro v w1 ⟨f1, f2, f3⟩
  refine Ev.mono (m_reach hE (Nat.zero_le 1) hA2 f2) ?_
  rintro v w2 ⟨st', z1, z2, z3, z4, z5, z6⟩
  exact ⟨f1.tr z1.n, (z1.2 43 (by decide)).trans f3, st', z2, z3, z4.trans hend, z6⟩
theorem m_over {E : EV} {st : MS} (hE : EOK E) (h3 : st.1 = 3) (hA : AOK E st) (hgo : lastC E < sOf st + 1) : (aEnd E st).1 = 5 ∧ vOf (aEnd E st) = vOf st ∧ bOf (aEnd E st) = bOf st := by
  obtain ⟨md, g, c, K, C, T, b, V, s⟩ := st
  have h3 : md = 3 := h3
  subst h3
  have hgo : lastC E < s + 1 := hgo
  have hend := aEnd_step hE hA
  have hs : aStep E (3, g, c, K, C, T, b, V, s) = (5, g, c, K, C, T, b, V, s + 1) := by
    show aNext E g c K C T b V s = _
    unfold aNext
    unfold lastC at hgo
    rw [if_pos]
    by_cases e : eA E = 0
    · rw [if_pos e] at hgo
      exact Or.inl hgo
    · rw [if_neg e] at hgo
      exact Or.inr ⟨e, hgo⟩
  rw [hs, aEnd_halt (by show 4 ≤ 5; omega)] at hend
  rw [← hend]
  exact ⟨rfl, rfl, rfl⟩
theorem RepR.flag {E : EV} {st : MS} {w : WS} (h : RepR E st w) (hm : st.1 = 3 ∨ st.1 = 4) : w 85 41 = 0 ∧ w 85 42 = 0 := by
  obtain ⟨md, g, c, K, C, T, b, V, s⟩ := st
  rcases hm with hm | hm
  · have hm : md = 3 := hm
    subst hm
    exact h.2.2.2.2
  · have hm : md = 4 := hm
    subst hm
    exact h.1.2.2.2.2.2.2.2
theorem RepR.f5 {E : EV} {st : MS} {w : WS} (h : RepR E st w) (hm : st.1 = 5) : w 85 42 = 0 := by
  obtain ⟨md, g, c, K, C, T, b, V, s⟩ := st
  have hm : md = 5 := hm
  subst hm
  exact h.2.2.2
theorem RepR.f6 {E : EV} {st : MS} {w : WS} (h : RepR E st w) (hm : st.1 = 6) : w 85 42 = 1 := by
  obtain ⟨md, g, c, K, C, T, b, V, s⟩ := st
  have hm : md = 6 := hm
  subst hm
  exact h.2.2
theorem RepR.s3 {E : EV} {st : MS} {w : WS} (h : RepR E st w) (hm : st.1 = 3) : w 85 43 = sOf st := by
  obtain ⟨md, g, c, K, C, T, b, V, s⟩ := st
  have hm : md = 3 := hm
  subst hm
  exact h.2.2.1
theorem RepR.s4 {E : EV} {st : MS} {w : WS} (h : RepR E st w) (hm : st.1 = 4) : w 85 43 = sOf st ∧ w 85 39 = cOf st := by
  obtain ⟨md, g, c, K, C, T, b, V, s⟩ := st
  have hm : md = 4 := hm
  subst hm
  exact ⟨h.1.2.2.1, h.2.2.1⟩
/-- the end of a match at a cursor too far: as the machine's -/
theorem RepR.stop {E : EV} {st : MS} {w : WS} (hE : EOK E) (h3 : st.1 = 3) (hA : AOK E st) (hR : R3 E st w) (hgo : lastC E < sOf st + 1) : RepR E (aEnd E st) w := by
  obtain ⟨a1, a2, a3⟩ := m_over hE h3 hA hgo
  obtain ⟨md, g, c, K, C, T, b, V, s⟩ := st
  have h3 : md = 3 := h3
  subst h3
  obtain ⟨r1, r2, r4, r5, r6⟩ := hR
  generalize aEnd E (3, g, c, K, C, T, b, V, s) = q at *
  obtain ⟨md, g', c', K', C', T', b', V', s'⟩ := q
  have a1 : md = 5 := a1
  have a2 : V' = V := a2
  have a3 : b' = b := a3
  subst a1 a2 a3
  exact ⟨r1, r2, r4, r6⟩
def mres (md : Nat) : Int := if md = 4 then 1 else if md = 6 then -1 else 0
theorem m_matches_loop {E : EV} (hE : EOK E) (d : Nat) : ∀ (m : Nat) (st : MS) (w : WS), (61 - sOf st).toNat ≤ d → d < m → st.1 = 3 → AOK E st → R3 E st w → -1 ≤ sOf st → sOf st ≤ 60 → Ev (f_X9_matches_36 m (eP E) 0 (lastC E) (sOf st + 1) w) (fun v w' => FN w w' ∧ RepR E (aEnd E st) w' ∧ v = mres (aEnd E st).1) := by
  have hl := hE.2.2.2.2.2.2.1
  have hlc : 0 ≤ lastC E ∧ lastC E ≤ 60 := by
    unfold lastC
    split <;> omega
  induction d with
  | zero => intro m st w h1 h2 h3 hA hR h4 h5; omega
  | succ d ih =>
    intro m st w h1 h2 h3 hA hR h4 h5
    obtain ⟨m, rfl⟩ : ∃ k, m = k + 1 := ⟨m - 1, by omega⟩
    rw [f_X9_matches_36_s]
    have fl := hR.2.2.2
    by_cases hgo : lastC E < sOf st + 1
    · refine Ev.pos (by first | (simp (disch := omega) only [wr_eq] <;> omega) | omega) ?_
      obtain ⟨a1, a2, a3⟩ := m_over hE h3 hA hgo
      unfold f_X9_matches_79
      rw [fl.2]
      refine Ev.pos rfl (Ev.pos rfl (Ev.ret ⟨FN.rf, RepR.stop hE h3 hA hR hgo, ?_⟩))
      rw [a1]
      rfl
    · refine Ev.neg (by first | (simp (disch := omega) only [wr_eq] <;> omega) | omega) ?_
      rw [fl.1, fl.2]
      refine Ev.pos rfl (Ev.pos rfl (Ev.pos rfl ?_))
      have ht := m_try hE h3 hA hR (by omega)
      have assoc : Ev (ob (ob (f_X9_beginAt (sOf st + 1) (eP E) w) fun _ w1 => f_X9_reaches 1 w1) fun r2 w2 => f_X9_matches_36 m (eP E) r2 (lastC E) (sOf st + 1 + 1) w2) (fun v w' => FN w w' ∧ RepR E (aEnd E st) w' ∧ v = mres (aEnd E st).1) := by
        refine Ev.bd ht ?_
        rintro v w2 ⟨f1, f2, st', z1, z2, z3, z4⟩
        obtain ⟨m2, hm2⟩ : ∃ k, m = k + 1 := ⟨m - 1, by omega⟩
        have out : ∀ x : Int, 4 ≤ st'.1 → ((x = 1 ∧ st'.1 = 4) ∨ (x = 0 ∧ ((st'.1 = 5 ∧ w2 85 41 = 1) ∨ st'.1 = 6))) → Ev (f_X9_matches_36 m (eP E) x (lastC E) (sOf st + 1 + 1) w2) (fun v w' => FN w w' ∧ RepR E (aEnd E st) w' ∧ v = mres (aEnd E st).1) := by
          intro x h4 hx
          rw [← z3, aEnd_halt h4]
          have fin : Ev (f_X9_matches_79 x w2) (fun v w' => FN w w' ∧ RepR E st' w' ∧ v = mres st'.1) := by
            unfold f_X9_matches_79
            rcases hx with ⟨rfl, e⟩ | ⟨rfl, ⟨e, e'⟩ | e⟩
            · rw [(z1.flag (Or.inr e)).2]
              refine Ev.pos rfl (Ev.neg (by decide) (Ev.ret ⟨f1, z1, ?_⟩))
              rw [e]; rfl
            · rw [z1.f5 e]
              refine Ev.pos rfl (Ev.pos rfl (Ev.ret ⟨f1, z1, ?_⟩))
              rw [e]; rfl
            · rw [z1.f6 e]
              refine Ev.neg (by decide) (Ev.ret ⟨f1, z1, ?_⟩)
              rw [e]; rfl
          rw [hm2, f_X9_matches_36_s]
          refine Ev.ite (fun _ => fin) (fun _ => ?_)
          rcases hx with ⟨rfl, e⟩ | ⟨rfl, ⟨e, e'⟩ | e⟩
          · exact Ev.neg (by decide) fin
          · rw [e']
            exact Ev.pos rfl (Ev.neg (by decide) fin)
          · rw [z1.f6 e]
            exact Ev.pos rfl (Ev.ite (fun _ => Ev.neg (by decide) fin) (fun _ => fin))
        rcases z4 with ⟨rfl, z4⟩ | ⟨rfl, z4⟩
        · exact out 1 (by omega) (Or.inl ⟨rfl, z4⟩)
        · rcases z4 with z4 | z4
          · have hs3 := z1.s3 z4
            rw [f2] at hs3
            have := ih m st' w2 (by omega) (by omega) z4 z2 (z1.r3 z4) (by omega) (by omega)
            rw [← hs3, z3] at this
            refine Ev.mono this ?_
            rintro v w3 ⟨y1, y2, y3⟩
            exact ⟨f1.tr y1, y2, y3⟩
          · refine out 0 ?_ (Or.inr ⟨rfl, z4⟩)
            rcases z4 with z4 | z4 <;> omega
      obtain ⟨v, w9, e9, h9⟩ := assoc
      refine ⟨v, w9, ?_, h9⟩
      rw [← e9]
      cases f_X9_beginAt (sOf st + 1) (eP E) w <;> rfl
theorem m_matches {E : EV} (hE : EOK E) {w : WS} {V : Nat → List Int} (vV : VOK V) (h : EM E w) (hV : VM w V) : Ev (f_X9_matches (eP E) w) (fun v w' => FN w w' ∧ RepR E (aEnd E (aSt0 V)) w' ∧ v = mres (aEnd E (aSt0 V)).1) := by
  have hl := hE.2.2.2.2.2.2.1
  have hEA := hE.2.2.2.2.2.2.2.1
  unfold f_X9_matches
  have F0 : FM w (up (up (up w 85 22 0) 85 41 0) 85 42 0) := ((FM.f85 w 22 _ (by decide)).put 41 _ (by decide)).put 42 _ (by decide)
  have e21 : (up (up (up w 85 22 0) 85 41 0) 85 42 0) 85 21 = eA E := (F0.2 21 (by decide)).trans h.2.2.2.2.2.2.2
  have e20 : (up (up (up w 85 22 0) 85 41 0) 85 42 0) 85 20 = (eS E).length := (F0.2 20 (by decide)).trans h.2.2.2.2.2.2.1
  have e22 : (up (up (up w 85 22 0) 85 41 0) 85 42 0) 85 22 = 0 := by rw [up_slot _ _ _ _ (by omega), up_slot _ _ _ _ (by omega), up_same]
  have e41 : (up (up (up w 85 22 0) 85 41 0) 85 42 0) 85 41 = 0 := by rw [up_slot _ _ _ _ (by omega), up_same]
  have e42 : (up (up (up w 85 22 0) 85 41 0) 85 42 0) 85 42 = 0 := up_same _ _ _ _
  have hV0 : VM (up (up (up w 85 22 0) 85 41 0) 85 42 0) V := hV.fr (by rw [up_row _ _ _ (by omega), up_row _ _ _ (by omega), up_row _ _ _ (by omega)]) (by rw [up_row _ _ _ (by omega), up_row _ _ _ (by omega), up_row _ _ _ (by omega)])
  have hE0 := h.fr F0
  rw [e21, e20]
  generalize up (up (up w 85 22 0) 85 41 0) 85 42 0 = w0 at F0 e22 e41 e42 hV0 hE0 ⊢
  have hR : R3 E (aSt0 V) w0 := ⟨hE0, e22, hV0, e41, e42⟩
  have key := m_matches_loop hE 62 FU (aSt0 V) w0 (by show (61 - (-1 : Int)).toNat ≤ 62; omega) (by unfold FU; omega) rfl (aSt0_ok vV) hR (Int.le_refl (-1)) (by show (-1 : Int) ≤ 60; omega)
  have e0 : sOf (aSt0 V) + 1 = 0 := rfl
  rw [e0] at key
  unfold lastC at key
  have fin : Ev (f_X9_matches_36 FU (eP E) 0 (if eA E = 0 then ((eS E).length : Int) else 0) 0 w0) (fun v w' => FN w w' ∧ RepR E (aEnd E (aSt0 V)) w' ∧ v = mres (aEnd E (aSt0 V)).1) := key.mono (fun v w' h => ⟨F0.n.tr h.1, h.2⟩)
  by_cases q : eA E = 0
  · rw [if_pos q] at fin
    exact Ev.pos (by rw [q]; rfl) fin
  · rw [if_neg q] at fin
    have h1 : eA E = 1 := by omega
    exact Ev.neg (by rw [h1]; decide) fin
