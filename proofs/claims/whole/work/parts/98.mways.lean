/-! all ways; the reference -/
theorem RepR.again80 {E : EV} {st : MS} {w w' : WS} (h : RepR E st w) (hm : st.1 = 4) (F : FX [85, 134] [80] w w') : RepR E (aAgain st) w' := by
  obtain ⟨md, g, c, K, C, T, b, V, s⟩ := st
  have hm : md = 4 := hm
  subst hm
  obtain ⟨h1, h2, -⟩ := h
  have e : ∀ q, q ≠ 85 → q ≠ 134 → w' q = w q := fun q a b => F.1 q (by simp; omega)
  have s' : ∀ q, q ≠ 80 → w' 85 q = w 85 q := fun q a => F.2 q (by simp; omega)
  obtain ⟨⟨k1, k2, k3, k4, k5, k6, k7, k8⟩, g2, g3, g4, ⟨g5, g6⟩, g7, g8, g9, g10⟩ := h1
  refine ⟨⟨⟨(e 91 (by omega) (by omega)).trans k1, (e 92 (by omega) (by omega)).trans k2, (e 93 (by omega) (by omega)).trans k3, (rM_fr (e 87 (by omega) (by omega)) (e 88 (by omega) (by omega))).trans k4, RM_fr (e 88 (by omega) (by omega)) k5, by rw [e 100 (by omega) (by omega)]; exact k6, (s' 20 (by omega)).trans k7, (s' 21 (by omega)).trans k8⟩, (s' 22 (by omega)).trans g2, (s' 43 (by omega)).trans g3, g4.fr (e 89 (by omega) (by omega)) (e 90 (by omega) (by omega)), ⟨(s' 34 (by omega)).trans g5, ?_⟩, g7.fr (s' 38 (by omega)) (e 111 (by omega) (by omega)) (e 112 (by omega) (by omega)) (e 113 (by omega) (by omega)), by rw [s' 27 (by omega)]; exact g8, (s' 41 (by omega)).trans g9, (s' 42 (by omega)).trans g10⟩, by rw [s' 27 (by omega)]; exact h2⟩
  rw [s' 27 (by omega)]
  refine g6.mono (NR.same (e 101 (by omega) (by omega)) (e 102 (by omega) (by omega)) (e 103 (by omega) (by omega)) (e 104 (by omega) (by omega))) (Int.le_refl _) (fun q _ => ?_)
  rw [e 105 (by omega) (by omega), e 106 (by omega) (by omega), e 107 (by omega) (by omega), e 108 (by omega) (by omega), e 109 (by omega) (by omega), e 110 (by omega) (by omega)]
  exact ⟨rfl, rfl, rfl, rfl, rfl, rfl⟩
/-- the variables as they were are spared -/
def SP (w : WS) (V0 : Nat → List Int) : Prop := ∃ wo : WS, VM wo V0 ∧ (∀ k, k < 1560 → w 132 k = wo 89 k) ∧ (∀ k, k < 26 → w 133 k = wo 90 k)
theorem SP.fr {w w' : WS} {V0 : Nat → List Int} (h : SP w V0) (h1 : w' 132 = w 132) (h2 : w' 133 = w 133) : SP w' V0 := by
  obtain ⟨wo, a, b, c⟩ := h
  exact ⟨wo, a, fun k hk => by rw [h1]; exact b k hk, fun k hk => by rw [h2]; exact c k hk⟩
theorem m_unspareV {w : WS} {V0 : Nat → List Int} (h : SP w V0) (ho : RM w 90 60 26) : Ev (f_X9_unspare w) (fun _ w' => Fr [89, 90] w w' ∧ VM w' V0) := by
  obtain ⟨wo, a, b, c⟩ := h
  refine Ev.mono (m_unspare w) ?_
  rintro v w' ⟨q1, q2, q3⟩
  have e90 : ∀ k, w' 90 k = wo 90 k := by
    intro k
    rw [q3]
    by_cases q : k < 26
    · rw [if_pos q, c k q]
    · rw [if_neg q, (ho k).2 (by omega), (a.2 k).2 (by omega)]
  refine ⟨q1, ?_, fun r => by rw [e90]; exact a.2 r⟩
  rw [← a.1]
  funext r
  unfold rM
  rw [e90]
  refine sg_congr (fun k hk => ?_)
  have hr := (a.2 r).1
  have hr2 := (a.2 r).2
  have : r < 26 := by
    by_cases q : r < 26
    · exact q
    · rw [hr2 (by omega)] at hk; exact absurd hk (by simp)
  rw [q2, if_pos (by omega), b _ (by omega)]
def LW : List Nat := [85, 89, 90, 101, 102, 103, 104, 105, 106, 107, 108, 109, 110, 111, 112, 113, 134]
def SW : List Nat := [80, 43, 22, 27, 34, 38, 39, 40, 41, 42, 44]
def Wd (V0 : Nat → List Int) (w : WS) (X : Int × List Int × MS) (v : Int) (w' : WS) : Prop := FX LW SW w w' ∧ v = (if X.1 = -1 then 0 else 1) ∧ w' 85 80 = X.2.1.length ∧ sg (w' 134) 0 X.2.1.length = X.2.1 ∧ VM w' (if X.1 = -1 then V0 else vOf X.2.2)
theorem m_46stop {m : Nat} {a1 a2 a3 : Int} {w : WS} (h : wr a2 < wr a3 ∨ ¬ wr (w 85 41) = 0 ∨ ¬ wr (w 85 42) = 0 ∨ ¬ wr (w 85 80) < wr 200) : f_X9_findWays_46 (m + 1) a1 a2 a3 w = f_X9_findWays_155 w := by
  rw [f_X9_findWays_46_s]
  by_cases q1 : wr a2 < wr a3
  · exact if_pos q1
  rw [if_neg q1]
  by_cases q2 : wr (w 85 41) = 0
  · rw [if_pos q2]
    by_cases q3 : wr (w 85 42) = 0
    · rw [if_pos q3]
      by_cases q4 : wr (w 85 80) < wr 200
      · exfalso
        rcases h with h | h | h | h
        · exact q1 h
        · exact h q2
        · exact h q3
        · exact h q4
      · exact if_neg q4
    · exact if_neg q3
  · exact if_neg q2
theorem m_155 {w : WS} {V0 : Nat → List Int} {L : List Int} {e : MS} (h80 : w 85 80 = L.length) (h134 : sg (w 134) 0 L.length = L) (hV : VM w (vOf e)) (hS : SP w V0) (h42 : w 85 42 = 0 ∨ w 85 42 = 1) : Ev (f_X9_findWays_155 w) (Wd V0 w (if w 85 42 = 1 then -1 else (L.length : Int), L, e)) := by
  unfold f_X9_findWays_155 f_X9_findWays_166
  rcases h42 with h42 | h42
  · rw [h42]
    refine Ev.pos rfl (Ev.pos rfl (Ev.ret ⟨FX.rf, ?_, h80, h134, ?_⟩))
    · show (1 : Int) = if (if (0 : Int) = 1 then -1 else (L.length : Int)) = -1 then 0 else 1
      rw [if_neg (by decide : ¬ (0 : Int) = 1), if_neg (by omega)]
    · show VM w (if (if (0 : Int) = 1 then -1 else (L.length : Int)) = -1 then V0 else vOf e)
      rw [if_neg (by decide : ¬ (0 : Int) = 1), if_neg (by omega)]
      exact hV
  · rw [h42]
    refine Ev.neg (by decide) ?_
    refine Ev.bd (m_unspareV hS hV.2) ?_
    rintro v w1 ⟨q1, q2⟩
    rw [q1 85 (by simp), h42]
    exact Ev.neg (by decide) (Ev.ret ⟨FX.of q1 (by decide) (by decide), rfl, by rw [q1 85 (by simp)]; exact h80, by rw [q1 134 (by simp)]; exact h134, q2⟩)
theorem RepR.vm {E : EV} {st : MS} {w : WS} (h : RepR E st w) (hm : 3 ≤ st.1 ∧ st.1 ≤ 6) : EM E w ∧ VM w (vOf st) := by
  have h4 := fun q => RepR.md4 h q
  have h56 := fun q => RepR.md56 h q
  have h3 := fun q => RepR.r3 h q
  obtain ⟨md, g, c, K, C, T, b, V, s⟩ := st
  have hm : 3 ≤ md ∧ md ≤ 6 := hm
  have c' : md = 3 ∨ md = 4 ∨ md = 5 ∨ md = 6 := by omega
  rcases c' with rfl | rfl | rfl | rfl
  · exact ⟨(h3 rfl).1, (h3 rfl).2.2.1⟩
  · exact ⟨(h4 rfl).1, (h4 rfl).2.1⟩
  · exact h56 (Or.inl rfl)
  · exact h56 (Or.inr rfl)
/-- what is known between two cursors -/
def W3 (E : EV) (V0 : Nat → List Int) (st : MS) (L : List Int) (w : WS) : Prop := AOK E st ∧ SP w V0 ∧ w 85 80 = L.length ∧ sg (w 134) 0 L.length = L
/-- what the outer loop comes to from a state and what has been found -/
def WK (E : EV) (V0 : Nat → List Int) (w : WS) (n : Nat) (st : MS) (L : List Int) (F : Option (Int × WS)) : Prop := Ev F (Wd V0 w (if st.1 = 4 then aW E n (aAgain st) (L ++ [100 * sOf st + cOf st]) else if st.1 = 3 then aW E (n + 1) st L else if st.1 = 6 then (-1, L, st) else (L.length, L, st)))
theorem Wd.tr {V0 : Nat → List Int} {w w1 : WS} {X : Int × List Int × MS} (F : FX LW SW w w1) {f : Option (Int × WS)} (h : Ev f (Wd V0 w1 X)) : Ev f (Wd V0 w X) := h.mono (fun v w' q => ⟨F.tr q.1, q.2⟩)
/-- stopped by too many places, or by a pattern that breaks off -/
theorem m_stop56 {E : EV} {V0 : Nat → List Int} {st : MS} {L : List Int} {w : WS} (hR : RepR E st w) (h : W3 E V0 st L w) (hm : (st.1 = 5 ∧ w 85 41 = 1) ∨ st.1 = 6) (m : Nat) (a1 a2 a3 : Int) (n : Nat) : Ev (f_X9_findWays_46 (m + 1) a1 a2 a3 w) (Wd V0 w (if st.1 = 4 then aW E n (aAgain st) (L ++ [100 * sOf st + cOf st]) else if st.1 = 3 then aW E (n + 1) st L else if st.1 = 6 then (-1, L, st) else (L.length, L, st))) := by
  obtain ⟨h1, h2, h3, h4⟩ := h
  rw [if_neg (by omega), if_neg (by omega)]
  obtain ⟨-, hV⟩ := hR.vm (by omega)
  rcases hm with ⟨m5, m41⟩ | m6
  · have h42 := hR.f5 m5
    rw [m_46stop (Or.inr (Or.inl (by rw [m41]; decide)))]
    have := m_155 h3 h4 hV h2 (Or.inl h42)
    rw [if_neg (by omega)] at this
    rw [if_neg (by omega)]
    exact this
  · have h42 := hR.f6 m6
    rw [m_46stop (Or.inr (Or.inr (Or.inl (by rw [h42]; decide))))]
    have := m_155 h3 h4 hV h2 (Or.inr h42)
    rw [if_pos h42] at this
    rw [if_pos m6]
    exact this
/-- the ways from one cursor, one behind the other -/
theorem m_w88 {E : EV} (hE : EOK E) {V0 : Nat → List Int} (m : Nat) (a3 : Int) (HK : ∀ (n : Nat) (st : MS) (L : List Int) (w : WS), n + L.length = 200 → st.1 = 3 → sOf st = a3 → RepR E st w → W3 E V0 st L w → Ev (f_X9_findWays_46 (m + 1) (eP E) (lastC E) (a3 + 1) w) (Wd V0 w (aW E n st L))) (n : Nat) : ∀ (m' : Nat) (st : MS) (L : List Int) (w : WS), n < m' → n + 1 + L.length = 200 → st.1 = 4 → sOf st = a3 → RepR E st w → W3 E V0 st L w → Ev (f_X9_findWays_88 (fun x0 x1 x2 x => f_X9_findWays_46 (m + 1) x0 x1 x2 x) (m' + 1) (eP E) (lastC E) a3 1 w) (Wd V0 w (aW E n (aAgain st) (L ++ [100 * sOf st + cOf st]))) := by
  induction n with
  | zero =>
    intro m' st L w h1 h2 h4 hs hR hW
    obtain ⟨m', rfl⟩ : ∃ j, m' = j + 1 := ⟨m' - 1, by omega⟩
    obtain ⟨hA, hS, h80, h134⟩ := hW
    obtain ⟨r1, r2, r3, r4', r5, r6⟩ := hR.md4 h4
    rw [f_X9_findWays_88_s, h80, ixn (k := L.length) (by omega), Int.toNat_natCast, r5, ← hs]
    refine Ev.neg (by decide) ?_
    have p80 : (up w 134 L.length (100 * sOf st + cOf st)) 85 80 = L.length := by rw [up_row _ _ _ (by omega)]; exact h80
    rw [p80, up_same]
    refine Ev.pos (by first | (simp (disch := omega) only [wr_eq] <;> omega) | omega) ?_
    have F : FX [85, 134] [80] w (up (up w 134 L.length (100 * sOf st + cOf st)) 85 80 ((L.length : Int) + 1)) := (FX.rf.oth 134 _ _ (by simp) (by omega)).put 80 _ (by simp) (by simp)
    have g80 : (up (up w 134 L.length (100 * sOf st + cOf st)) 85 80 ((L.length : Int) + 1)) 85 80 = (L.length : Int) + 1 := up_same _ _ _ _
    have g134 : sg ((up (up w 134 L.length (100 * sOf st + cOf st)) 85 80 ((L.length : Int) + 1)) 134) 0 (L.length + 1) = L ++ [100 * sOf st + cOf st] := by rw [up_row _ _ _ (by omega)]; exact sg_push w 134 h134 _
    generalize up (up w 134 L.length (100 * sOf st + cOf st)) 85 80 ((L.length : Int) + 1) = w1 at F g80 g134 ⊢
    refine Ev.neg (by first | (simp (disch := omega) only [wr_eq] <;> omega) | omega) ?_
    rw [f_X9_findWays_88_s]
    refine Ev.pos rfl ?_
    have hl : (L ++ [100 * sOf st + cOf st]).length = L.length + 1 := by simp
    rw [m_46stop (Or.inr (Or.inr (Or.inr (by rw [g80, wr_eq (by omega), wr_eq (by omega)]; omega))))]
    have s42 : w1 85 42 = 0 := (F.2 42 (by simp)).trans (hR.flag (Or.inr h4)).2
    have hV1 : VM w1 (vOf (aAgain st)) := by rw [(aAgain_v st).1]; exact r2.fr (F.1 89 (by simp)) (F.1 90 (by simp))
    have := m_155 (L := L ++ [100 * sOf st + cOf st]) (e := aAgain st) (by rw [hl, g80]; omega) (by rw [hl]; exact g134) hV1 (hS.fr (F.1 132 (by simp)) (F.1 133 (by simp))) (Or.inl s42)
    rw [if_neg (by omega)] at this
    exact Wd.tr (F.sub (by decide) (by decide)) this
  | succ n ih =>
    intro m' st L w h1 h2 h4 hs hR hW
    obtain ⟨m', rfl⟩ : ∃ j, m' = j + 1 := ⟨m' - 1, by omega⟩
    obtain ⟨hA, hS, h80, h134⟩ := hW
    obtain ⟨r1, r2, r3, r4', r5, r6⟩ := hR.md4 h4
    rw [f_X9_findWays_88_s, h80, ixn (k := L.length) (by omega), Int.toNat_natCast, r5, ← hs]
    refine Ev.neg (by decide) ?_
    have p80 : (up w 134 L.length (100 * sOf st + cOf st)) 85 80 = L.length := by rw [up_row _ _ _ (by omega)]; exact h80
    rw [p80, up_same]
    refine Ev.pos (by first | (simp (disch := omega) only [wr_eq] <;> omega) | omega) ?_
    have F : FX [85, 134] [80] w (up (up w 134 L.length (100 * sOf st + cOf st)) 85 80 ((L.length : Int) + 1)) := (FX.rf.oth 134 _ _ (by simp) (by omega)).put 80 _ (by simp) (by simp)
    have g80 : (up (up w 134 L.length (100 * sOf st + cOf st)) 85 80 ((L.length : Int) + 1)) 85 80 = (L.length : Int) + 1 := up_same _ _ _ _
    have g134 : sg ((up (up w 134 L.length (100 * sOf st + cOf st)) 85 80 ((L.length : Int) + 1)) 134) 0 (L.length + 1) = L ++ [100 * sOf st + cOf st] := by rw [up_row _ _ _ (by omega)]; exact sg_push w 134 h134 _
    generalize up (up w 134 L.length (100 * sOf st + cOf st)) 85 80 ((L.length : Int) + 1) = w1 at F g80 g134 ⊢
    have hR1 := hR.again80 h4 F
    have hA1 := hA.again h4
    have ag := aAgain_v st
    have hl : (L ++ [100 * sOf st + cOf st]).length = L.length + 1 := by simp
    have s43 : w1 85 43 = a3 := (F.2 43 (by simp)).trans (r4'.trans hs)
    refine Ev.pos (by first | (simp (disch := omega) only [wr_eq] <;> omega) | omega) ?_
    refine Ev.bd (m_reach0 hE ag.2.1 hA1 hR1) ?_
    rintro v w2 ⟨st', z1, z2, z3, z4, z5, z6⟩
    have F2 : FX LW SW w w2 := (F.sub (by decide) (by decide)).tr (FX.sub (L := LM) (S := SM) z1 (by decide) (by decide))
    have W2 : W3 E V0 st' (L ++ [100 * sOf st + cOf st]) w2 := ⟨z3, (hS.fr (F.1 132 (by simp)) (F.1 133 (by simp))).fr (z1.1 132 (by decide)) (z1.1 133 (by decide)), by rw [hl, z1.2 80 (by decide), g80]; omega, by rw [hl, z1.1 134 (by decide)]; exact g134⟩
    have t43 : w2 85 43 = a3 := (z1.2 43 (by decide)).trans s43
    rw [aW_s, ← z4]
    rw [hs]
    rcases z6 with ⟨rfl, z6⟩ | ⟨rfl, z6⟩
    · refine Ev.neg (by decide) ?_
      rw [aEnd_halt (by omega : 4 ≤ st'.1), if_neg (by omega), if_pos z6]
      have e43 := (z2.s4 z6).1
      have key := ih m' st' (L ++ [100 * sOf st + cOf st]) w2 (by omega) (by rw [hl]; omega) z6 (by rw [← e43]; exact t43) z2 W2
      rw [hs] at key
      exact Wd.tr F2 key
    · refine Ev.pos rfl ?_
      rw [f_X9_findWays_88_s]
      refine Ev.pos rfl ?_
      rcases z6 with z6 | z6 | z6
      · have e43 := z2.s3 z6
        have key := HK (n + 1) st' (L ++ [100 * sOf st + cOf st]) w2 (by rw [hl]; omega) z6 (by rw [← e43]; exact t43) z2 W2
        rw [aW_s, hs] at key
        exact Wd.tr F2 key
      · have key := m_stop56 z2 W2 (Or.inl z6) m (eP E) (lastC E) (a3 + 1) 0
        rw [if_neg (by omega), if_neg (by omega), if_neg (by omega), hs] at key
        rw [aEnd_halt (by omega : 4 ≤ st'.1), if_neg (by omega), if_neg (by omega)]
        exact Wd.tr F2 key
      · have key := m_stop56 z2 W2 (Or.inr z6) m (eP E) (lastC E) (a3 + 1) 0
        rw [if_neg (by omega), if_neg (by omega), if_pos z6, hs] at key
        rw [aEnd_halt (by omega : 4 ≤ st'.1), if_pos z6]
        exact Wd.tr F2 key
theorem m_w46 {E : EV} (hE : EOK E) {V0 : Nat → List Int} (d : Nat) : ∀ (m n : Nat) (st : MS) (L : List Int) (w : WS), (61 - sOf st).toNat ≤ d → d < m → n + L.length = 200 → st.1 = 3 → -1 ≤ sOf st → sOf st ≤ 60 → R3 E st w → W3 E V0 st L w → Ev (f_X9_findWays_46 m (eP E) (lastC E) (sOf st + 1) w) (Wd V0 w (aW E n st L)) := by
  have hl60 := hE.2.2.2.2.2.2.1
  have hlc : 0 ≤ lastC E ∧ lastC E ≤ 60 := by
    unfold lastC
    split <;> omega
  induction d with
  | zero => intro m n st L w h1 h2 h3 h4 h5 h6; omega
  | succ d ihd =>
    intro m n st L w h1 h2 h3 h4 h5 h6 hR hW
    obtain ⟨m, rfl⟩ : ∃ j, m = j + 1 := ⟨m - 1, by omega⟩
    obtain ⟨hA, hS, h80, h134⟩ := hW
    obtain ⟨g1, g2, g3, g4, g5⟩ := hR
    cases n with
    | zero =>
      rw [m_46stop (Or.inr (Or.inr (Or.inr (by rw [h80, wr_eq (by omega), wr_eq (by omega)]; omega))))]
      have := m_155 (e := st) h80 h134 g3 hS (Or.inl g5)
      rw [if_neg (by omega)] at this
      exact this
    | succ n =>
      by_cases hgo : lastC E < sOf st + 1
      · rw [m_46stop (Or.inl (by rw [wr_eq (by omega), wr_eq (by omega)]; exact hgo))]
        obtain ⟨a1, a2, a3⟩ := m_over hE h4 hA hgo
        have := m_155 (e := aEnd E st) h80 h134 (by rw [a2]; exact g3) hS (Or.inl g5)
        rw [if_neg (by omega)] at this
        rw [aW_s, if_neg (by omega), if_neg (by omega)]
        exact this
      · rw [f_X9_findWays_46_s, g4, g5, h80]
        refine Ev.neg (by first | (simp (disch := omega) only [wr_eq] <;> omega) | omega) ?_
        refine Ev.pos rfl (Ev.pos rfl ?_)
        refine Ev.pos (by first | (simp (disch := omega) only [wr_eq] <;> omega) | omega) ?_
        have assoc : ∀ (K : Int → WS → Option (Int × WS)), (ob (f_X9_beginAt (sOf st + 1) (eP E) w) fun _ w4 => ob (f_X9_reaches 1 w4) fun r5 w5 => K r5 w5) = ob (ob (f_X9_beginAt (sOf st + 1) (eP E) w) fun _ w1 => f_X9_reaches 1 w1) (fun r5 w5 => K r5 w5) := by
          intro K
          cases f_X9_beginAt (sOf st + 1) (eP E) w <;> rfl
        rw [assoc]
        refine Ev.bd (m_try hE h4 hA ⟨g1, g2, g3, g4, g5⟩ (by omega)) ?_
        rintro v w1 ⟨q1, q2, st', z1, z2, z3, z4⟩
        have F1 : FX LW SW w w1 := FX.sub (L := LM) (S := 43 :: SM) q1 (by decide) (by decide)
        have W1 : W3 E V0 st' L w1 := ⟨z2, hS.fr (q1.1 132 (by decide)) (q1.1 133 (by decide)), (q1.2 80 (by decide)).trans h80, by rw [q1.1 134 (by decide)]; exact h134⟩
        obtain ⟨fu, hfu⟩ : ∃ fu, FU = fu + 1 := ⟨FU - 1, by unfold FU; omega⟩
        have hfu' : 200 < fu := by have : FU > 1000 := by unfold FU; omega
                                   omega
        rw [hfu]
        obtain ⟨m, rfl⟩ : ∃ j, m = j + 1 := ⟨m - 1, by omega⟩
        have HK : ∀ (n : Nat) (st2 : MS) (L : List Int) (w : WS), n + L.length = 200 → st2.1 = 3 → sOf st2 = sOf st + 1 → RepR E st2 w → W3 E V0 st2 L w → Ev (f_X9_findWays_46 (m + 1) (eP E) (lastC E) (sOf st + 1 + 1) w) (Wd V0 w (aW E n st2 L)) := by
          intro n st2 L w k1 k2 k3 k4 k5
          have := ihd (m + 1) n st2 L w (by omega) (by omega) k1 k2 (by omega) (by omega) (k4.r3 k2) k5
          rw [k3] at this
          exact this
        rw [aW_s, ← z3]
        rcases z4 with ⟨rfl, z4⟩ | ⟨rfl, z4⟩
        · rw [aEnd_halt (by omega : 4 ≤ st'.1), if_neg (by omega), if_pos z4]
          have e43 := (z1.s4 z4).1
          exact Wd.tr F1 (m_w88 hE m (sOf st + 1) HK n fu st' L w1 (by omega) (by omega) z4 (e43.symm.trans q2) z1 W1)
        · rw [f_X9_findWays_88_s]
          refine Ev.pos rfl ?_
          rcases z4 with z4 | z4 | z4
          · have e43 := z1.s3 z4
            have key := HK (n + 1) st' L w1 h3 z4 (e43.symm.trans q2) z1 W1
            rw [aW_s] at key
            exact Wd.tr F1 key
          · have key := m_stop56 z1 W1 (Or.inl z4) m (eP E) (lastC E) (sOf st + 1 + 1) 0
            rw [if_neg (by omega), if_neg (by omega), if_neg (by omega)] at key
            rw [aEnd_halt (by omega : 4 ≤ st'.1), if_neg (by omega), if_neg (by omega)]
            exact Wd.tr F1 key
          · have key := m_stop56 z1 W1 (Or.inr z4) m (eP E) (lastC E) (sOf st + 1 + 1) 0
            rw [if_neg (by omega), if_neg (by omega), if_pos z4] at key
            rw [aEnd_halt (by omega : 4 ≤ st'.1), if_pos z4]
            exact Wd.tr F1 key
