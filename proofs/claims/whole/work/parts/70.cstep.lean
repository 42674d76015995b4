def CS (E : EV) (w : WS) (a : Int) (st : MS) (n : Nat) : Prop := ∃ k w', k ≤ n ∧ RepC E st w' ∧ Fr LC w w' ∧ GoT w a w' (cm st.1) k
theorem CS.pre {E : EV} {w w1 : WS} {a a1 : Int} {st : MS} {n n1 k : Nat} (F : Fr LC w w1) (h : GoT w a w1 a1 k) (h1 : CS E w1 a1 st n) (hn : k + n ≤ n1) : CS E w a st n1 := by
  obtain ⟨k1, w2, q1, q2, q3, q4⟩ := h1
  exact ⟨k + k1, w2, by omega, q2, F.tr q3, h.tr q4⟩
theorem CS.of {E : EV} {w w1 : WS} {a : Int} {st : MS} {k n : Nat} (F : Fr LC w w1) (h : GoT w a w1 (cm st.1) k) (h1 : RepC E st w1) (hn : k ≤ n) : CS E w a st n := ⟨k, w1, hn, h1, F, h⟩
theorem EC.get26 {E : EV} {w : WS} (hE : EOK E) (h : EC E w) {g : Int} (hg : 0 ≤ g ∧ g < eN E) : f_X1_get 26 g w = some (pk E g, w) := by
  have hN := hE.2.2.1
  have := f_get (i := 26) (n := 50) (w := w) (x := g) rfl (by omega) (by omega)
  rw [h.1] at this
  exact this
theorem EC.get28 {E : EV} {w : WS} (hE : EOK E) (h : EC E w) {g : Int} (hg : 0 ≤ g ∧ g < eN E) : f_X1_get 28 g w = some (pf E g, w) := by
  have hN := hE.2.2.1
  have := f_get (i := 28) (n := 50) (w := w) (x := g) rfl (by omega) (by omega)
  rw [h.2.1] at this
  exact this
theorem EC.get30 {E : EV} {w : WS} (hE : EOK E) (h : EC E w) {g : Int} (hg : 0 ≤ g ∧ g < eN E) : f_X1_get 30 g w = some (ps E g, w) := by
  have hN := hE.2.2.1
  have := f_get (i := 30) (n := 50) (w := w) (x := g) rfl (by omega) (by omega)
  rw [h.2.2.1] at this
  exact this
theorem BC.up {E : EV} {w : WS} {C : List Ch} {T : List Tk} {b : Int} {V : Nat → List Int} {s : Int} {k : Nat} (v : Int) (h : BC E w C T b V s) (hk : k = 13 ∨ k = 14 ∨ k = 15) : BC E (up w 39 k v) C T b V s := h.fld (Fr.rf.up (by simp)) (up_slot _ _ _ _ (by omega)) (up_slot _ _ _ _ (by omega)) (up_slot _ _ _ _ (by omega)) (up_slot _ _ _ _ (by omega)) (up_slot _ _ _ _ (by omega))
theorem chC.up {w : WS} {K : List Nd} {r : Int} (k : Nat) (v : Int) (h : chC w K r) : chC (up w 39 k v) K r := h.fld (Fr.rf.up (by simp))
theorem up40 (w : WS) (k : Nat) (v : Int) : (up w 39 k v) 40 3 = w 40 3 := by rw [up_row _ _ _ (by omega)]
theorem LCup {w w1 : WS} (F : Fr LC w w1) (k : Nat) (v : Int) : Fr LC w (up w1 39 k v) := F.up (by decide)
/-- a choice is left open, then it goes on -/
theorem c_leave {E : EV} {w : WS} {p c : Int} {K : List Nd} {C : List Ch} {T : List Tk} {b : Int} {V : Nat → List Int} {s : Int} (h : BC E w C T b V s) (hn : nbo b (w 40 3)) (hp : w 39 13 = p) (hc : w 39 14 = c) (hk : chC w K (w 39 15)) (hC : (C.length : Int) < 6000) : CS E w 7 (1, p, c, K, (p, c, K, T.length) :: C, T, b, V, s) 1 := by
  have h44 := h.2.2.2.2.1.1
  obtain ⟨q1, q2⟩ := h.cho hk
  rw [hp, hc] at q1
  have F := choW_fr w
  refine CS.of (F.sub (by decide)) (goes_7 (c_addChoice (by omega))) ⟨q1, ?_, ?_, ?_⟩ (Nat.le_refl _)
  · rw [F 40 (by simp)]
    exact hn
  · rw [F 39 (by simp)]
    exact hc
  · rw [F 39 (by simp)]
    exact q2
theorem c_balance {E : EV} (hE : EOK E) {w : WS} {p c : Int} {K : List Nd} {C : List Ch} {T : List Tk} {b : Int} {V : Nat → List Int} {s : Int} (h : BC E w C T b V s) (hn : nbo b (w 40 3)) (hp : w 39 13 = p) (hc : w 39 14 = c) (hk : chC w K (w 39 15)) (hC : (C.length : Int) < 6000) (hc0 : 0 ≤ c ∧ c ≤ (eS E).length) : CS E w 6 (aBal E p c K C T b V s) 2 := by
  have hl := hE.2.2.2.2.2.2.1
  have hb := c_bal hE h.1 61 FU 0 c (by unfold FU; omega) hc0.1 hc0.2 (by omega) (Int.le_refl _) hc0.1
  have hf : f_X2_balance w = f_X2_balance_7 FU 0 c w := by unfold f_X2_balance; rw [hc]
  unfold aBal
  rcases bal_rng (eS E) 61 0 c with g | g
  · rw [if_pos g]
    rw [if_pos g] at hb
    exact CS.of Fr.rf (goes_6 (hf.trans hb)) ⟨h, hn⟩ (by omega)
  · rw [if_neg (by omega)]
    rw [if_neg (by omega)] at hb
    refine CS.pre (LCup Fr.rf _ _) (goes_6 (hf.trans hb)) (c_leave (h.up _ (Or.inr (Or.inl rfl))) (by rw [up40]; exact hn) (by rw [up_slot _ _ _ _ (by omega)]; exact hp) (up_same _ _ _ _) (by rw [up_slot _ _ _ _ (by omega)]; exact hk.up _ _) hC) (Nat.le_refl _)
theorem c_begin {E : EV} (hE : EOK E) {w : WS} {g c : Int} {K : List Nd} {C : List Ch} {T : List Tk} {b : Int} {V : Nat → List Int} {s : Int} (hA : AOK E (0, g, c, K, C, T, b, V, s)) (hR : RepC E (0, g, c, K, C, T, b, V, s) w) : CS E w 4 (aBegin E g c K C T b V s) 3 := by
  obtain ⟨ha, hg1, hg2, hK, hKC, hs, hc, hgn, hdn⟩ := hA
  obtain ⟨h, hN, rg, rc, rk⟩ := hR
  have hp := hE.1 g hg1 hg2
  have hEN := hE.2.2.1
  have hl := hE.2.2.2.2.2.2.1
  have hb0 := ha.1
  have hb3 := ha.2.1
  have h12 := h.2.1
  have h40 := h.2.2.2.2.2.2
  unfold aBegin
  have base : f_X2_begin w = if wr b < wr 3000 then (ob (f_X1_get 26 g (up w 39 12 (b + 1))) fun r1 w1 => if 36 = wr r1 then (ob (f_X2_addNode w1) fun _ w2 => ob (f_X1_get 28 (w2 39 13) w2) fun r3 w3 => ob (f_X2_beginPart r3 w3) fun r4 w4 => some (r4, w4)) else if 38 = wr r1 then (ob (f_X2_addNode w1) fun _ w5 => ob (f_X1_get 28 (w5 39 13) w5) fun r6 w6 => ob (f_X2_beginPart r6 w6) fun r7 w7 => some (r7, w7)) else if 42 = wr r1 then some (7, w1) else if 46 = wr r1 then (ob (f_X2_addNode w1) fun _ w8 => ob (f_X1_get 28 (w8 39 13) w8) fun r9 w9 => ob (f_X2_beginPart r9 w9) fun r10 w10 => some (r10, w10)) else if 64 = wr r1 then (ob (f_X1_get 28 (w1 39 13) w1) fun r11 w11 => ob (f_X6_writeNumber 7 r11 (wr (w11 39 14)) w11) fun _ w12 => some (8, w12)) else if 102 = wr r1 then some (7, w1) else if 103 = wr r1 then some (7, w1) else if 120 = wr r1 then some (6, w1) else if 122 = wr r1 then some (2, w1) else if 124 = wr r1 then (ob (f_X2_addChoice w1) fun _ w13 => ob (f_X1_get 28 (w13 39 13) w13) fun r14 w14 => ob (f_X2_beginPart r14 w14) fun r15 w15 => some (r15, w15)) else some (5, w1)) else some (3, w) := by
    unfold f_X2_begin
    rw [h12, up_slot w 39 39 (b + 1) (by omega : (13 : Nat) ≠ 12), rg]
  by_cases hb : 3000 ≤ b
  · rw [if_pos hb]
    rw [if_neg (show ¬ wr b < wr 3000 from (by first | (simp (disch := omega) only [wr_eq] <;> omega) | omega))] at base
    exact CS.of Fr.rf (goes_4 base) ⟨h.1, h.2.2.2.1⟩ (by omega)
  rw [if_neg hb]
  rw [if_pos (show wr b < wr 3000 from (by first | (simp (disch := omega) only [wr_eq] <;> omega) | omega))] at base
  have h1 : BC E (up w 39 12 (b + 1)) C T (b + 1) V s := by
    obtain ⟨g1, g2, g3, g4, ⟨g5, g6⟩, g7, g8⟩ := h
    have e : ∀ c, c ≠ 39 → (up w 39 12 (b + 1)) c = w c := fun c hc => up_row _ _ _ hc
    refine ⟨g1.fr (LCup Fr.rf _ _) (up_slot _ _ _ _ (by omega)) (up_slot _ _ _ _ (by omega)) (up_slot _ _ _ _ (by omega)), up_same _ _ _ _, (up_slot _ _ _ _ (by omega)).trans g3, g4.fr (e 8 (by omega)) (e 9 (by omega)), ⟨by rw [e 44 (by omega)]; exact g5, ?_⟩, g7.fr (by rw [e 50 (by omega)]) (e 51 (by omega)) (e 52 (by omega)) (e 53 (by omega)), by rw [e 40 (by omega)]; exact g8⟩
    refine g6.mono (NA.same (by rw [e 40 (by omega)]) (e 41 (by omega)) (e 42 (by omega)) (e 43 (by omega))) (fun k _ => ?_)
    rw [e 45 (by omega), e 46 (by omega), e 47 (by omega), e 49 (by omega)]
    exact ⟨rfl, rfl, rfl, rfl⟩
  have F1 : Fr LC w (up w 39 12 (b + 1)) := LCup Fr.rf _ _
  have rg1 : (up w 39 12 (b + 1)) 39 13 = g := (up_slot _ _ _ _ (by omega)).trans rg
  have rc1 : (up w 39 12 (b + 1)) 39 14 = c := (up_slot _ _ _ _ (by omega)).trans rc
  have rk1 : chC (up w 39 12 (b + 1)) K ((up w 39 12 (b + 1)) 39 15) := by
    rw [up_slot w 39 39 (b + 1) (by omega : (15 : Nat) ≠ 12)]
    exact rk.up _ _
  have n1 : (up w 39 12 (b + 1)) 40 3 = w 40 3 := up40 _ _ _
  generalize up w 39 12 (b + 1) = w1 at base h1 F1 rg1 rc1 rk1 n1
  rw [h1.1.get26 hE ⟨hg1, hg2⟩, ob_some] at base
  have hno : nbo (b + 1) (w1 40 3) := by rw [n1]; exact Or.inl (by omega)
  have h44 := h1.2.2.2.2.1.1
  have nodeS : f_X2_begin w = (ob (f_X2_addNode w1) fun _ w2 => ob (f_X1_get 28 (w2 39 13) w2) fun r3 w3 => ob (f_X2_beginPart r3 w3) fun r4 w4 => some (r4, w4)) → 0 ≤ pf E g → pf E g < g → CS E w 4 (0, pf E g, c, (g, c) :: K, C, T, b + 1, V, s) 3 := by
    intro hf hx1 hx2
    have hN2 := h1.node
    rw [c_addNode (by omega), ob_some, nodeW_39 w1 (by omega), rg1, hN2.1.get28 hE ⟨hg1, hg2⟩, ob_some] at hf
    unfold f_X2_beginPart at hf
    rw [ob_some] at hf
    refine CS.of (LCup (F1.tr ((nodeW_fr w1).sub (by decide))) 13 (pf E g)) (goes_4 hf) ⟨hN2.up _ (Or.inl rfl), ?_, up_same _ _ _ _, ?_, ?_⟩ (by omega)
    · rw [up40, nodeW_n, n1]
      omega
    · rw [up_slot _ _ _ _ (by omega), nodeW_39 w1 (by omega)]
      exact rc1
    · rw [up_slot _ _ _ _ (by omega), nodeW_15]
      have := nodeW_ch rk1 (by omega)
      rw [rg1, rc1] at this
      exact this.up _ _
  unfold PK1 at hp
  by_cases k1 : pk E g = 38 ∨ pk E g = 36 ∨ pk E g = 46
  · rw [if_pos k1]
    rcases k1 with e | e | e
    · rw [e] at base
      exact nodeS base (by omega) (by omega)
    · rw [e] at base
      exact nodeS base (by omega) (by omega)
    · rw [e] at base
      exact nodeS base (by omega) (by omega)
  rw [if_neg k1]
  by_cases k2 : pk E g = 124
  · rw [if_pos k2]
    rw [k2] at base
    obtain ⟨q1, q2⟩ := h1.cho rk1
    rw [rg1, rc1] at q1
    have F := choW_fr w1
    have hf : f_X2_begin w = some (4, up (choW w1) 39 13 (pf E g)) := by
      refine base.trans ?_
      show (ob (f_X2_addChoice w1) fun _ w13 => ob (f_X1_get 28 (w13 39 13) w13) fun r14 w14 => ob (f_X2_beginPart r14 w14) fun r15 w15 => some (r15, w15)) = _
      rw [c_addChoice (by omega), ob_some, F 39 (by simp), rg1, q1.1.get28 hE ⟨hg1, hg2⟩, ob_some]
      rfl
    refine CS.of (LCup (F1.tr (F.sub (by decide))) 13 (pf E g)) (goes_4 hf) ⟨q1.up _ (Or.inl rfl), ?_, up_same _ _ _ _, ?_, ?_⟩ (by omega)
    · rw [up40, F 40 (by simp), n1]
      omega
    · rw [up_slot _ _ _ _ (by omega), F 39 (by simp)]
      exact rc1
    · rw [up_slot _ _ _ _ (by omega), F 39 (by simp)]
      exact q2.up _ _
  rw [if_neg k2]
  by_cases k3 : pk E g = 103 ∨ pk E g = 42 ∨ pk E g = 102
  · rw [if_pos k3]
    have hf : f_X2_begin w = some (7, w1) := by
      rcases k3 with e | e | e
      · rw [e] at base
        exact base
      · rw [e] at base
        exact base
      · rw [e] at base
        exact base
    exact CS.pre F1 (goes_4 hf) (c_leave h1 hno rg1 rc1 rk1 (by omega)) (by omega)
  rw [if_neg k3]
  by_cases k4 : pk E g = 120
  · rw [if_pos k4]
    rw [k4] at base
    exact CS.pre F1 (goes_4 base) (c_balance hE h1 hno rg1 rc1 rk1 (by omega) (by omega)) (by omega)
  rw [if_neg k4]
  by_cases k5 : pk E g = 122
  · rw [if_pos k5]
    rw [k5] at base
    exact CS.of F1 (goes_4 base) ⟨h1.1, h1.2.1, h1.2.2.2.1⟩ (by omega)
  rw [if_neg k5]
  by_cases k6 : pk E g = 64
  · rw [if_pos k6]
    rw [k6] at base
    have base : f_X2_begin w = (ob (f_X1_get 28 (w1 39 13) w1) fun r11 w11 => ob (f_X6_writeNumber 7 r11 (wr (w11 39 14)) w11) fun _ w12 => some (8, w12)) := base
    rw [rg1, h1.1.get28 hE ⟨hg1, hg2⟩, ob_some, rc1, wr_eq (by omega)] at base
    obtain ⟨v, w2, q0, -, q1, q2, q3⟩ := f_writeNumber RI_7 h1.2.2.2.1.2 (a := pf E g) (x := c) (by omega) (by omega)
    rw [q0, ob_some] at base
    have F2 : Fr LC w1 w2 := q1.sub (by decide)
    obtain ⟨g1, g2, g3, g4, ⟨g5, g6⟩, g7, g8⟩ := h1
    have e39 := q1 39 (by simp)
    have hNA : NA w1 w2 := NA.same (by rw [q1 40 (by simp)]) (q1 41 (by simp)) (q1 42 (by simp)) (q1 43 (by simp))
    refine CS.of (F1.tr F2) (goes_4 base) ⟨⟨g1.fr F2 (by rw [e39]) (by rw [e39]) (by rw [e39]), by rw [e39]; exact g2, by rw [e39]; exact g3, ⟨by rw [q3, g4.1], q2⟩, ⟨by rw [q1 44 (by simp)]; exact g5, g6.mono hNA (fun k _ => by rw [q1 45 (by simp), q1 46 (by simp), q1 47 (by simp), q1 49 (by simp)]; exact ⟨rfl, rfl, rfl, rfl⟩)⟩, g7.fr (by rw [q1 50 (by simp)]) (q1 51 (by simp)) (q1 52 (by simp)) (q1 53 (by simp)), by rw [q1 40 (by simp)]; exact g8⟩, by rw [q1 40 (by simp)]; exact hno, by rw [e39]; exact rc1, by rw [e39]; exact rk1.mono hNA⟩ (by omega)
  rw [if_neg k6]
  have ks : pk E g = 108 ∨ pk E g = 110 ∨ pk E g = 111 ∨ pk E g = 115 ∨ pk E g = 107 ∨ pk E g = 118 ∨ pk E g = 35 ∨ pk E g = 116 ∨ pk E g = 114 ∨ pk E g = 112 ∨ pk E g = 113 ∨ pk E g = 109 ∨ pk E g = 105 := by omega
  have hf : f_X2_begin w = some (5, w1) := by
    rcases ks with e | e | e | e | e | e | e | e | e | e | e | e | e
    all_goals
      rw [e] at base
      exact base
  have hsg := c_single hE h1.1 h1.2.2.2.1 ha.2.2.2.2.1 rg1 rc1 ⟨hg1, hg2⟩ (by omega) ks
  have hr := single_rng (k := pk E g) (x := pf E g) (c := c) (T := eT E (pf E g).toNat) (W := V (pf E g).toNat) (S := eS E) (hE.2.2.2.1 _) (ha.2.2.2.2.1 _).1 (by omega) (by omega) hc
  generalize single (pk E g) (pf E g) (eT E (pf E g).toNat) (V (pf E g).toNat) (eS E) c = e at *
  refine CS.pre F1 (goes_4 hf) ?_ (n := 1) (by omega)
  rcases hr with hr | hr
  · rw [if_pos hr]
    rw [hr] at hsg
    have hgo : f_X2_goTo (-1) w1 = some (9, w1) := by unfold f_X2_goTo; exact if_pos rfl
    exact CS.of Fr.rf (goes_5 hsg hgo) ⟨h1, hno⟩ (by omega)
  · rw [if_neg (by omega)]
    have hgo : f_X2_goTo e w1 = some (8, up w1 39 14 e) := by unfold f_X2_goTo; exact if_neg (by first | (simp (disch := omega) only [wr_eq] <;> omega) | omega)
    refine CS.of (LCup Fr.rf _ _) (goes_5 hsg hgo) ⟨h1.up _ (Or.inr (Or.inl rfl)), by rw [up40]; exact hno, up_same _ _ _ _, ?_⟩ (by omega)
    rw [up_slot _ _ _ _ (by omega)]
    exact rk1.up _ _
