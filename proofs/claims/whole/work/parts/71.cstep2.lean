theorem c_capture {E : EV} {w : WS} (h : EC E w) {V : Nat → List Int} (hV : VC w V) (hl : (eS E).length ≤ 60) {a f e : Int} (ha : 0 ≤ a ∧ a < 26) (hf : 0 ≤ f ∧ f ≤ e ∧ e ≤ (eS E).length) : Ev (f_X2_capture a f e w) (fun v w' => v = 0 ∧ Fr [8, 9] w w' ∧ VC w' (vs V a.toNat (slice (eS E) f e))) := by
  obtain ⟨g1, g2, g3, g4, g5, g6, g7, g8, g9, g10⟩ := h
  unfold f_X2_capture
  refine Ev.obe (f_clear RI_7 (a := a) (by omega)) ?_
  have ho1 := RO_clear a.toNat hV.2
  have hc1 := rC_clear (i := 7) (wd := 60) (w := w) a.toNat
  have F1 : Fr [8, 9] w (up w (7 + 2) a.toNat 0) := Fr.rf.up (by simp)
  have hz : (up w (7 + 2) a.toNat 0) (7 + 2) a.toNat = 0 := up_same _ _ _ _
  have h15 : (up w (7 + 2) a.toNat 0) 15 = w 15 := F1 15 (by simp)
  have h14 : (up w (7 + 2) a.toNat 0) 14 = w 14 := F1 14 (by simp)
  generalize up w (7 + 2) a.toNat 0 = w1 at ho1 hc1 F1 hz h15 h14 ⊢
  have ls := ln (z := 15) rfl g7 0
  rw [g6] at ls
  have hs13 : rC w1 13 60 0 = eS E := (congrFun (rC_fr h14 h15) 0).trans g6
  have h150 : w1 (13 + 2) (0 : Int).toNat = w 15 0 := congrFun h15 0
  refine Ev.bd (f_append_yes RI_7 ho1 RI_13 (RO_fr h15 g7) (a := a) (b := 0) (f := f) (e := e) (by omega) (by omega) ⟨hf.1, hf.2.1, by rw [h150]; omega⟩ (Or.inl (by omega)) (by rw [hz]; omega)) ?_
  rintro v w2 ⟨-, q1, q2, q3⟩
  refine Ev.ret ⟨rfl, F1.tr q1, ?_, q2⟩
  rw [q3, hc1, vs_same, vs_vs, List.nil_append, hV.1, Int.toNat_zero, hs13]
  rfl
theorem BC.vars {E : EV} {w w2 : WS} {C : List Ch} {T : List Tk} {b : Int} {V V' : Nat → List Int} {s : Int} (h : BC E w C T b V s) (F : Fr [8, 9] w w2) (hv : VC w2 V') : BC E w2 C T b V' s ∧ NA w w2 := by
  obtain ⟨g1, g2, g3, g4, ⟨g5, g6⟩, g7, g8⟩ := h
  have e39 := F 39 (by simp)
  have hNA : NA w w2 := NA.same (by rw [F 40 (by simp)]) (F 41 (by simp)) (F 42 (by simp)) (F 43 (by simp))
  exact ⟨⟨g1.fr (F.sub (by decide)) (by rw [e39]) (by rw [e39]) (by rw [e39]), by rw [e39]; exact g2, by rw [e39]; exact g3, hv, ⟨by rw [F 44 (by simp)]; exact g5, g6.mono hNA (fun k _ => by rw [F 45 (by simp), F 46 (by simp), F 47 (by simp), F 49 (by simp)]; exact ⟨rfl, rfl, rfl, rfl⟩)⟩, g7.fr (by rw [F 50 (by simp)]) (F 51 (by simp)) (F 52 (by simp)) (F 53 (by simp)), by rw [F 40 (by simp)]; exact g8⟩, hNA⟩
theorem BC.take {E : EV} {w : WS} {C : List Ch} {T : List Tk} {b : Int} {V : Nat → List Int} {s : Int} (h : BC E w C T b V s) {x : Tk} : BC E (psh w 50 x.1 x.2.1 x.2.2) C (T ++ [x]) b V s ∧ NA w (psh w 50 x.1 x.2.1 x.2.2) := by
  obtain ⟨g1, g2, g3, g4, ⟨g5, g6⟩, g7, g8⟩ := h
  have F := psh_fr w 50 x.1 x.2.1 x.2.2
  have e39 := F 39 (by simp)
  have hNA : NA w (psh w 50 x.1 x.2.1 x.2.2) := NA.same (by rw [F 40 (by simp)]) (F 41 (by simp)) (F 42 (by simp)) (F 43 (by simp))
  refine ⟨⟨g1.fr (F.sub (by decide)) (by rw [e39]) (by rw [e39]) (by rw [e39]), by rw [e39]; exact g2, by rw [e39]; exact g3, g4.fr (F 8 (by simp)) (F 9 (by simp)), ⟨by rw [F 44 (by simp)]; exact g5, g6.mono hNA (fun k _ => by rw [F 45 (by simp), F 46 (by simp), F 47 (by simp), F 49 (by simp)]; exact ⟨rfl, rfl, rfl, rfl⟩)⟩, ?_, by rw [F 40 (by simp)]; exact g8⟩, hNA⟩
  obtain ⟨t1, t2⟩ := g7
  refine ⟨by rw [psh_count, List.length_append, t1]; rfl, fun k hk y hy => ?_⟩
  rw [List.length_append, List.length_singleton] at hk
  by_cases e : k < T.length
  · have o := psh_old w 50 x.1 x.2.1 x.2.2 (k := k) (by omega)
    rw [List.getElem?_append_left e] at hy
    have := t2 k e y hy
    rw [o.1, o.2.1, o.2.2]
    exact this
  · have ek : k = T.length := by omega
    subst ek
    rw [List.getElem?_append_right (Nat.le_refl _), Nat.sub_self] at hy
    have hy : x = y := Option.some.inj hy
    subst hy
    have nw := psh_new w 50 x.1 x.2.1 x.2.2
    have et : (w 50 3).toNat = T.length := by omega
    rw [et] at nw
    exact nw
theorem c_goOn {E : EV} (hE : EOK E) {w : WS} {g c : Int} {K : List Nd} {C : List Ch} {T : List Tk} {b : Int} {V : Nat → List Int} {s : Int} (hA : AOK E (1, g, c, K, C, T, b, V, s)) (hR : RepC E (1, g, c, K, C, T, b, V, s) w) : CS E w 8 (aGoOn E g c K C T b V s) 3 := by
  obtain ⟨ha, hb, hK, hKC, hs, hc, hgn, hdn⟩ := hA
  obtain ⟨h, hN, rc, rk⟩ := hR
  have hEN := hE.2.2.1
  have hl := hE.2.2.2.2.2.2.1
  have hb0 := ha.1
  have hb3 := ha.2.1
  have h40 := h.2.2.2.2.2.2
  have hn40 : w 40 3 ≤ 6000 := by
    rcases hN with q | q <;> omega
  cases K with
  | nil =>
    have rk : w 39 15 = -1 := rk
    have hf : f_X2_goOn w = some (1, w) := by unfold f_X2_goOn; rw [rk]; rfl
    exact CS.of Fr.rf (goes_8 hf) ⟨h, hN, rc, rk⟩ (by omega)
  | cons x K =>
    obtain ⟨p, f⟩ := x
    obtain ⟨q1, q2, q3, q4⟩ := hK
    have hf0 := hKC (p, f) List.mem_cons_self
    have hf1 : 0 ≤ f := hf0.1
    have hf2 : f ≤ c := hf0.2
    obtain ⟨r1, r2, r3, r4, r5⟩ := rk
    have hgn : (C.length : Int) + ((gn E K + (if pk E p = 103 then 1 else 0) : Nat) : Int) ≤ b := hgn
    have hdn : (T.length : Int) + ((dn E K + (if pk E p = 46 then 1 else 0) : Nat) : Int) ≤ b := hdn
    have hp := hE.1 p (by omega) q2
    unfold PK1 at hp
    unfold nodeK at q3
    generalize hr : w 39 15 = r at r1 r2 r3 r4 r5
    have h4 : BC E (up (up w 39 13 p) 39 15 (w 43 r.toNat)) C T b V s := (h.up p (Or.inl rfl)).up _ (Or.inr (Or.inr rfl))
    have F4 : Fr LC w (up (up w 39 13 p) 39 15 (w 43 r.toNat)) := LCup (LCup Fr.rf _ _) _ _
    have n4 : (up (up w 39 13 p) 39 15 (w 43 r.toNat)) 40 3 = w 40 3 := by rw [up40, up40]
    have e13 : (up (up w 39 13 p) 39 15 (w 43 r.toNat)) 39 13 = p := by rw [up_slot _ _ _ _ (by omega), up_same]
    have e14 : (up (up w 39 13 p) 39 15 (w 43 r.toNat)) 39 14 = c := by rw [up_slot _ _ _ _ (by omega), up_slot _ _ _ _ (by omega), rc]
    have e15 : (up (up w 39 13 p) 39 15 (w 43 r.toNat)) 39 15 = w 43 r.toNat := up_same _ _ _ _
    have k4 : chC (up (up w 39 13 p) 39 15 (w 43 r.toNat)) K ((up (up w 39 13 p) 39 15 (w 43 r.toNat)) 39 15) := by
      rw [e15]
      exact (r5.up _ _).up _ _
    have base : f_X2_goOn w = ob (f_X1_get 26 p (up (up w 39 13 p) 39 15 (w 43 r.toNat))) (fun r4 w4 => if 36 = wr r4 then (ob (f_X1_get 30 (w4 39 13) w4) fun r5 w5 => ob (f_X2_capture r5 f (w5 39 14) w5) fun _ w6 => some (8, w6)) else if 38 = wr r4 then (ob (f_X1_get 30 (w4 39 13) w4) fun r7 w7 => ob (f_X2_beginPart r7 w7) fun r8 w8 => some (r8, w8)) else if 46 = wr r4 then (ob (f_X1_get 30 (w4 39 13) w4) fun r9 w9 => ob (f_X3_push 50 r9 f (w9 39 14) w9) fun _ w10 => some (8, w10)) else if wr (w4 39 14) = wr f then some (9, w4) else some (7, w4)) := by
      unfold f_X2_goOn
      rw [hr]
      refine (if_neg (by first | (simp (disch := omega) only [wr_eq] <;> omega) | omega)).trans ?_
      have s1 : f_X3_first 40 r w = some (p, w) := by
        have := f_first (i := 40) (n := 6000) (w := w) (x := r) rfl (by omega) (by omega)
        rw [r3] at this
        exact this
      have u15 : (up w 39 13 p) 39 15 = r := by rw [up_slot _ _ _ _ (by omega), hr]
      have s2 : f_X3_second 40 r (up w 39 13 p) = some (f, up w 39 13 p) := by
        have := f_second (i := 40) (n := 6000) (w := up w 39 13 p) (x := r) rfl (by omega) (by omega)
        rw [up_row w 13 p (by omega : (40 + 2 : Nat) ≠ 39), r4] at this
        exact this
      have s3 : f_X3_third 40 r (up w 39 13 p) = some (w 43 r.toNat, up w 39 13 p) := by
        have := f_third (i := 40) (n := 6000) (w := up w 39 13 p) (x := r) rfl (by omega) (by omega)
        rw [up_row w 13 p (by omega : (40 + 3 : Nat) ≠ 39)] at this
        exact this
      rw [s1, ob_some, u15, s2, ob_some, u15, s3, ob_some, e13]
    generalize up (up w 39 13 p) 39 15 (w 43 r.toNat) = w4 at h4 F4 n4 e13 e14 e15 k4 base
    rw [h4.1.get26 hE ⟨by omega, q2⟩, ob_some] at base
    have hno : nbo b (w4 40 3) := by rw [n4]; exact hN
    show CS E w 8 (if pk E p = 38 then _ else _) 3
    by_cases k1 : pk E p = 38
    · rw [if_pos k1]
      rw [k1] at base
      have base : f_X2_goOn w = (ob (f_X1_get 30 (w4 39 13) w4) fun r7 w7 => ob (f_X2_beginPart r7 w7) fun r8 w8 => some (r8, w8)) := base
      rw [e13, h4.1.get30 hE ⟨by omega, q2⟩, ob_some] at base
      have base : f_X2_goOn w = some (4, up w4 39 13 (ps E p)) := base
      refine CS.of (LCup F4 _ _) (goes_8 base) ⟨h4.up _ (Or.inl rfl), ?_, up_same _ _ _ _, ?_, ?_⟩ (by omega)
      · rw [up40]
        rcases hno with q | q <;> omega
      · rw [up_slot _ _ _ _ (by omega)]
        exact e14
      · rw [up_slot _ _ _ _ (by omega)]
        exact k4.up _ _
    rw [if_neg k1]
    by_cases k2 : pk E p = 36
    · rw [if_pos k2]
      rw [k2] at base
      have base : f_X2_goOn w = (ob (f_X1_get 30 (w4 39 13) w4) fun r5 w5 => ob (f_X2_capture r5 f (w5 39 14) w5) fun _ w6 => some (8, w6)) := base
      rw [e13, h4.1.get30 hE ⟨by omega, q2⟩, ob_some, e14] at base
      obtain ⟨v, w5, c0, -, c1, c2⟩ := c_capture h4.1 h4.2.2.2.1 hl (a := ps E p) (f := f) (e := c) (by omega) (by omega)
      rw [c0, ob_some] at base
      obtain ⟨b5, na5⟩ := h4.vars c1 c2
      refine CS.of (F4.tr (c1.sub (by decide))) (goes_8 base) ⟨b5, ?_, ?_, ?_⟩ (by omega)
      · rw [c1 40 (by simp)]
        exact hno
      · rw [c1 39 (by simp)]
        exact e14
      · rw [c1 39 (by simp)]
        exact k4.mono na5
    rw [if_neg k2]
    by_cases k3 : pk E p = 46
    · rw [if_pos k3]
      rw [if_pos k3] at hdn
      rw [k3] at base
      have base : f_X2_goOn w = (ob (f_X1_get 30 (w4 39 13) w4) fun r9 w9 => ob (f_X3_push 50 r9 f (w9 39 14) w9) fun _ w10 => some (8, w10)) := base
      have h50 := h4.2.2.2.2.2.1.1
      rw [e13, h4.1.get30 hE ⟨by omega, q2⟩, ob_some, e14, f_push (i := 50) (n := 3000) rfl rfl rfl (by omega) (by omega), ob_some] at base
      obtain ⟨b5, na5⟩ := h4.take (x := (ps E p, f, c))
      have F5 := psh_fr w4 50 (ps E p) f c
      refine CS.of (F4.tr (F5.sub (by decide))) (goes_8 base) ⟨b5, ?_, ?_, ?_⟩ (by omega)
      · rw [F5 40 (by simp)]
        exact hno
      · rw [F5 39 (by simp)]
        exact e14
      · rw [F5 39 (by simp)]
        exact k4.mono na5
    rw [if_neg k3]
    have k5 : pk E p = 103 := by omega
    rw [k5] at base
    have base : f_X2_goOn w = if wr (w4 39 14) = wr f then some (9, w4) else some (7, w4) := base
    rw [e14] at base
    by_cases k4' : c = f
    · rw [if_pos k4']
      rw [if_pos (show wr c = wr f from by rw [k4'])] at base
      exact CS.of F4 (goes_8 base) ⟨h4, hno⟩ (by omega)
    · rw [if_neg k4']
      rw [if_neg (show ¬ wr c = wr f from (by first | (simp (disch := omega) only [wr_eq] <;> omega) | omega))] at base
      exact CS.pre F4 (goes_8 base) (c_leave h4 hno e13 e14 k4 (by omega)) (by omega)
/-- the choice that was left open last is taken -/
theorem bc_pop {E : EV} {w : WS} {p c : Int} {K : List Nd} {n : Nat} {C : List Ch} {T : List Tk} {b : Int} {V : Nat → List Int} {s : Int} (h : BC E w ((p, c, K, n) :: C) T b V s) (hn : n ≤ T.length) (r : Int) (hr : w 47 C.length = r) : BC E (up (up (up (up (up w 44 3 (w 44 3 - 1)) 39 13 p) 39 14 c) 39 15 r) 50 3 n) C (T.take n) b V s ∧ chC (up (up (up (up (up w 44 3 (w 44 3 - 1)) 39 13 p) 39 14 c) 39 15 r) 50 3 n) K r ∧ Fr [39, 44, 50] w (up (up (up (up (up w 44 3 (w 44 3 - 1)) 39 13 p) 39 14 c) 39 15 r) 50 3 n) := by
  obtain ⟨g1, g2, g3, g4, ⟨g5, g6⟩, g7, g8⟩ := h
  obtain ⟨c1, c2, c3, c4, c5⟩ := g6
  have F : Fr [39, 44, 50] w (up (up (up (up (up w 44 3 (w 44 3 - 1)) 39 13 p) 39 14 c) 39 15 r) 50 3 n) := ((((Fr.rf.up (by simp)).up (by simp)).up (by simp)).up (by simp)).up (by simp)
  have e39 : ∀ k, k ≠ 13 → k ≠ 14 → k ≠ 15 → (up (up (up (up (up w 44 3 (w 44 3 - 1)) 39 13 p) 39 14 c) 39 15 r) 50 3 n) 39 k = w 39 k := fun k h1 h2 h3 => by
    rw [up_row _ _ _ (by omega), up_slot _ _ _ _ h3, up_slot _ _ _ _ h2, up_slot _ _ _ _ h1, up_row _ _ _ (by omega)]
  have e44 : (up (up (up (up (up w 44 3 (w 44 3 - 1)) 39 13 p) 39 14 c) 39 15 r) 50 3 n) 44 3 = w 44 3 - 1 := by
    rw [up_row _ _ _ (by omega), up_row _ _ _ (by omega), up_row _ _ _ (by omega), up_row _ _ _ (by omega), up_same]
  have e50 : (up (up (up (up (up w 44 3 (w 44 3 - 1)) 39 13 p) 39 14 c) 39 15 r) 50 3 n) 50 3 = n := up_same _ _ _ _
  have hNA : NA w (up (up (up (up (up w 44 3 (w 44 3 - 1)) 39 13 p) 39 14 c) 39 15 r) 50 3 n) := NA.same (by rw [F 40 (by simp)]) (F 41 (by simp)) (F 42 (by simp)) (F 43 (by simp))
  rw [List.length_cons] at g5
  generalize up (up (up (up (up w 44 3 (w 44 3 - 1)) 39 13 p) 39 14 c) 39 15 r) 50 3 n = w5 at F e39 e44 e50 hNA ⊢
  refine ⟨⟨g1.fr (F.sub (by decide)) (e39 8 (by omega) (by omega) (by omega)) (e39 9 (by omega) (by omega) (by omega)) (e39 10 (by omega) (by omega) (by omega)), (e39 12 (by omega) (by omega) (by omega)).trans g2, (e39 11 (by omega) (by omega) (by omega)).trans g3, g4.fr (F 8 (by simp)) (F 9 (by simp)), ⟨by rw [e44, g5]; omega, c5.mono hNA (fun k _ => by rw [F 45 (by simp), F 46 (by simp), F 47 (by simp), F 49 (by simp)]; exact ⟨rfl, rfl, rfl, rfl⟩)⟩, ?_, by rw [F 40 (by simp)]; exact g8⟩, by rw [← hr]; exact c3.mono hNA, F⟩
  refine ⟨by rw [e50, List.length_take, Nat.min_eq_left hn], fun k hk x hx => ?_⟩
  rw [List.length_take, Nat.min_eq_left hn] at hk
  rw [F 51 (by simp), F 52 (by simp), F 53 (by simp)]
  rw [List.getElem?_take_of_lt hk] at hx
  exact g7.2 k (by omega) x hx
theorem c_back {E : EV} (hE : EOK E) {w : WS} {g c : Int} {K : List Nd} {C : List Ch} {T : List Tk} {b : Int} {V : Nat → List Int} {s : Int} (hA : AOK E (2, g, c, K, C, T, b, V, s)) (hR : RepC E (2, g, c, K, C, T, b, V, s) w) : CS E w 9 (aBack E g c K C T b V s) 3 := by
  obtain ⟨ha, hb⟩ := hA
  obtain ⟨h, hN⟩ := hR
  cases C with
  | nil => exact CS.of Fr.rf (GoT.rf w 9) ⟨h.1, h.2.1, h.2.2.1, h.2.2.2.1, h.2.2.2.2.1.1, h.2.2.2.2.2.2, hN⟩ (by omega)
  | cons x C =>
    obtain ⟨p, c', K', n⟩ := x
    obtain ⟨g1, g2, g3, g4, g5, g6, g7, g8⟩ := ha
    obtain ⟨r1, r2, r3, r4, r5, r6, r7, r8, r9, r10, r11⟩ := g6
    have hl := hE.2.2.2.2.2.2.1
    have hb1 : 1 ≤ b := by
      by_cases q : b = 0
      · cases hb q
      · omega
    have hp := hE.1 p r1 r2
    unfold PK1 at hp
    unfold choiK at r3
    obtain ⟨c1, c2, c3, c4, c5⟩ := h.2.2.2.2.1.2
    have h44 := h.2.2.2.2.1.1
    rw [List.length_cons] at h44
    obtain ⟨h5, k5, F5⟩ := bc_pop h r8 (w 47 C.length) rfl
    have e13 : (up (up (up (up (up w 44 3 (w 44 3 - 1)) 39 13 p) 39 14 c') 39 15 (w 47 C.length)) 50 3 n) 39 13 = p := by
      rw [up_row _ _ _ (by omega), up_slot _ _ _ _ (by omega), up_slot _ _ _ _ (by omega), up_same]
    have e14 : (up (up (up (up (up w 44 3 (w 44 3 - 1)) 39 13 p) 39 14 c') 39 15 (w 47 C.length)) 50 3 n) 39 14 = c' := by
      rw [up_row _ _ _ (by omega), up_slot _ _ _ _ (by omega), up_same]
    have e15 : (up (up (up (up (up w 44 3 (w 44 3 - 1)) 39 13 p) 39 14 c') 39 15 (w 47 C.length)) 50 3 n) 39 15 = w 47 C.length := by
      rw [up_row _ _ _ (by omega), up_same]
    have base : f_X2_goBack w = ob (f_X1_get 26 p (up (up (up (up (up w 44 3 (w 44 3 - 1)) 39 13 p) 39 14 c') 39 15 (w 47 C.length)) 50 3 n)) (fun r5 w5 => if 42 = wr r5 then (if wr ((up w5 39 14 ((w5 39 14) + 1)) 39 10) < wr ((up w5 39 14 ((w5 39 14) + 1)) 39 14) then some (9, (up w5 39 14 ((w5 39 14) + 1))) else some (7, (up w5 39 14 ((w5 39 14) + 1)))) else if 103 = wr r5 then (ob (f_X2_addNode w5) fun _ w6 => ob (f_X1_get 28 (w6 39 13) w6) fun r7 w7 => ob (f_X2_beginPart r7 w7) fun r8 w8 => some (r8, w8)) else if 120 = wr r5 then some (6, w5) else if 124 = wr r5 then (ob (f_X1_get 30 (w5 39 13) w5) fun r9 w9 => ob (f_X2_beginPart r9 w9) fun r10 w10 => some (r10, w10)) else some (2, w5)) := by
      unfold f_X2_goBack
      refine (if_pos (by first | (simp (disch := omega) only [wr_eq] <;> omega) | omega)).trans ?_
      have u1 : (up w 44 3 (w 44 3 - 1)) 44 3 = (C.length : Int) := by rw [up_same]; omega
      have s1 : f_X3_first 44 (C.length : Int) (up w 44 3 (w 44 3 - 1)) = some (p, up w 44 3 (w 44 3 - 1)) := by
        have := f_first (i := 44) (n := 6000) (w := up w 44 3 (w 44 3 - 1)) (x := C.length) rfl (by omega) (by omega)
        rw [up_row w 3 _ (by omega : (44 + 1 : Nat) ≠ 44), Int.toNat_natCast] at this
        rw [c1] at this
        exact this
      rw [u1, s1, ob_some]
      have u2 : (up (up w 44 3 (w 44 3 - 1)) 39 13 p) 44 3 = (C.length : Int) := by rw [up_row _ _ _ (by omega), u1]
      have s2 : f_X3_second 44 (C.length : Int) (up (up w 44 3 (w 44 3 - 1)) 39 13 p) = some (c', up (up w 44 3 (w 44 3 - 1)) 39 13 p) := by
        have := f_second (i := 44) (n := 6000) (w := up (up w 44 3 (w 44 3 - 1)) 39 13 p) (x := C.length) rfl (by omega) (by omega)
        rw [up_row _ 13 _ (by omega : (44 + 2 : Nat) ≠ 39), up_row w 3 _ (by omega : (44 + 2 : Nat) ≠ 44), Int.toNat_natCast] at this
        rw [c2] at this
        exact this
      rw [u2, s2, ob_some]
      have u3 : (up (up (up w 44 3 (w 44 3 - 1)) 39 13 p) 39 14 c') 44 3 = (C.length : Int) := by rw [up_row _ _ _ (by omega), u2]
      have s3 : f_X3_third 44 (C.length : Int) (up (up (up w 44 3 (w 44 3 - 1)) 39 13 p) 39 14 c') = some (w 47 C.length, up (up (up w 44 3 (w 44 3 - 1)) 39 13 p) 39 14 c') := by
        have := f_third (i := 44) (n := 6000) (w := up (up (up w 44 3 (w 44 3 - 1)) 39 13 p) 39 14 c') (x := C.length) rfl (by omega) (by omega)
        rw [up_row _ 14 _ (by omega : (44 + 3 : Nat) ≠ 39), up_row _ 13 _ (by omega : (44 + 3 : Nat) ≠ 39), up_row w 3 _ (by omega : (44 + 3 : Nat) ≠ 44), Int.toNat_natCast] at this
        exact this
      rw [u3, s3, ob_some]
      have u4 : (up (up (up (up w 44 3 (w 44 3 - 1)) 39 13 p) 39 14 c') 39 15 (w 47 C.length)) 44 3 = (C.length : Int) := by rw [up_row _ _ _ (by omega), u3]
      have s4 : f_X1_get 48 (C.length : Int) (up (up (up (up w 44 3 (w 44 3 - 1)) 39 13 p) 39 14 c') 39 15 (w 47 C.length)) = some ((n : Int), up (up (up (up w 44 3 (w 44 3 - 1)) 39 13 p) 39 14 c') 39 15 (w 47 C.length)) := by
        have := f_get (i := 48) (n := 6000) (w := up (up (up (up w 44 3 (w 44 3 - 1)) 39 13 p) 39 14 c') 39 15 (w 47 C.length)) (x := C.length) rfl (by omega) (by omega)
        rw [up_row _ 15 _ (by omega : (48 + 1 : Nat) ≠ 39), up_row _ 14 _ (by omega : (48 + 1 : Nat) ≠ 39), up_row _ 13 _ (by omega : (48 + 1 : Nat) ≠ 39), up_row w 3 _ (by omega : (48 + 1 : Nat) ≠ 44), Int.toNat_natCast] at this
        rw [c4] at this
        exact this
      rw [u4, s4, ob_some, e13]
    generalize up (up (up (up (up w 44 3 (w 44 3 - 1)) 39 13 p) 39 14 c') 39 15 (w 47 C.length)) 50 3 n = w5 at h5 k5 F5 e13 e14 e15 base
    rw [h5.1.get26 hE ⟨r1, r2⟩, ob_some] at base
    have n5 : w5 40 3 = w 40 3 := by rw [F5 40 (by simp)]
    have hno : nbo b (w5 40 3) := by rw [n5]; exact hN
    have F5' : Fr LC w w5 := F5.sub (by decide)
    rw [← e15] at k5
    have h40 := h5.2.2.2.2.2.2
    have hT : (T.take n).length = n := by rw [List.length_take, Nat.min_eq_left r8]
    show CS E w 9 (if pk E p = 124 then _ else _) 3
    by_cases k1 : pk E p = 124
    · rw [if_pos k1]
      rw [k1] at base
      have base : f_X2_goBack w = (ob (f_X1_get 30 (w5 39 13) w5) fun r9 w9 => ob (f_X2_beginPart r9 w9) fun r10 w10 => some (r10, w10)) := base
      rw [e13, h5.1.get30 hE ⟨r1, r2⟩, ob_some] at base
      have base : f_X2_goBack w = some (4, up w5 39 13 (ps E p)) := base
      refine CS.of (LCup F5' _ _) (goes_9 base) ⟨h5.up _ (Or.inl rfl), ?_, up_same _ _ _ _, ?_, ?_⟩ (by omega)
      · rw [up40]
        rcases hno with q | q <;> omega
      · rw [up_slot _ _ _ _ (by omega)]
        exact e14
      · rw [up_slot _ _ _ _ (by omega)]
        exact k5.up _ _
    rw [if_neg k1]
    by_cases k2 : pk E p = 103
    · rw [if_pos k2]
      rw [k2] at base
      have base : f_X2_goBack w = (ob (f_X2_addNode w5) fun _ w6 => ob (f_X1_get 28 (w6 39 13) w6) fun r7 w7 => ob (f_X2_beginPart r7 w7) fun r8 w8 => some (r8, w8)) := base
      have hlt : w5 40 3 + 1 ≤ 2 * b := by rcases hno with q | q <;> omega
      have hN2 := h5.node
      rw [c_addNode (by omega), ob_some, nodeW_39 w5 (by omega), e13, hN2.1.get28 hE ⟨r1, r2⟩, ob_some] at base
      have base : f_X2_goBack w = some (4, up (nodeW w5) 39 13 (pf E p)) := base
      refine CS.of (LCup (F5'.tr ((nodeW_fr w5).sub (by decide))) _ _) (goes_9 base) ⟨hN2.up _ (Or.inl rfl), ?_, up_same _ _ _ _, ?_, ?_⟩ (by omega)
      · rw [up40, nodeW_n]
        omega
      · rw [up_slot _ _ _ _ (by omega), nodeW_39 w5 (by omega)]
        exact e14
      · rw [up_slot _ _ _ _ (by omega), nodeW_15]
        have := nodeW_ch k5 (by omega)
        rw [e13, e14] at this
        exact this.up _ _
    rw [if_neg k2]
    by_cases k3 : pk E p = 42
    · rw [if_pos k3]
      rw [k3] at base
      have base : f_X2_goBack w = (if wr ((up w5 39 14 ((w5 39 14) + 1)) 39 10) < wr ((up w5 39 14 ((w5 39 14) + 1)) 39 14) then some (9, (up w5 39 14 ((w5 39 14) + 1))) else some (7, (up w5 39 14 ((w5 39 14) + 1)))) := base
      rw [up_same, up_slot w5 39 39 _ (by omega : (10 : Nat) ≠ 14), e14, h5.1.2.2.2.2.2.2.2.2.2] at base
      have h6 : BC E (up w5 39 14 (c' + 1)) C (T.take n) b V s := h5.up _ (Or.inr (Or.inl rfl))
      by_cases k4 : ((eS E).length : Int) < c' + 1
      · rw [if_pos k4]
        rw [if_pos (show wr ((eS E).length) < wr (c' + 1) from (by first | (simp (disch := omega) only [wr_eq] <;> omega) | omega))] at base
        exact CS.of (LCup F5' _ _) (goes_9 base) ⟨h6, by rw [up40]; exact hno⟩ (by omega)
      · rw [if_neg k4]
        rw [if_neg (show ¬ wr ((eS E).length) < wr (c' + 1) from (by first | (simp (disch := omega) only [wr_eq] <;> omega) | omega))] at base
        have := c_leave h6 (by rw [up40]; exact hno) ((up_slot _ _ _ _ (by omega)).trans e13) (up_same _ _ _ _) (by rw [up_slot _ _ _ _ (by omega)]; exact k5.up _ _) (by omega)
        rw [hT] at this
        exact CS.pre (LCup F5' _ _) (goes_9 base) this (by omega)
    rw [if_neg k3]
    by_cases k4 : pk E p = 120
    · rw [if_pos k4]
      rw [k4] at base
      exact CS.pre F5' (goes_9 base) (c_balance hE h5 hno e13 e14 k5 (by omega) (by omega)) (by omega)
    rw [if_neg k4]
    have k6 : pk E p = 102 := by omega
    rw [k6] at base
    exact CS.of F5' (goes_9 base) ⟨h5.1, h5.2.1, h5.2.2.2.1⟩ (by omega)
theorem c_next {E : EV} (hE : EOK E) {w : WS} {g c : Int} {K : List Nd} {C : List Ch} {T : List Tk} {b : Int} {V : Nat → List Int} {s : Int} (hA : AOK E (3, g, c, K, C, T, b, V, s)) (hR : RepC E (3, g, c, K, C, T, b, V, s) w) : CS E w 9 (aNext E g c K C T b V s) 3 := by
  obtain ⟨ha, rfl⟩ := hA
  obtain ⟨a1, a2, a3, a4, a5, a6, a7, a8⟩ := ha
  have hl := hE.2.2.2.2.2.2.1
  obtain ⟨g1, g2, g3, g4, g5, g8, hN⟩ := hR
  have h8 := g1.2.2.2.2.2.2.2.1
  have h9 := g1.2.2.2.2.2.2.2.2.1
  have h10 := g1.2.2.2.2.2.2.2.2.2
  have hEA := hE.2.2.2.2.2.2.2.1
  have base : f_X2_goBack w = ob (f_X2_beginAtNextCursor w) fun r11 w11 => some (r11, w11) := by
    unfold f_X2_goBack
    rw [g5]
    rfl
  unfold f_X2_beginAtNextCursor f_X2_beginAtNextCursor_37 f_X2_beginPart at base
  rw [g3, up_same, up_slot w 39 39 _ (by omega : (10 : Nat) ≠ 11), up_slot w 39 39 _ (by omega : (9 : Nat) ≠ 11), h10, h9] at base
  have F0 : Fr LC w (up w 39 11 (s + 1)) := LCup Fr.rf _ _
  have E0 : EC E (up w 39 11 (s + 1)) := g1.fr F0 (up_slot _ _ _ _ (by omega)) (up_slot _ _ _ _ (by omega)) (up_slot _ _ _ _ (by omega))
  have V0 : VC (up w 39 11 (s + 1)) V := g4.fr (up_row _ _ _ (by omega)) (up_row _ _ _ (by omega))
  have endd : f_X2_goBack w = some (2, up w 39 11 (s + 1)) → CS E w 9 (5, g, c, K, [], T, b, V, s + 1) 3 := fun hf => CS.of F0 (goes_9 hf) ⟨E0, (up_slot _ _ _ _ (by omega)).trans g2, V0⟩ (by omega)
  have w8 : (up (up (up (up w 39 11 (s + 1)) 39 14 (s + 1)) 39 15 (-1)) 50 3 0) 39 8 = eP E := by
    rw [up_row _ _ _ (by omega), up_slot _ _ _ _ (by omega), up_slot _ _ _ _ (by omega), up_slot _ _ _ _ (by omega), h8]
  rw [w8] at base
  have beg : f_X2_goBack w = some (4, up (up (up (up (up w 39 11 (s + 1)) 39 14 (s + 1)) 39 15 (-1)) 50 3 0) 39 13 (eP E)) → CS E w 9 (0, eP E, s + 1, [], [], [], b, V, s + 1) 3 := by
    intro hf
    have F1 : Fr [39, 50] w (up (up (up (up (up w 39 11 (s + 1)) 39 14 (s + 1)) 39 15 (-1)) 50 3 0) 39 13 (eP E)) := ((((Fr.rf.up (by simp)).up (by simp)).up (by simp)).up (by simp)).up (by simp)
    have e39 : ∀ k, k ≠ 11 → k ≠ 14 → k ≠ 15 → k ≠ 13 → (up (up (up (up (up w 39 11 (s + 1)) 39 14 (s + 1)) 39 15 (-1)) 50 3 0) 39 13 (eP E)) 39 k = w 39 k := fun k h1 h2 h3 h4 => by
      rw [up_slot _ _ _ _ h4, up_row _ _ _ (by omega), up_slot _ _ _ _ h3, up_slot _ _ _ _ h2, up_slot _ _ _ _ h1]
    refine CS.of (F1.sub (by decide)) (goes_9 hf) ⟨⟨g1.fr (F1.sub (by decide)) (e39 8 (by omega) (by omega) (by omega) (by omega)) (e39 9 (by omega) (by omega) (by omega) (by omega)) (e39 10 (by omega) (by omega) (by omega) (by omega)), (e39 12 (by omega) (by omega) (by omega) (by omega)).trans g2, ?_, g4.fr (F1 8 (by simp)) (F1 9 (by simp)), ⟨by rw [F1 44 (by simp)]; exact g5, trivial⟩, ?_, by rw [F1 40 (by simp)]; exact g8⟩, ?_, up_same _ _ _ _, ?_, ?_⟩ (by omega)
    · rw [up_slot _ _ _ _ (by omega), up_row _ _ _ (by omega), up_slot _ _ _ _ (by omega), up_slot _ _ _ _ (by omega), up_same]
    · refine ⟨?_, fun k hk => by simp at hk⟩
      rw [up_row _ _ _ (by omega), up_same]
      rfl
    · rw [F1 40 (by simp)]
      rcases hN with q | q <;> omega
    · rw [up_slot _ _ _ _ (by omega), up_row _ _ _ (by omega), up_slot _ _ _ _ (by omega), up_same]
    · show (up (up (up (up (up w 39 11 (s + 1)) 39 14 (s + 1)) 39 15 (-1)) 50 3 0) 39 13 (eP E)) 39 15 = -1
      rw [up_slot _ _ _ _ (by omega), up_row _ _ _ (by omega), up_same]
  unfold aNext
  by_cases c1 : ((eS E).length : Int) < s + 1
  · rw [if_pos (Or.inl c1)]
    rw [if_pos (show wr ((eS E).length) < wr (s + 1) from (by first | (simp (disch := omega) only [wr_eq] <;> omega) | omega)), ob_some] at base
    exact endd base
  · rw [if_neg (show ¬ wr ((eS E).length) < wr (s + 1) from (by first | (simp (disch := omega) only [wr_eq] <;> omega) | omega))] at base
    by_cases c2 : eA E = 0
    · have hq : ¬ (((eS E).length : Int) < s + 1 ∨ (eA E ≠ 0 ∧ 0 < s + 1)) := by omega
      rw [if_neg hq]
      rw [if_pos (show wr (eA E) = 0 from by rw [c2]; rfl), ob_some, ob_some] at base
      exact beg base
    · rw [if_neg (show ¬ wr (eA E) = 0 from (by first | (simp (disch := omega) only [wr_eq] <;> omega) | omega))] at base
      by_cases c3 : 0 < s + 1
      · rw [if_pos (Or.inr ⟨c2, c3⟩)]
        rw [if_pos (show 0 < wr (s + 1) from (by first | (simp (disch := omega) only [wr_eq] <;> omega) | omega)), ob_some] at base
        exact endd base
      · have hq : ¬ (((eS E).length : Int) < s + 1 ∨ (eA E ≠ 0 ∧ 0 < s + 1)) := by omega
        rw [if_neg hq]
        rw [if_neg (show ¬ 0 < wr (s + 1) from (by first | (simp (disch := omega) only [wr_eq] <;> omega) | omega)), ob_some, ob_some] at base
        exact beg base
