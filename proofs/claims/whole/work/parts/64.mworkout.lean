theorem m_sort {x a b : Int} {k : Nat} (h : TK1 x a b k) (w : WS) : f_X9_termSort x w = some (if x = 116 then 1 else if x = 118 then 2 else if x = 119 ∨ x = 35 ∨ x = 114 then 3 else 4, w) := by
  unfold TK1 at h
  have h0 : x = 116 ∨ x = 118 ∨ x = 119 ∨ x = 35 ∨ x = 114 ∨ x = 43 ∨ x = 45 ∨ x = 42 ∨ x = 47 ∨ x = 38 ∨ x = 100 ∨ x = 61 ∨ x = 60 := by omega
  rcases h0 with rfl | rfl | rfl | rfl | rfl | rfl | rfl | rfl | rfl | rfl | rfl | rfl | rfl <;> rfl
theorem NW1_congr {a : Nat → Int} {S T : Nat → Bool} (h : NW1 a S) (e : ∀ k, k < 50 → S k = T k) : NW1 a T := fun k hk => by rw [h k hk, e k hk]
theorem mwork_loop {tk tf ts : Nat → Int} {T V : Nat → List Int} {N : Nat → Bool} {t : Nat} (ht : t < 50) (hT : TKA tk tf ts (t + 1)) (hN : ∀ k, NC1 tk tf ts N k) (sT : ∀ r, SO (T r)) (sV : ∀ r, SO (V r)) (m : Nat) : ∀ (r k : Nat) (W : Nat → List Int) (w : WS), r + 1 < m → r + k = t + 1 → w 94 = tk → w 95 = tf → w 96 = ts → RM w 99 60 50 → RM w 88 20 30 → RM w 90 60 26 → rM w 87 88 20 = T → rM w 89 90 60 = V → NW1 (w 97) N → (∀ j, SO (W j)) → (∀ j, j < k → N j = true → rM w 98 99 60 j = W j) → Ev (f_X9_workOut_108 m t 0 k w) (fun v w' => v = (evL tk tf ts T V N r k W).1 ∧ Fr [98, 99] w w' ∧ RM w' 99 60 50 ∧ (v = 0 → ∀ j, j ≤ t → N j = true → rM w' 98 99 60 j = (evL tk tf ts T V N r k W).2 j)) := by
  induction m with
  | zero => intro r k W w h; omega
  | succ m ih =>
    intro r k W w h1 h2 e1 e2 e3 ho hoT hoV eT eV nW sW hr
    rw [f_X9_workOut_108_s]
    cases r with
    | zero =>
      refine Ev.pos (by first | (simp (disch := omega) only [wr_eq] <;> omega) | omega) ?_
      exact Ev.ret ⟨rfl, Fr.rf, ho, fun _ j hj hn => hr j (by omega) hn⟩
    | succ r =>
      rw [wr_eq (a := (k : Int)) (by omega), Int.toNat_natCast]
      refine Ev.neg (by first | (simp (disch := omega) only [wr_eq] <;> omega) | omega) ?_
      refine Ev.pos rfl ?_
      refine Ev.pos (by first | (simp (disch := omega) only [wr_eq] <;> omega) | omega) ?_
      rw [nW k (by omega)]
      have ek : ((k : Int) + 1) = ((k + 1 : Nat) : Int) := by omega
      rw [ek]
      cases hb : N k with
      | false =>
        refine Ev.pos rfl ?_
        have := ih r (k + 1) W w (by omega) (by omega) e1 e2 e3 ho hoT hoV eT eV nW sW (fun j hj hn => by
          by_cases e : j = k
          · subst e
            rw [hb] at hn
            cases hn
          · exact hr j (by omega) hn)
        unfold evL
        rw [if_neg (by rw [hb]; simp)]
        exact this
      | true =>
        refine Ev.neg (by decide) ?_
        have hk := hT k (by omega)
        have hnc := hN k hb
        have ck : CK2 w k (W (tf k).toNat) (W (ts k).toNat) := by
          refine ⟨ho, hoT, hoV, by omega, by rw [e1, e2, e3]; exact hk, ?_, ?_, sW _, sW _⟩
          · rw [e1, e2]
            intro a1 a2
            have a3 : 0 ≤ tf k ∧ tf k < k := by unfold TK1 at hk; omega
            rcases hnc with q | q | q
            · exact absurd q a1
            · exact absurd q a2
            · exact hr _ (by omega) q.1
          · rw [e1, e3]
            intro a1 a2 a4 a5 a6
            have a3 : 0 ≤ ts k ∧ ts k < k := by unfold TK1 at hk; omega
            rcases hnc with q | q | ⟨q, q1 | q1 | q1 | q1⟩
            · exact absurd q a1
            · exact absurd q a2
            · exact absurd q1 a4
            · exact absurd q1 a5
            · exact absurd q1 a6
            · exact hr _ (by omega) q1
        have sq : SO (ev1 (tk k) (tf k) T V (W (tf k).toNat) (W (ts k).toNat)).2 := ev1_SO sT sV (sW _) (sW _)
        have one := m_one ck
        rw [e1, e2, eT, eV] at one
        refine Ev.bd one ?_
        intro v w2 hp
        obtain ⟨p0, p1, p2, p3, p4⟩ := hp
        subst p0
        unfold evL
        rw [if_pos hb]
        by_cases c : (ev1 (tk k) (tf k) T V (W (tf k).toNat) (W (ts k).toNat)).1 = 0
        · rw [if_pos c, c]
          refine Ev.mono (ih r (k + 1) (vs W k (ev1 (tk k) (tf k) T V (W (tf k).toNat) (W (ts k).toNat)).2) w2 (by omega) (by omega) ((p1 94 (by simp)).trans e1) ((p1 95 (by simp)).trans e2) ((p1 96 (by simp)).trans e3) p2 (RM_fr (p1 88 (by simp)) hoT) (RM_fr (p1 90 (by simp)) hoV) ((rM_fr (p1 87 (by simp)) (p1 88 (by simp))).trans eT) ((rM_fr (p1 89 (by simp)) (p1 90 (by simp))).trans eV) (by rw [p1 97 (by simp)]; exact nW) (fun j => ?_) (fun j hj hn => ?_)) ?_
          · by_cases e : j = k
            · rw [e, vs_same]
              exact sq
            · rw [vs_ne _ _ e]
              exact sW j
          · by_cases e : j = k
            · rw [e, vs_same]
              exact p3 c
            · rw [vs_ne _ _ e, p4 j e]
              exact hr j (by omega) hn
          · rintro v3 w3 ⟨q0, q1, q2, q3⟩
            exact ⟨q0, p1.tr q1, q2, q3⟩
        · rw [if_neg c]
          have hv : wr (ev1 (tk k) (tf k) T V (W (tf k).toNat) (W (ts k).toNat)).1 ≠ 0 := by
            have := ev1_code (tk k) (tf k) T V (W (tf k).toNat) (W (ts k).toNat)
            rw [wr_eq (by omega)]
            exact c
          obtain ⟨m2, rfl⟩ : ∃ m2, m = m2 + 1 := ⟨m - 1, by omega⟩
          rw [f_X9_workOut_108_s]
          have fin : Ev (some ((ev1 (tk k) (tf k) T V (W (tf k).toNat) (W (ts k).toNat)).1, w2)) (fun v w' => v = (ev1 (tk k) (tf k) T V (W (tf k).toNat) (W (ts k).toNat)).1 ∧ Fr [98, 99] w w' ∧ RM w' 99 60 50 ∧ (v = 0 → ∀ j, j ≤ t → N j = true → rM w' 98 99 60 j = W j)) := Ev.ret ⟨rfl, p1, p2, fun h => absurd h c⟩
          exact Ev.ite (fun _ => fin) (fun _ => Ev.neg hv fin)
theorem mmark_loop {tk tf ts : Nat → Int} {t : Nat} {Q : Int → WS → Prop} (m : Nat) : ∀ (n : Nat) (S : Nat → Bool) (w : WS), n < m → n ≤ 50 → TKA tk tf ts n → w 94 = tk → w 95 = tf → w 96 = ts → NW1 (w 97) S → (∀ w', Fr [97] w w' → NW1 (w' 97) (mkA tk tf ts n S) → Ev (f_X9_workOut_108 FU t 0 0 w') Q) → Ev (f_X9_workOut_32 m t ((n : Int) - 1) w) Q := by
  induction m with
  | zero => intro n S w h; omega
  | succ m ih =>
    intro n S w h1 h2 hT e1 e2 e3 h3 hQ
    rw [f_X9_workOut_32_s]
    cases n with
    | zero =>
      refine Ev.pos (by first | (simp (disch := omega) only [wr_eq] <;> omega) | omega) ?_
      exact hQ w Fr.rf h3
    | succ n =>
      have e : ((n + 1 : Nat) : Int) - 1 = n := by omega
      rw [e, wr_eq (a := (n : Int)) (by omega), Int.toNat_natCast]
      have ht := hT n (by omega)
      refine Ev.neg (by first | (simp (disch := omega) only [wr_eq] <;> omega) | omega) ?_; refine Ev.pos (by first | (simp (disch := omega) only [wr_eq] <;> omega) | omega) ?_
      rw [e1]
      refine Ev.obe (m_sort ht w) ?_
      have next : ∀ (S' : Nat → Bool) (w1 : WS), mk1 tk tf ts S n = S' → Fr [97] w w1 → NW1 (w1 97) S' → Ev (f_X9_workOut_32 m t ((n : Int) + (-1)) w1) Q := by
        intro S' w1 hS hF hN
        refine ih n S' w1 (by omega) (by omega) (fun k hk => hT k (by omega)) ((hF 94 (by simp)).trans e1) ((hF 95 (by simp)).trans e2) ((hF 96 (by simp)).trans e3) hN (fun w' g1 g2 => hQ w' (hF.tr g1) ?_)
        show NW1 _ (mkA tk tf ts n (mk1 tk tf ts S n))
        rw [hS]
        exact g2
      refine Ev.pos (by first | (simp (disch := omega) only [wr_eq] <;> omega) | omega) ?_
      rw [h3 n (by omega)]
      cases hb : S n with
      | false =>
        refine Ev.pos rfl ?_
        exact next S w (by unfold mk1; rw [if_pos hb]) Fr.rf h3
      | true =>
        refine Ev.neg (by decide) ?_
        have mk : mk1 tk tf ts S n = if tk n = 116 ∨ tk n = 118 then S else if tk n = 119 ∨ tk n = 35 ∨ tk n = 114 then (fun x => S x || decide (x = (tf n).toNat)) else (fun x => (S x || decide (x = (tf n).toNat)) || decide (x = (ts n).toNat)) := by
          unfold mk1
          rw [if_neg (by simp [hb])]
        unfold TK1 at ht
        by_cases c1 : tk n = 116
        · rw [c1, if_pos (rfl : (116 : Int) = 116)]
          refine Ev.neg (by decide) (next S w ?_ Fr.rf h3)
          rw [mk, if_pos (Or.inl c1)]
        · rw [if_neg c1]
          by_cases c2 : tk n = 118
          · rw [c2, if_pos (rfl : (118 : Int) = 118)]
            refine Ev.neg (by decide) (next S w ?_ Fr.rf h3)
            rw [mk, if_pos (Or.inr c2)]
          · rw [if_neg c2]
            have c0 : ¬ (tk n = 116 ∨ tk n = 118) := by omega
            rw [if_neg c0] at mk
            have z1 : nZ 1 = 1 := rfl
            rw [z1, e2]
            have hx : 0 ≤ tf n ∧ tf n < n := by omega
            have n1 := NW1_up (tf n).toNat h3
            have F1 : Fr [97] w (up w 97 (tf n).toNat 1) := Fr.rf.up (by simp)
            rw [wr_eq (a := tf n) (by omega), F1 96 (by simp), F1 95 (by simp), e2, e3]
            by_cases c3 : tk n = 119 ∨ tk n = 35 ∨ tk n = 114
            · rw [if_pos c3]
              refine Ev.pos (by decide) ?_
              refine Ev.pos (by first | (simp (disch := omega) only [wr_eq] <;> omega) | omega) ?_; refine Ev.pos (by first | (simp (disch := omega) only [wr_eq] <;> omega) | omega) ?_
              refine Ev.neg (by decide) ?_
              refine Ev.pos (by first | (simp (disch := omega) only [wr_eq] <;> omega) | omega) ?_
              unfold f_X9_workOut_96
              rw [wr_eq (a := tf n) (by omega), z1]
              refine Ev.pos (by first | (simp (disch := omega) only [wr_eq] <;> omega) | omega) ?_
              refine next _ _ (by rw [mk, if_pos c3]) (F1.up (by simp)) (NW1_congr (NW1_up (tf n).toNat n1) (fun k hk => by simp))
            · rw [if_neg c3]
              have hy : 0 ≤ ts n ∧ ts n < n := by omega
              refine Ev.pos (by decide) ?_
              refine Ev.pos (by first | (simp (disch := omega) only [wr_eq] <;> omega) | omega) ?_; refine Ev.pos (by first | (simp (disch := omega) only [wr_eq] <;> omega) | omega) ?_
              refine Ev.pos (by decide) ?_
              refine Ev.pos (by first | (simp (disch := omega) only [wr_eq] <;> omega) | omega) ?_
              unfold f_X9_workOut_96
              rw [wr_eq (a := ts n) (by omega), z1]
              refine Ev.pos (by first | (simp (disch := omega) only [wr_eq] <;> omega) | omega) ?_
              exact next _ _ (by rw [mk, if_neg c3]) (F1.up (by simp)) (NW1_up (ts n).toNat n1)
theorem minit_loop {t : Nat} (ht : t < 50) {Q : Int → WS → Prop} (m : Nat) : ∀ (k : Nat) (w : WS), 50 - k < m → k ≤ 50 → (∀ j, j < k → w 97 j = bN (decide (j = t))) → (∀ w', Fr [97] w w' → NW1 (w' 97) (fun x => decide (x = t)) → Ev (f_X9_workOut_32 FU t t w') Q) → Ev (f_X9_workOut_2 m t k w) Q := by
  induction m with
  | zero => intro k w h; omega
  | succ m ih =>
    intro k w h1 h2 h3 hQ
    rw [f_X9_workOut_2_s]
    by_cases e : k = 50
    · subst e
      refine Ev.neg (by first | (simp (disch := omega) only [wr_eq] <;> omega) | omega) ?_
      exact hQ w Fr.rf (fun j hj => h3 j (by omega))
    · refine Ev.pos (by first | (simp (disch := omega) only [wr_eq] <;> omega) | omega) ?_
      have ek : ((k : Int) + 1) = ((k + 1 : Nat) : Int) := by omega
      have next : ∀ x : Int, x = bN (decide (k = t)) → Ev (f_X9_workOut_2 m t ((k + 1 : Nat) : Int) (up w 97 k x)) Q := by
        intro x hx
        refine ih (k + 1) _ (by omega) (by omega) (fun j hj => ?_) (fun w' g1 g2 => hQ w' ((Fr.rf.up (by simp)).tr g1) g2)
        by_cases g : j = k
        · rw [g, up_same, hx]
        · rw [up_slot _ _ _ _ g]
          exact h3 j (by omega)
      unfold f_X9_workOut_23
      rw [wr_eq (a := (k : Int)) (by omega), Int.toNat_natCast, ek]
      by_cases c : k = t
      · refine Ev.pos (by first | (simp (disch := omega) only [wr_eq] <;> omega) | omega) ?_; refine Ev.pos (by first | (simp (disch := omega) only [wr_eq] <;> omega) | omega) ?_
        exact next _ (by simp [c, bN, nZ])
      · refine Ev.neg (by first | (simp (disch := omega) only [wr_eq] <;> omega) | omega) ?_; refine Ev.pos (by first | (simp (disch := omega) only [wr_eq] <;> omega) | omega) ?_
        exact next _ (by simp [c, bN, nZ])
theorem m_workOut {w : WS} {t : Int} {n : Nat} (ht : 0 ≤ t ∧ t < n) (hn : n ≤ 50) (hT : TKA (w 94) (w 95) (w 96) n) (ho : RM w 99 60 50) (hoT : RM w 88 20 30) (hoV : RM w 90 60 26) (sT : ∀ r, SO (rM w 87 88 20 r)) (sV : ∀ r, SO (rM w 89 90 60 r)) : Ev (f_X9_workOut t w) (fun v w' => v = (evT (w 94) (w 95) (w 96) (rM w 87 88 20) (rM w 89 90 60) t.toNat).1 ∧ Fr [97, 98, 99] w w' ∧ RM w' 99 60 50 ∧ (v = 0 → rM w' 98 99 60 t.toNat = (evT (w 94) (w 95) (w 96) (rM w 87 88 20) (rM w 89 90 60) t.toNat).2)) := by
  obtain ⟨t, rfl⟩ : ∃ k : Nat, t = k := ⟨t.toNat, by omega⟩
  rw [Int.toNat_natCast]
  have hT1 : TKA (w 94) (w 95) (w 96) (t + 1) := fun k hk => hT k (by omega)
  unfold f_X9_workOut
  refine minit_loop (by omega) FU 0 w (by unfold FU; omega) (by omega) (fun j hj => by omega) (fun w1 g1 g2 => ?_)
  have e : (t : Int) = ((t + 1 : Nat) : Int) - 1 := by omega
  have g : Ev (f_X9_workOut_32 FU t (((t + 1 : Nat) : Int) - 1) w1) (fun v w' => v = (evT (w 94) (w 95) (w 96) (rM w 87 88 20) (rM w 89 90 60) t).1 ∧ Fr [97, 98, 99] w w' ∧ RM w' 99 60 50 ∧ (v = 0 → rM w' 98 99 60 t = (evT (w 94) (w 95) (w 96) (rM w 87 88 20) (rM w 89 90 60) t).2)) := by
    refine mmark_loop FU (t + 1) _ w1 (by unfold FU; omega) (by omega) hT1 (g1 94 (by simp)) (g1 95 (by simp)) (g1 96 (by simp)) g2 (fun w2 f1 f2 => ?_)
    have F := g1.tr f1
    refine Ev.mono (mwork_loop (by omega) hT1 (need_nc hT1) sT sV FU (t + 1) 0 (fun _ => []) w2 (by unfold FU; omega) (by omega) (F 94 (by simp)) (F 95 (by simp)) (F 96 (by simp)) (RM_fr (F 99 (by simp)) ho) (RM_fr (F 88 (by simp)) hoT) (RM_fr (F 90 (by simp)) hoV) (rM_fr (F 87 (by simp)) (F 88 (by simp))) (rM_fr (F 89 (by simp)) (F 90 (by simp))) f2 (fun _ => SO_nil) (fun j hj => absurd hj (by omega))) ?_
    rintro v w3 ⟨q0, q1, q2, q3⟩
    exact ⟨q0, (F.sub (by simp)).tr (q1.sub (by simp)), q2, fun h => q3 h t (Nat.le_refl _) (need_self _ _ _ _)⟩
  rw [← e] at g
  exact g
