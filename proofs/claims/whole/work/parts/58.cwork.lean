/-! which terms are needed, and a term worked out -/
def mk1 (tk tf ts : Nat → Int) (S : Nat → Bool) (n : Nat) : Nat → Bool := if S n = false then S else if tk n = 116 ∨ tk n = 118 then S else if tk n = 119 ∨ tk n = 35 ∨ tk n = 114 then (fun x => S x || decide (x = (tf n).toNat)) else (fun x => (S x || decide (x = (tf n).toNat)) || decide (x = (ts n).toNat))
def mkA (tk tf ts : Nat → Int) : Nat → (Nat → Bool) → (Nat → Bool)
  | 0, S => S
  | n + 1, S => mkA tk tf ts n (mk1 tk tf ts S n)
def need (tk tf ts : Nat → Int) (t : Nat) : Nat → Bool := mkA tk tf ts (t + 1) (fun x => decide (x = t))
def evL (tk tf ts : Nat → Int) (T V : Nat → List Int) (N : Nat → Bool) : Nat → Nat → (Nat → List Int) → Int × (Nat → List Int)
  | 0, _, W => (0, W)
  | r + 1, k, W => if N k = true then (if (ev1 (tk k) (tf k) T V (W (tf k).toNat) (W (ts k).toNat)).1 = 0 then evL tk tf ts T V N r (k + 1) (vs W k (ev1 (tk k) (tf k) T V (W (tf k).toNat) (W (ts k).toNat)).2) else ((ev1 (tk k) (tf k) T V (W (tf k).toNat) (W (ts k).toNat)).1, W)) else evL tk tf ts T V N r (k + 1) W
def evT (tk tf ts : Nat → Int) (T V : Nat → List Int) (t : Nat) : Int × List Int := ((evL tk tf ts T V (need tk tf ts t) (t + 1) 0 (fun _ => [])).1, (evL tk tf ts T V (need tk tf ts t) (t + 1) 0 (fun _ => [])).2 t)
/-- all terms up to one are as they may be made -/
def TKA (tk tf ts : Nat → Int) (n : Nat) : Prop := ∀ k, k < n → TK1 (tk k) (tf k) (ts k) k
/-- what is needed needs its parts -/
def NC1 (tk tf ts : Nat → Int) (S : Nat → Bool) (k : Nat) : Prop := S k = true → tk k = 116 ∨ tk k = 118 ∨ (S (tf k).toNat = true ∧ (tk k = 119 ∨ tk k = 35 ∨ tk k = 114 ∨ S (ts k).toNat = true))
theorem mk1_mono {tk tf ts : Nat → Int} {S : Nat → Bool} {n x : Nat} (h : S x = true) : mk1 tk tf ts S n x = true := by
  unfold mk1
  repeat' split
  all_goals simp [h]
theorem mk1_ge {tk tf ts : Nat → Int} {S : Nat → Bool} {n x : Nat} (ht : TK1 (tk n) (tf n) (ts n) n) (hx : n ≤ x) (h : mk1 tk tf ts S n x = true) : S x = true := by
  unfold TK1 at ht
  unfold mk1 at h
  split at h
  · exact h
  · split at h
    · exact h
    · split at h
      · simp only [Bool.or_eq_true, decide_eq_true_eq] at h
        rcases h with h | h
        · exact h
        · omega
      · simp only [Bool.or_eq_true, decide_eq_true_eq] at h
        rcases h with (h | h) | h
        · exact h
        · omega
        · omega
theorem mk1_nc {tk tf ts : Nat → Int} {S : Nat → Bool} {n : Nat} (h : S n = true) : tk n = 116 ∨ tk n = 118 ∨ (mk1 tk tf ts S n (tf n).toNat = true ∧ (tk n = 119 ∨ tk n = 35 ∨ tk n = 114 ∨ mk1 tk tf ts S n (ts n).toNat = true)) := by
  unfold mk1
  rw [if_neg (by simp [h])]
  by_cases h1 : tk n = 116 ∨ tk n = 118
  · rcases h1 with h1 | h1
    · exact Or.inl h1
    · exact Or.inr (Or.inl h1)
  · rw [if_neg h1]
    refine Or.inr (Or.inr ?_)
    by_cases h2 : tk n = 119 ∨ tk n = 35 ∨ tk n = 114
    · rw [if_pos h2]
      refine ⟨by simp, ?_⟩
      rcases h2 with h2 | h2 | h2
      · exact Or.inl h2
      · exact Or.inr (Or.inl h2)
      · exact Or.inr (Or.inr (Or.inl h2))
    · rw [if_neg h2]
      exact ⟨by simp, Or.inr (Or.inr (Or.inr (by simp)))⟩
theorem mkA_nc {tk tf ts : Nat → Int} (n : Nat) : ∀ S : Nat → Bool, TKA tk tf ts n → (∀ k, n ≤ k → NC1 tk tf ts S k) → ∀ k, NC1 tk tf ts (mkA tk tf ts n S) k := by
  induction n with
  | zero => intro S _ h k; exact h k (Nat.zero_le _)
  | succ n ih =>
    intro S hT h
    refine ih (mk1 tk tf ts S n) (fun k hk => hT k (by omega)) (fun k hk hS => ?_)
    by_cases e : k = n
    · subst e
      exact mk1_nc (mk1_ge (hT k (by omega)) (Nat.le_refl _) hS)
    · rcases h k (by omega) (mk1_ge (hT n (by omega)) hk hS) with g | g | ⟨g, g2⟩
      · exact Or.inl g
      · exact Or.inr (Or.inl g)
      · refine Or.inr (Or.inr ⟨mk1_mono g, ?_⟩)
        rcases g2 with q | q | q | q
        · exact Or.inl q
        · exact Or.inr (Or.inl q)
        · exact Or.inr (Or.inr (Or.inl q))
        · exact Or.inr (Or.inr (Or.inr (mk1_mono q)))
theorem mkA_mono {tk tf ts : Nat → Int} (n : Nat) : ∀ (S : Nat → Bool) (x : Nat), S x = true → mkA tk tf ts n S x = true := by
  induction n with
  | zero => intro S x h; exact h
  | succ n ih => intro S x h; exact ih _ x (mk1_mono h)
theorem need_self (tk tf ts : Nat → Int) (t : Nat) : need tk tf ts t t = true := mkA_mono _ _ _ (by simp)
theorem need_nc {tk tf ts : Nat → Int} {t : Nat} (h : TKA tk tf ts (t + 1)) : ∀ k, NC1 tk tf ts (need tk tf ts t) k := mkA_nc (t + 1) _ h (fun k hk hS => by
  have : k = t := of_decide_eq_true hS
  omega)
/-- the needed ones in a row of cells -/
def bN (b : Bool) : Int := if b = true then 1 else 0
def NW1 (a : Nat → Int) (S : Nat → Bool) : Prop := ∀ k, k < 50 → a k = bN (S k)
theorem NW1_up {w : WS} {c : Nat} {S : Nat → Bool} (x : Nat) (h : NW1 (w c) S) : NW1 (up w c x 1 c) (fun k => S k || decide (k = x)) := by
  intro k hk
  by_cases e : k = x
  · subst e
    rw [up_same]
    simp [bN]
  · rw [up_slot _ _ _ _ e, h k hk]
    simp [e]
theorem cmark_loop {tk tf ts : Nat → Int} (m : Nat) : ∀ (n : Nat) (S : Nat → Bool) (w : WS), n < m → n ≤ 50 → TKA tk tf ts n → w 34 = tk → w 36 = tf → w 38 = ts → NW1 (w 56) S → Ev (f_X5_markNeeded_18 m ((n : Int) - 1) w) (fun v w' => v = 0 ∧ Fr [56] w w' ∧ NW1 (w' 56) (mkA tk tf ts n S)) := by
  induction m with
  | zero => intro n S w h; omega
  | succ m ih =>
    intro n S w h1 h2 hT e1 e2 e3 h3
    rw [f_X5_markNeeded_18_s]
    cases n with
    | zero =>
      refine Ev.pos (by first | omega | (simp (disch := omega) only [wr_eq] <;> omega)) ?_
      exact Ev.ret ⟨rfl, Fr.rf, h3⟩
    | succ n =>
      have e : ((n + 1 : Nat) : Int) - 1 = n := by omega
      rw [e]
      refine Ev.neg (by first | omega | (simp (disch := omega) only [wr_eq] <;> omega)) ?_
      have ht := hT n (by omega)
      have g1 : f_X1_get 33 n w = some (tk n, w) := by
        rw [← e1]
        exact f_get (i := 33) (n := 50) rfl (by omega) (by omega)
      have g4 : f_X1_get 55 n w = some (bN (S n), w) := by
        rw [← h3 n (by omega)]
        exact f_get (i := 55) (n := 50) rfl (by omega) (by omega)
      refine Ev.obe g1 ?_
      refine Ev.obe g4 ?_
      have next : ∀ (S' : Nat → Bool) (w1 : WS), mk1 tk tf ts S n = S' → Fr [56] w w1 → NW1 (w1 56) S' → Ev (f_X5_markNeeded_18 m ((n : Int) + (-1)) w1) (fun v w' => v = 0 ∧ Fr [56] w w' ∧ NW1 (w' 56) (mkA tk tf ts (n + 1) S)) := by
        intro S' w1 hS hF hN
        refine Ev.mono (ih n S' w1 (by omega) (by omega) (fun k hk => hT k (by omega)) ((hF 34 (by simp)).trans e1) ((hF 36 (by simp)).trans e2) ((hF 38 (by simp)).trans e3) hN) ?_
        rintro v w2 ⟨q0, q1, q2⟩
        refine ⟨q0, hF.tr q1, ?_⟩
        show NW1 _ (mkA tk tf ts n (mk1 tk tf ts S n))
        rw [hS]
        exact q2
      cases hb : S n with
      | false =>
        refine Ev.neg (by decide) ?_
        exact next S w (by unfold mk1; rw [if_pos hb]) Fr.rf h3
      | true =>
        refine Ev.pos rfl ?_
        have mk : mk1 tk tf ts S n = if tk n = 116 ∨ tk n = 118 then S else if tk n = 119 ∨ tk n = 35 ∨ tk n = 114 then (fun x => S x || decide (x = (tf n).toNat)) else (fun x => (S x || decide (x = (tf n).toNat)) || decide (x = (ts n).toNat)) := by
          unfold mk1
          rw [if_neg (by simp [hb])]
        unfold TK1 at ht
        by_cases c1 : tk n = 116
        · rw [c1]
          refine Ev.pos rfl (next S w ?_ Fr.rf h3)
          rw [mk, if_pos (Or.inl c1)]
        · by_cases c2 : tk n = 118
          · rw [c2]
            refine Ev.neg (by decide) (Ev.pos rfl (next S w ?_ Fr.rf h3))
            rw [mk, if_pos (Or.inr c2)]
          · refine Ev.neg (by first | omega | (simp (disch := omega) only [wr_eq] <;> omega)) ?_; refine Ev.neg (by first | omega | (simp (disch := omega) only [wr_eq] <;> omega)) ?_
            have g2 : f_X1_get 35 n w = some (tf n, w) := by
              rw [← e2]
              exact f_get (i := 35) (n := 50) rfl (by omega) (by omega)
            refine Ev.obe g2 ?_
            have g5 : f_X1_put 55 (tf n) 1 w = some (0, up w 56 (tf n).toNat 1) := f_put (i := 55) (n := 50) rfl (by omega) (by omega)
            refine Ev.obe g5 ?_
            have n1 := NW1_up (tf n).toNat h3
            have F1 : Fr [56] w (up w 56 (tf n).toNat 1) := Fr.rf.up (by simp)
            have c0 : ¬ (tk n = 116 ∨ tk n = 118) := by omega
            rw [if_neg c0] at mk
            by_cases c3 : tk n = 119
            · refine Ev.pos (by first | omega | (simp (disch := omega) only [wr_eq] <;> omega)) ?_
              exact next _ _ (by rw [mk, if_pos (Or.inl c3)]) F1 n1
            · by_cases c4 : tk n = 35
              · refine Ev.neg (by first | omega | (simp (disch := omega) only [wr_eq] <;> omega)) ?_; refine Ev.pos (by first | omega | (simp (disch := omega) only [wr_eq] <;> omega)) ?_
                exact next _ _ (by rw [mk, if_pos (Or.inr (Or.inl c4))]) F1 n1
              · by_cases c5 : tk n = 114
                · refine Ev.neg (by first | omega | (simp (disch := omega) only [wr_eq] <;> omega)) ?_; refine Ev.neg (by first | omega | (simp (disch := omega) only [wr_eq] <;> omega)) ?_; refine Ev.pos (by first | omega | (simp (disch := omega) only [wr_eq] <;> omega)) ?_
                  exact next _ _ (by rw [mk, if_pos (Or.inr (Or.inr c5))]) F1 n1
                · refine Ev.neg (by first | omega | (simp (disch := omega) only [wr_eq] <;> omega)) ?_; refine Ev.neg (by first | omega | (simp (disch := omega) only [wr_eq] <;> omega)) ?_; refine Ev.neg (by first | omega | (simp (disch := omega) only [wr_eq] <;> omega)) ?_
                  have g3 : f_X1_get 37 n (up w 56 (tf n).toNat 1) = some (ts n, up w 56 (tf n).toNat 1) := by
                    have := f_get (i := 37) (n := 50) (w := up w 56 (tf n).toNat 1) (x := n) rfl (by omega) (by omega)
                    rw [Int.toNat_natCast, (F1 38 (by simp)).trans e3] at this
                    exact this
                  refine Ev.obe g3 ?_
                  have g6 : f_X1_put 55 (ts n) 1 (up w 56 (tf n).toNat 1) = some (0, up (up w 56 (tf n).toNat 1) 56 (ts n).toNat 1) := f_put (i := 55) (n := 50) rfl (by omega) (by omega)
                  refine Ev.obe g6 ?_
                  have c6 : ¬ (tk n = 119 ∨ tk n = 35 ∨ tk n = 114) := by omega
                  exact next _ _ (by rw [mk, if_neg c6]) (F1.up (by simp)) (NW1_up (ts n).toNat n1)
theorem c_mark {w : WS} {t : Nat} (ht : t < 50) (hT : TKA (w 34) (w 36) (w 38) (t + 1)) : Ev (f_X5_markNeeded t w) (fun v w' => v = 0 ∧ Fr [56] w w' ∧ NW1 (w' 56) (need (w 34) (w 36) (w 38) t)) := by
  unfold f_X5_markNeeded
  refine Ev.obe (f_clearAll (i := 55) (n := 50) rfl (by omega)) ?_
  refine Ev.obe (f_put (i := 55) (n := 50) (x := t) rfl (by omega) (by omega)) ?_
  have F0 : Fr [56] w (up (ww w (55 + 1) 0 (fun _ => 0) 50) (55 + 1) ((t : Int)).toNat 1) := fun c hc => by
    have hc : c ≠ 56 := by simpa using hc
    rw [up_row _ _ _ (by omega), ww_c _ _ _ _ (by omega)]
  have n0 : NW1 (up (ww w (55 + 1) 0 (fun _ => 0) 50) (55 + 1) ((t : Int)).toNat 1 56) (fun x => decide (x = t)) := by
    intro k hk
    rw [Int.toNat_natCast]
    by_cases e : k = t
    · subst e
      simp [bN, up]
    · simp [bN, up, e, ww, hk]
  have e : (t : Int) = ((t + 1 : Nat) : Int) - 1 := by omega
  generalize up (ww w (55 + 1) 0 (fun _ => 0) 50) (55 + 1) ((t : Int)).toNat 1 = w0 at F0 n0 ⊢
  rw [e]
  refine Ev.mono (cmark_loop FU (t + 1) _ w0 (by unfold FU; omega) (by omega) hT (F0 34 (by simp)) (F0 36 (by simp)) (F0 38 (by simp)) n0) ?_
  rintro v w2 ⟨q0, q1, q2⟩
  exact ⟨q0, F0.tr q1, q2⟩
theorem pad_SO (e : Nat) (m : Int) : SO (pad e m) := by
  induction e with
  | zero => intro x hx; cases hx
  | succ e ih =>
    intro x hx
    have := dg_rng m e
    rcases List.mem_cons.mp hx with h | h
    · omega
    · exact ih x h
theorem dec_SO (e : Nat) (m : Int) : SO (dec e m) := by
  induction e with
  | zero => intro x hx; cases hx
  | succ e ih =>
    intro x hx
    unfold dec at hx
    split at hx
    · exact pad_SO (e + 1) m x hx
    · exact ih x hx
theorem decS_SO (n : Int) : SO (decS n) := by
  intro x hx
  unfold decS at hx
  split at hx
  · rcases List.mem_cons.mp hx with h | h
    · omega
    · exact dec_SO _ _ x h
  · exact dec_SO _ _ x hx
theorem SO_nil : SO [] := fun x hx => by cases hx
theorem repL_SO {A : List Int} (h : SO A) (n : Nat) : SO (repL A n) := by
  induction n with
  | zero => exact SO_nil
  | succ n ih =>
    intro x hx
    rcases List.mem_append.mp hx with q | q
    · exact ih x q
    · exact h x q
theorem itP {α : Type} {P : α → Prop} {c : Prop} {d : Decidable c} {a b : α} (ha : P a) (hb : P b) : P (@ite _ c d a b) := by
  by_cases h : c
  · rw [if_pos h]; exact ha
  · rw [if_neg h]; exact hb
def SO2 (q : Int × List Int) : Prop := SO q.2
def CO2 (q : Int × List Int) : Prop := -1 ≤ q.1 ∧ q.1 ≤ 8
theorem ev1_SO {kind x : Int} {T V : Nat → List Int} {A B : List Int} (hT : ∀ r, SO (T r)) (hV : ∀ r, SO (V r)) (hA : SO A) (hB : SO B) : SO (ev1 kind x T V A B).2 := by
  show SO2 (ev1 kind x T V A B)
  unfold ev1
  repeat' (refine itP (P := SO2) ?_ ?_)
  all_goals unfold SO2
  all_goals dsimp only
  all_goals first
    | exact SO_nil
    | exact hT _
    | exact hV _
    | exact decS_SO _
    | exact repL_SO hA _
    | (intro y hy; rcases List.mem_append.mp hy with q | q; exact hA y q; exact hB y q)
    | (intro y hy; exact hA y (List.mem_reverse.mp hy))
theorem ev1_code (kind x : Int) (T V : Nat → List Int) (A B : List Int) : -1 ≤ (ev1 kind x T V A B).1 ∧ (ev1 kind x T V A B).1 ≤ 8 := by
  show CO2 (ev1 kind x T V A B)
  unfold ev1
  repeat' (refine itP (P := CO2) ?_ ?_)
  all_goals unfold CO2
  all_goals dsimp only
  all_goals omega
theorem cwork_loop {tk tf ts : Nat → Int} {T V : Nat → List Int} {N : Nat → Bool} {t : Nat} (ht : t < 50) (hT : TKA tk tf ts (t + 1)) (hN : ∀ k, NC1 tk tf ts N k) (sT : ∀ r, SO (T r)) (sV : ∀ r, SO (V r)) (m : Nat) : ∀ (r k : Nat) (W : Nat → List Int) (w : WS), r < m → r + k = t + 1 → w 34 = tk → w 36 = tf → w 38 = ts → RO w 16 60 50 → RO w 4 20 30 → RO w 7 60 26 → rC w 4 20 = T → rC w 7 60 = V → NW1 (w 56) N → (∀ j, SO (W j)) → (∀ j, j < k → N j = true → rC w 16 60 j = W j) → Ev (f_X5_workOut_7 m t k w) (fun v w' => v = (evL tk tf ts T V N r k W).1 ∧ Fr [17, 18] w w' ∧ RO w' 16 60 50 ∧ (v = 0 → ∀ j, j ≤ t → N j = true → rC w' 16 60 j = (evL tk tf ts T V N r k W).2 j)) := by
  induction m with
  | zero => intro r k W w h; omega
  | succ m ih =>
    intro r k W w h1 h2 e1 e2 e3 ho hoT hoV eT eV nW sW hr
    rw [f_X5_workOut_7_s]
    cases r with
    | zero =>
      refine Ev.pos (by first | omega | (simp (disch := omega) only [wr_eq] <;> omega)) ?_
      exact Ev.ret ⟨rfl, Fr.rf, ho, fun _ j hj hn => hr j (by omega) hn⟩
    | succ r =>
      refine Ev.neg (by first | omega | (simp (disch := omega) only [wr_eq] <;> omega)) ?_; refine Ev.pos (by first | omega | (simp (disch := omega) only [wr_eq] <;> omega)) ?_
      have g4 : f_X1_get 55 k w = some (w 56 k, w) := f_get (i := 55) (n := 50) rfl (by omega) (by omega)
      refine Ev.obe g4 ?_
      rw [nW k (by omega)]
      have ek : ((k : Int) + 1) = ((k + 1 : Nat) : Int) := by omega
      cases hb : N k with
      | false =>
        refine Ev.neg (by decide) ?_
        rw [ek]
        have := ih r (k + 1) W w (by omega) (by omega) e1 e2 e3 ho hoT hoV eT eV nW sW (fun j hj hn => by
          by_cases e : j = k
          · subst e
            rw [hb] at hn
            cases hn
          · exact hr j (by omega) hn)
        unfold evL
        rw [if_neg (by rw [hb]; simp)]
        exact this
      | true =>
        refine Ev.pos rfl ?_
        refine Ev.obe (f_clear RI_16 (a := k) (by omega)) ?_
        rw [Int.toNat_natCast]
        have ho1 := RO_clear k ho
        have hc1 := rC_clear (i := 16) (wd := 60) (w := w) k
        have F1 : Fr [17, 18] w (up w (16 + 2) k 0) := Fr.rf.up (by simp)
        generalize up w (16 + 2) k 0 = w1 at ho1 hc1 F1 ⊢
        have u34 := (F1 34 (by simp)).trans e1
        have u36 := (F1 36 (by simp)).trans e2
        have u38 := (F1 38 (by simp)).trans e3
        have u56 := F1 56 (by simp)
        have hk := hT k (by omega)
        have hkk : 0 ≤ tk k ∧ tk k < 200 := by unfold TK1 at hk; omega
        have g1 : f_X1_get 33 k w1 = some (w1 34 k, w1) := f_get (i := 33) (n := 50) rfl (by omega) (by omega)
        refine Ev.obe g1 ?_
        rw [u34]
        refine Ev.obe (isOf_eq hkk w1) ?_
        have cT : rC w1 4 20 = T := (rC_fr (F1 5 (by simp)) (F1 6 (by simp))).trans eT
        have cV : rC w1 7 60 = V := (rC_fr (F1 8 (by simp)) (F1 9 (by simp))).trans eV
        have oT : RO w1 4 20 30 := RO_fr (F1 6 (by simp)) hoT
        have oV : RO w1 7 60 26 := RO_fr (F1 9 (by simp)) hoV
        have hnc := hN k hb
        have rowk : ∀ j, j ≠ k → rC w1 16 60 j = rC w 16 60 j := fun j hj => by rw [hc1, vs_ne _ _ hj]
        have ck : CK w1 k (W (tf k).toNat) (W (ts k).toNat) := by
          refine ⟨ho1, oT, oV, by omega, by rw [u34, u36, u38]; exact hk, by rw [hc1, vs_same], ?_, ?_, sW _, sW _⟩
          · rw [u34, u36]
            intro a1 a2
            have a3 : 0 ≤ tf k ∧ tf k < k := by unfold TK1 at hk; omega
            rw [rowk _ (by omega)]
            rcases hnc with q | q | q
            · exact absurd q a1
            · exact absurd q a2
            · exact hr _ (by omega) q.1
          · rw [u34, u38]
            intro a1 a2 a4 a5 a6
            have a3 : 0 ≤ ts k ∧ ts k < k := by unfold TK1 at hk; omega
            rw [rowk _ (by omega)]
            rcases hnc with q | q | ⟨q, q1 | q1 | q1 | q1⟩
            · exact absurd q a1
            · exact absurd q a2
            · exact absurd q1 a4
            · exact absurd q1 a5
            · exact absurd q1 a6
            · exact hr _ (by omega) q1
        have sq : SO (ev1 (tk k) (tf k) T V (W (tf k).toNat) (W (ts k).toNat)).2 := ev1_SO sT sV (sW _) (sW _)
        have fin : ∀ (v : Int) (w2 : WS), P1 w1 k (ev1 (tk k) (tf k) T V (W (tf k).toNat) (W (ts k).toNat)) v w2 → Ev (f_X5_workOut_68 (fun x0 x1 x => f_X5_workOut_7 m x0 x1 x) t k v w2) (fun v w' => v = (evL tk tf ts T V N (r + 1) k W).1 ∧ Fr [17, 18] w w' ∧ RO w' 16 60 50 ∧ (v = 0 → ∀ j, j ≤ t → N j = true → rC w' 16 60 j = (evL tk tf ts T V N (r + 1) k W).2 j)) := by
          intro v w2 hp
          obtain ⟨p0, p1, p2, p3, p4⟩ := hp
          subst p0
          unfold f_X5_workOut_68
          unfold evL
          rw [if_pos hb]
          by_cases c : (ev1 (tk k) (tf k) T V (W (tf k).toNat) (W (ts k).toNat)).1 = 0
          · rw [if_pos c, c]
            refine Ev.pos rfl ?_
            rw [ek]
            have F2 := F1.tr p1
            refine Ev.mono (ih r (k + 1) (vs W k (ev1 (tk k) (tf k) T V (W (tf k).toNat) (W (ts k).toNat)).2) w2 (by omega) (by omega) ((F2 34 (by simp)).trans e1) ((F2 36 (by simp)).trans e2) ((F2 38 (by simp)).trans e3) p2 (RO_fr (F2 6 (by simp)) hoT) (RO_fr (F2 9 (by simp)) hoV) ((rC_fr (F2 5 (by simp)) (F2 6 (by simp))).trans eT) ((rC_fr (F2 8 (by simp)) (F2 9 (by simp))).trans eV) (by rw [F2 56 (by simp)]; exact nW) (fun j => ?_) (fun j hj hn => ?_)) ?_
            · by_cases e : j = k
              · rw [e, vs_same]
                exact sq
              · rw [vs_ne _ _ e]
                exact sW j
            · by_cases e : j = k
              · rw [e, vs_same]
                exact p3 c
              · rw [vs_ne _ _ e, p4 j e, rowk j e]
                exact hr j (by omega) hn
            · rintro v3 w3 ⟨q0, q1, q2, q3⟩
              exact ⟨q0, F2.tr q1, q2, q3⟩
          · rw [if_neg c]
            have hv : wr (ev1 (tk k) (tf k) T V (W (tf k).toNat) (W (ts k).toNat)).1 ≠ 0 := by
              have := ev1_code (tk k) (tf k) T V (W (tf k).toNat) (W (ts k).toNat)
              rw [wr_eq (by omega)]
              exact c
            exact Ev.neg hv (Ev.ret ⟨rfl, F1.tr p1, p2, fun h => absurd h c⟩)
        by_cases c : tk k = 43 ∨ tk k = 45 ∨ tk k = 42 ∨ tk k = 47 ∨ tk k = 60 ∨ tk k = 100
        · rw [if_pos c]
          refine Ev.neg (by decide) ?_
          have := c_reckon ck (by rw [u34]; exact c)
          rw [u34, u36, cT, cV] at this
          exact Ev.bd this fin
        · rw [if_neg c]
          refine Ev.pos rfl ?_
          have := c_form ck (by rw [u34]; exact c)
          rw [u34, u36, cT, cV] at this
          exact Ev.bd this fin
theorem c_workOut {w : WS} {t : Int} {n : Nat} (ht : 0 ≤ t ∧ t < n) (hn : n ≤ 50) (hT : TKA (w 34) (w 36) (w 38) n) (ho : RO w 16 60 50) (hoT : RO w 4 20 30) (hoV : RO w 7 60 26) (sT : ∀ r, SO (rC w 4 20 r)) (sV : ∀ r, SO (rC w 7 60 r)) : Ev (f_X5_workOut t w) (fun v w' => v = (evT (w 34) (w 36) (w 38) (rC w 4 20) (rC w 7 60) t.toNat).1 ∧ Fr [17, 18, 56] w w' ∧ RO w' 16 60 50 ∧ (v = 0 → rC w' 16 60 t.toNat = (evT (w 34) (w 36) (w 38) (rC w 4 20) (rC w 7 60) t.toNat).2)) := by
  obtain ⟨t, rfl⟩ : ∃ k : Nat, t = k := ⟨t.toNat, by omega⟩
  rw [Int.toNat_natCast]
  have hT1 : TKA (w 34) (w 36) (w 38) (t + 1) := fun k hk => hT k (by omega)
  unfold f_X5_workOut
  refine Ev.bd (c_mark (by omega) hT1) ?_
  rintro v w1 ⟨-, g1, g2⟩
  refine Ev.mono (cwork_loop (by omega) hT1 (need_nc hT1) sT sV FU (t + 1) 0 (fun _ => []) w1 (by unfold FU; omega) (by omega) (g1 34 (by simp)) (g1 36 (by simp)) (g1 38 (by simp)) (RO_fr (g1 18 (by simp)) ho) (RO_fr (g1 6 (by simp)) hoT) (RO_fr (g1 9 (by simp)) hoV) (rC_fr (g1 5 (by simp)) (g1 6 (by simp))) (rC_fr (g1 8 (by simp)) (g1 9 (by simp))) g2 (fun _ => SO_nil) (fun j hj => absurd hj (by omega))) ?_
  rintro v w2 ⟨q0, q1, q2, q3⟩
  exact ⟨q0, (g1.sub (by simp)).tr (q1.sub (by simp)), q2, fun h => q3 h t (Nat.le_refl _) (need_self _ _ _ _)⟩
