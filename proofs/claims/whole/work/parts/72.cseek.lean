theorem c_step {E : EV} (hE : EOK E) {st : MS} {w : WS} (hA : AOK E st) (hR : RepC E st w) (hm : st.1 ≤ 3) : CS E w (cm st.1) (aStep E st) 3 := by
  obtain ⟨md, g, c, K, C, T, b, V, s⟩ := st
  match md, hA, hR, hm with
  | 0, hA, hR, _ => exact c_begin hE hA hR
  | 1, hA, hR, _ => exact c_goOn hE hA hR
  | 2, hA, hR, _ => exact c_back hE hA hR
  | 3, hA, hR, _ => exact c_next hE hA hR
theorem c_steps {E : EV} (hE : EOK E) (n : Nat) : ∀ {st : MS} {w : WS}, AOK E st → RepC E st w → (∀ j, j < n → (aIter E j st).1 ≤ 3) → CS E w (cm st.1) (aIter E n st) (3 * n) := by
  induction n with
  | zero => intro st w hA hR _; exact CS.of Fr.rf (GoT.rf _ _) hR (Nat.zero_le _)
  | succ n ih =>
    intro st w hA hR hj
    obtain ⟨k, w1, q1, q2, q3, q4⟩ := c_step hE hA hR (hj 0 (by omega))
    refine CS.pre q3 q4 (ih (a_ok hE hA) q2 (fun j h => hj (j + 1) (by omega))) ?_
    omega
theorem aStep_halt {E : EV} {st : MS} (h : 4 ≤ st.1) : aStep E st = st := by
  obtain ⟨md, g, c, K, C, T, b, V, s⟩ := st
  match md, h with
  | n + 4, h => rfl
theorem aIter_halt {E : EV} (n : Nat) : ∀ {st : MS}, 4 ≤ st.1 → aIter E n st = st := by
  induction n with
  | zero => intro st _; rfl
  | succ n ih =>
    intro st h
    show aIter E n (aStep E st) = st
    rw [aStep_halt h]
    exact ih h
theorem aIter_add {E : EV} (n m : Nat) : ∀ st : MS, aIter E (n + m) st = aIter E m (aIter E n st) := by
  induction n with
  | zero => intro st; rw [Nat.zero_add]; rfl
  | succ n ih =>
    intro st
    rw [show n + 1 + m = (n + m) + 1 from by omega]
    exact ih (aStep E st)
def FA : Nat := 620000
noncomputable def aEnd (E : EV) (st : MS) : MS := @dite MS (∃ n, 4 ≤ (aIter E n st).1) (Classical.propDecidable _) (fun h => aIter E (Classical.choose h) st) (fun _ => st)
theorem aEnd_eq {E : EV} {st : MS} {n : Nat} (h : 4 ≤ (aIter E n st).1) : aEnd E st = aIter E n st := by
  have hx : ∃ n, 4 ≤ (aIter E n st).1 := ⟨n, h⟩
  unfold aEnd
  rw [dif_pos hx]
  have hk := Classical.choose_spec hx
  generalize Classical.choose hx = k at hk
  rcases Nat.le_total k n with q | q
  · obtain ⟨d, rfl⟩ := Nat.exists_eq_add_of_le q
    rw [aIter_add, aIter_halt d hk]
  · obtain ⟨d, rfl⟩ := Nat.exists_eq_add_of_le q
    rw [aIter_add, aIter_halt d h]
theorem aEnd_halt {E : EV} {st : MS} (h : 4 ≤ st.1) : aEnd E st = st := aEnd_eq (n := 0) h
theorem aEnd_ex {E : EV} (hE : EOK E) {st : MS} (hA : AOK E st) : ∃ n, n ≤ FA ∧ aEnd E st = aIter E n st ∧ 4 ≤ (aEnd E st).1 ∧ ∀ j, j < n → (aIter E j st).1 ≤ 3 := by
  obtain ⟨n, n1, n2, n3⟩ := a_ends hE (aPhi st) st hA (Nat.le_refl _)
  have h := aPhi_le hE hA
  have e := aEnd_eq (n := n) n2
  exact ⟨n, by unfold FA; omega, e, by rw [e]; exact n2, n3⟩
theorem c_halt {w : WS} {md : Nat} (h : 4 ≤ md) (m t : Nat) (ht : t ≤ 9999999) : f_X2_seek_5 (m + 1) (cm md) t w = some (cm md, w) := by
  rw [f_X2_seek_5_s]
  have e : cm md = 1 ∨ cm md = 2 ∨ cm md = 3 := by
    match md, h with
    | 4, _ => exact Or.inl rfl
    | 5, _ => exact Or.inr (Or.inl rfl)
    | n + 6, _ => exact Or.inr (Or.inr rfl)
  refine (if_pos (by first | (simp (disch := omega) only [wr_eq] <;> omega) | omega)).trans ?_
  rcases e with e | e | e <;> rw [e] <;> rfl
theorem c_seek {E : EV} (hE : EOK E) {st : MS} {w : WS} (hA : AOK E st) (hR : RepC E st w) (hm : st.1 = 2 ∨ st.1 = 3) : Ev (f_X2_seek w) (fun v w' => v = cm (aEnd E st).1 ∧ RepC E (aEnd E st) w' ∧ Fr LC w w') := by
  obtain ⟨n, n1, n2, n3, n4⟩ := aEnd_ex hE hA
  obtain ⟨k, w1, q1, q2, q3, q4⟩ := c_steps hE n hA hR n4
  rw [← n2] at q2 q4
  generalize aEnd E st = eS1 at n2 n3 q2 q4 ⊢
  have hk : k ≤ 1860000 := by unfold FA at n1; omega
  have h9 : cm st.1 = 9 := by rcases hm with h | h <;> rw [h] <;> rfl
  rw [h9] at q4
  refine ⟨cm eS1.1, w1, ?_, rfl, q2, q3⟩
  unfold f_X2_seek
  have e := q4 (FU - k) 0 (by omega)
  rw [show FU - k + k = FU from by unfold FU; omega, show FU - k = (FU - k - 1) + 1 from by unfold FU; omega] at e
  have e0 : f_X2_seek_5 FU 9 0 w = f_X2_seek_5 (FU - k - 1 + 1) (cm eS1.1) ((0 + k : Nat) : Int) w1 := e
  rw [e0]
  exact c_halt n3 _ _ (by omega)
/-! what '.' took is assigned -/
def asgT (S : List Int) (V : Nat → List Int) (T : List Tk) : Nat → List Int := T.foldl (fun V x => vs V x.1.toNat (slice S x.2.1 x.2.2)) V
theorem asg_loop {E : EV} (hl : (eS E).length ≤ 60) {T : List Tk} (hT : TOK E T) (hTl : T.length ≤ 3000) (m : Nat) : ∀ (k : Nat) (V : Nat → List Int) (w : WS), T.length - k < m → k ≤ T.length → EC E w → VC w V → tkC w T → Ev (f_X2_assignTaken_2 m k w) (fun v w' => v = 0 ∧ Fr [8, 9] w w' ∧ VC w' (asgT (eS E) V (T.drop k))) := by
  induction m with
  | zero => intro k V w h; omega
  | succ m ih =>
    intro k V w h1 h2 h3 h4 h5
    rw [f_X2_assignTaken_2_s, h5.1]
    by_cases e : k = T.length
    · refine Ev.neg (by first | (simp (disch := omega) only [wr_eq] <;> omega) | omega) ?_
      rw [e, List.drop_length]
      exact Ev.ret ⟨rfl, Fr.rf, h4⟩
    · refine Ev.pos (by first | (simp (disch := omega) only [wr_eq] <;> omega) | omega) ?_
      have hk : k < T.length := by omega
      obtain ⟨t1, t2, t3⟩ := h5.2 k hk T[k] (List.getElem?_eq_getElem hk)
      have tm := hT T[k] (List.getElem_mem hk)
      have s1 : f_X3_first 50 k w = some (T[k].1, w) := by
        rw [← t1]
        exact f_first (i := 50) (n := 3000) rfl (by omega) (by omega)
      have s2 : f_X3_second 50 k w = some (T[k].2.1, w) := by
        rw [← t2]
        exact f_second (i := 50) (n := 3000) rfl (by omega) (by omega)
      have s3 : f_X3_third 50 k w = some (T[k].2.2, w) := by
        rw [← t3]
        exact f_third (i := 50) (n := 3000) rfl (by omega) (by omega)
      refine Ev.obe s1 ?_
      refine Ev.obe s2 ?_
      refine Ev.obe s3 ?_
      refine Ev.bd (c_capture h3 h4 hl (a := T[k].1) (f := T[k].2.1) (e := T[k].2.2) ⟨tm.1, tm.2.1⟩ tm.2.2) ?_
      rintro v w1 ⟨-, q1, q2⟩
      have ek : ((k : Int) + 1) = ((k + 1 : Nat) : Int) := by omega
      have e39 := q1 39 (by simp)
      rw [ek, List.drop_eq_getElem_cons hk]
      refine Ev.mono (ih (k + 1) _ w1 (by omega) (by omega) (h3.fr (q1.sub (by decide)) (by rw [e39]) (by rw [e39]) (by rw [e39])) q2 (h5.fr (by rw [q1 50 (by simp)]) (q1 51 (by simp)) (q1 52 (by simp)) (q1 53 (by simp)))) ?_
      rintro v w2 ⟨p0, p1, p2⟩
      exact ⟨p0, q1.tr p1, p2⟩
theorem c_assignTaken {E : EV} (hl : (eS E).length ≤ 60) {T : List Tk} (hT : TOK E T) (hTl : T.length ≤ 3000) {V : Nat → List Int} {w : WS} (h3 : EC E w) (h4 : VC w V) (h5 : tkC w T) : Ev (f_X2_assignTaken w) (fun v w' => v = 0 ∧ Fr [8, 9] w w' ∧ VC w' (asgT (eS E) V T)) := by
  unfold f_X2_assignTaken
  exact asg_loop hl hT hTl FU 0 V w (by unfold FU; omega) (by omega) h3 h4 h5
/-- the machine as a match begins -/
def aSt0 (V : Nat → List Int) : MS := (3, 0, 0, [], [], [], 0, V, -1)
theorem aSt0_ok {E : EV} {V : Nat → List Int} (hV : VOK V) : AOK E (aSt0 V) := ⟨⟨Int.le_refl _, by omega, Int.le_refl _, by omega, hV, trivial, Int.le_refl _, fun x hx => by cases hx⟩, rfl⟩
theorem c_prepare {w : WS} {j wj nj : Nat} (hj : RI j wj nj) (hoj : RO w j wj nj) (ho4 : RO w 4 20 30) (ho13 : RO w 13 60 1) (ho7 : RO w 7 60 26) {r p an : Int} (hr : 0 ≤ r ∧ r < nj) (hj13 : j ≠ 13) (han : an = 0 ∨ an = 1) (np : Int) : Ev (f_X2_prepare j r p an w) (fun v w' => v = 0 ∧ Fr [14, 15, 39, 40, 44] w w' ∧ RepC (w 27, w 29, w 31, rC w 4 20, rC w j wj r.toNat, an, p, np) (aSt0 (rC w 7 60)) w') := by
  unfold f_X2_prepare
  have hlj := ln (z := j + 2) rfl hoj r.toNat
  have hw := hj.2.2.2.1
  refine Ev.bd (f_copy RI_13 ho13 hj hoj (a := 0) (b := r) (by omega) hr (fun e => hj13 e.symm) (by omega)) ?_
  rintro v w1 ⟨-, q1, q2, q3⟩
  have q1 : Fr [14, 15] w w1 := q1
  have hl : f_X6_length 13 0 w1 = some (w1 15 0, w1) := f_length RI_13 (by omega)
  refine Ev.obe hl ?_
  have ls := ln (z := 15) rfl q2 0
  rw [Int.toNat_zero] at q3
  have e13 : rC w1 13 60 0 = rC w j wj r.toNat := by rw [q3, vs_same]
  rw [e13] at ls
  refine Ev.pos han (Ev.ret ⟨rfl, ?_, ?_⟩)
  · exact (((((((q1.sub (by simp)).up (by simp)).up (by simp)).up (by simp)).up (by simp)).up (by simp)).up (by simp)).up (by simp)
  have F : Fr [39, 40, 44] w1 (up (up (up (up (up (up (up w1 39 10 (w1 15 0)) 39 8 p) 39 9 an) 39 11 (-1)) 39 12 0) 40 3 0) 44 3 0) := ((((((Fr.rf.up (by simp)).up (by simp)).up (by simp)).up (by simp)).up (by simp)).up (by simp)).up (by simp)
  have e39 : ∀ k, (up (up (up (up (up (up (up w1 39 10 (w1 15 0)) 39 8 p) 39 9 an) 39 11 (-1)) 39 12 0) 40 3 0) 44 3 0) 39 k = (up (up (up (up (up w1 39 10 (w1 15 0)) 39 8 p) 39 9 an) 39 11 (-1)) 39 12 0) 39 k := fun k => by rw [up_row _ _ _ (by omega), up_row _ _ _ (by omega)]
  have e40 : (up (up (up (up (up (up (up w1 39 10 (w1 15 0)) 39 8 p) 39 9 an) 39 11 (-1)) 39 12 0) 40 3 0) 44 3 0) 40 3 = 0 := by rw [up_row _ _ _ (by omega), up_same]
  have e44 : (up (up (up (up (up (up (up w1 39 10 (w1 15 0)) 39 8 p) 39 9 an) 39 11 (-1)) 39 12 0) 40 3 0) 44 3 0) 44 3 = 0 := up_same _ _ _ _
  have k8 : (up (up (up (up (up w1 39 10 (w1 15 0)) 39 8 p) 39 9 an) 39 11 (-1)) 39 12 0) 39 8 = p := by rw [up_slot _ _ _ _ (by omega), up_slot _ _ _ _ (by omega), up_slot _ _ _ _ (by omega), up_same]
  have k9 : (up (up (up (up (up w1 39 10 (w1 15 0)) 39 8 p) 39 9 an) 39 11 (-1)) 39 12 0) 39 9 = an := by rw [up_slot _ _ _ _ (by omega), up_slot _ _ _ _ (by omega), up_same]
  have k10 : (up (up (up (up (up w1 39 10 (w1 15 0)) 39 8 p) 39 9 an) 39 11 (-1)) 39 12 0) 39 10 = w1 15 0 := by rw [up_slot _ _ _ _ (by omega), up_slot _ _ _ _ (by omega), up_slot _ _ _ _ (by omega), up_slot _ _ _ _ (by omega), up_same]
  have k11 : (up (up (up (up (up w1 39 10 (w1 15 0)) 39 8 p) 39 9 an) 39 11 (-1)) 39 12 0) 39 11 = -1 := by rw [up_slot _ _ _ _ (by omega), up_same]
  have k12 : (up (up (up (up (up w1 39 10 (w1 15 0)) 39 8 p) 39 9 an) 39 11 (-1)) 39 12 0) 39 12 = 0 := up_same _ _ _ _
  rw [← e39] at k8 k9 k10 k11 k12
  generalize up (up (up (up (up (up (up w1 39 10 (w1 15 0)) 39 8 p) 39 9 an) 39 11 (-1)) 39 12 0) 40 3 0) 44 3 0 = w2 at F e40 e44 k8 k9 k10 k11 k12 ⊢
  have G : ∀ c, c ≠ 14 → c ≠ 15 → c ≠ 39 → c ≠ 40 → c ≠ 44 → w2 c = w c := fun c h1 h2 h3 h4 h5 => (F c (by simp [h3, h4, h5])).trans (q1 c (by simp [h1, h2]))
  have f14 := F 14 (by simp)
  have f15 := F 15 (by simp)
  have f5 := G 5 (by omega) (by omega) (by omega) (by omega) (by omega)
  have f6 := G 6 (by omega) (by omega) (by omega) (by omega) (by omega)
  have f8 := G 8 (by omega) (by omega) (by omega) (by omega) (by omega)
  have f9 := G 9 (by omega) (by omega) (by omega) (by omega) (by omega)
  refine ⟨⟨G 27 (by omega) (by omega) (by omega) (by omega) (by omega), G 29 (by omega) (by omega) (by omega) (by omega) (by omega), G 31 (by omega) (by omega) (by omega) (by omega) (by omega), rC_fr f5 f6, RO_fr f6 ho4, (congrFun (rC_fr f14 f15) 0).trans e13, RO_fr f15 q2, k8, k9, k10.trans ls.1.symm⟩, k12, k11, ⟨rC_fr f8 f9, RO_fr f9 ho7⟩, e44, by omega, Or.inr ⟨rfl, e40⟩⟩
