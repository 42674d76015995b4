/-! the class's run as a whole -/
theorem ww_all {w : WS} {c n : Nat} (h : ∀ k, n ≤ k → w c k = 0) : (ww w c 0 (fun _ => 0) n) c = fun _ => 0 := by
  funext k
  by_cases q : k < n
  · have := ww_in w c 0 (fun _ => 0) q
    rw [Nat.zero_add] at this
    exact this
  · rw [ww_out _ _ _ (by omega)]
    exact h k (by omega)
theorem ww_Fr (w : WS) (c o : Nat) (g : Nat → Int) (n : Nat) : Fr [c] w (ww w c o g n) := fun i hi => ww_c _ _ _ _ (by simpa using hi)
def goW (w : WS) (a : Int) : WS := ww (ww (up (up (up (up (up w 76 10 1) 76 9 a) 76 11 0) 76 13 0) 76 14 0) 80 0 (fun _ => 0) 40) 82 0 (fun _ => 0) 40
theorem c_go {P : PV} (hP : POK P) {w : WS} {V : Nat → List Int} {first most an : Int} (han : an = 0 ∨ an = 1) (h1 : pvC w an = P) (h2 : CO w) (h3 : VC w V) (h4 : VOK V) (hf : 0 ≤ first ∧ first < sC P) (hm : 0 ≤ most ∧ most ≤ 1000) (z80 : ∀ k, 40 ≤ k → w 80 k = 0) (z82 : ∀ k, 40 ≤ k → w 82 k = 0) : Ev (f_X7_go first most an w) (fun v w' => RnC P (goW w an) (aRun P most.toNat first [] V (fun _ => 0) (fun _ => 0) (w 76 12) 0) v w' ∧ Fr [76, 80, 82] w (goW w an) ∧ (goW w an) 76 10 = 1) := by
  unfold f_X7_go
  rw [if_pos han]
  refine Ev.obe (f_clearAll (i := 79) (n := 40) rfl (by omega)) ?_
  refine Ev.obe (f_clearAll (i := 81) (n := 40) rfl (by omega)) ?_
  show Ev (f_X7_go_45 FU most first 0 (goW w an)) _
  have eg : goW w an = ww (ww (up (up (up (up (up w 76 10 1) 76 9 an) 76 11 0) 76 13 0) 76 14 0) 80 0 (fun _ => 0) 40) 82 0 (fun _ => 0) 40 := rfl
  have F : Fr [76, 80, 82] w (goW w an) := by
    rw [eg]
    exact ((((((Fr.rf.up (by simp)).up (by simp)).up (by simp)).up (by simp)).up (by simp)).tr ((ww_Fr _ 80 0 _ 40).sub (by simp))).tr ((ww_Fr _ 82 0 _ 40).sub (by simp))
  have e76 : ∀ k, (goW w an) 76 k = (up (up (up (up (up w 76 10 1) 76 9 an) 76 11 0) 76 13 0) 76 14 0) 76 k := fun k => by rw [eg, ww_c _ _ _ _ (by omega), ww_c _ _ _ _ (by omega)]
  have k9 : (goW w an) 76 9 = an := by rw [e76, up_slot _ _ _ _ (by omega), up_slot _ _ _ _ (by omega), up_slot _ _ _ _ (by omega), up_same]
  have k10 : (goW w an) 76 10 = 1 := by rw [e76, up_slot _ _ _ _ (by omega), up_slot _ _ _ _ (by omega), up_slot _ _ _ _ (by omega), up_slot _ _ _ _ (by omega), up_same]
  have k11 : (goW w an) 76 11 = 0 := by rw [e76, up_slot _ _ _ _ (by omega), up_slot _ _ _ _ (by omega), up_same]
  have k13 : (goW w an) 76 13 = 0 := by rw [e76, up_slot _ _ _ _ (by omega), up_same]
  have k14 : (goW w an) 76 14 = 0 := by rw [e76, up_same]
  have k12 : (goW w an) 76 12 = w 76 12 := by rw [e76, up_slot _ _ _ _ (by omega), up_slot _ _ _ _ (by omega), up_slot _ _ _ _ (by omega), up_slot _ _ _ _ (by omega), up_slot _ _ _ _ (by omega)]
  have r80 : (goW w an) 80 = fun _ => 0 := by
    rw [eg, ww_c _ _ _ _ (by omega)]
    refine ww_all (fun k hk => ?_)
    rw [up_row _ _ _ (by omega), up_row _ _ _ (by omega), up_row _ _ _ (by omega), up_row _ _ _ (by omega), up_row _ _ _ (by omega)]
    exact z80 k hk
  have r82 : (goW w an) 82 = fun _ => 0 := by
    rw [eg]
    refine ww_all (fun k hk => ?_)
    rw [ww_c _ _ _ _ (by omega), up_row _ _ _ (by omega), up_row _ _ _ (by omega), up_row _ _ _ (by omega), up_row _ _ _ (by omega), up_row _ _ _ (by omega)]
    exact z82 k hk
  generalize goW w an = w1 at *
  have C : CRn P w1 V [] := by
    refine ⟨⟨?_, ⟨RO_fr (F 6 (by simp)) h2.1, RO_fr (F 15 (by simp)) h2.2.1, RO_fr (F 18 (by simp)) h2.2.2.1, RO_fr (F 21 (by simp)) h2.2.2.2.1, RO_fr (F 24 (by simp)) h2.2.2.2.2⟩, h3.fr (F 8 (by simp)) (F 9 (by simp)), h4⟩, k14, by simp, trivial, fun x hx => absurd hx (by simp)⟩
    rw [k9, pvC.fr F (by decide)]
    exact h1
  have key := c_go_loop hP most.toNat (by omega) most.toNat FU 0 first w1 V [] (by unfold FU; omega) (by omega) hf C k11
  rw [r80, r82, k12, k13] at key
  have em : ((most.toNat : Nat) : Int) = most := by omega
  rw [em] at key
  exact key.mono (fun v w' q => ⟨q, F, k10⟩)
