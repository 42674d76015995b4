/-! the reference's run as a whole -/
def RnR (P : PV) (w : WS) (R : RR) (v : Int) (w' : WS) : Prop := FX LGm SGm w w' ∧ v = R.1 ∧ w' 85 61 = R.2.1 ∧ w' 85 62 = R.2.2.1 ∧ w' 85 60 = R.2.2.2.1 ∧ RRn P w' R.2.2.2.2.2.1 R.2.2.2.2.1 ∧ w' 125 = R.2.2.2.2.2.2.1 ∧ w' 126 = R.2.2.2.2.2.2.2
theorem aRun_s (P : PV) (n : Nat) (p : Int) (D : List Frm) (V : Nat → List Int) (dn fl : Nat → Int) (la mkk : Int) : aRun P (n + 1) p D V dn fl la mkk = if (aOut P p V D fl).1 = 1 then (100, 0, p, mkk + 1, (aOut P p V D fl).2.2.1, (aOut P p V D fl).2.2.2.1, bump dn p.toNat, (aOut P p V D fl).2.2.2.2) else if (aOut P p V D fl).1 = 2 then (120, (aOut P p V D fl).2.1, p, mkk + 1, (aOut P p V D fl).2.2.1, (aOut P p V D fl).2.2.2.1, bump dn p.toNat, (aOut P p V D fl).2.2.2.2) else aRun P n (aOut P p V D fl).2.1 (aOut P p V D fl).2.2.1 (aOut P p V D fl).2.2.2.1 (bump dn p.toNat) (aOut P p V D fl).2.2.2.2 p (mkk + 1) := rfl
theorem m_run_loop {P : PV} (hP : POK P) (most : Int) (hm : 0 ≤ most ∧ most ≤ 1000) (n : Nat) : ∀ (m : Nat) (p : Int) (w : WS) (V : Nat → List Int) (D : List Frm), n + 1 < m → w 85 60 + n = most → 0 ≤ w 85 60 → (0 ≤ p ∧ p < sC P) → w 85 70 = p → RRn P w V D → w 85 61 = 0 → w 85 71 = 0 → Ev (f_X9_run_120 m most w) (RnR P w (aRun P n p D V (w 125) (w 126) (w 85 62) (w 85 60))) := by
  have hc := hP.2.2.2.2.2.2.1
  induction n with
  | zero =>
    intro m p w V D h1 h2 h0 hp h70 h h61 h71
    obtain ⟨m, rfl⟩ : ∃ j, m = j + 1 := ⟨m - 1, by omega⟩
    rw [f_X9_run_120_s]
    refine Ev.neg (by first | (simp (disch := omega) only [wr_eq] <;> omega) | omega) ?_
    unfold f_X9_run_153
    rw [h61, h71]
    refine Ev.neg (by decide) (Ev.pos rfl (Ev.ret ⟨FX.rf, rfl, h61, rfl, rfl, h, rfl, rfl⟩))
  | succ n ih =>
    intro m p w V D h1 h2 h0 hp h70 h h61 h71
    obtain ⟨m, rfl⟩ : ∃ j, m = j + 1 := ⟨m - 1, by omega⟩
    rw [f_X9_run_120_s, h61, h71, h70]
    refine Ev.pos (by first | (simp (disch := omega) only [wr_eq] <;> omega) | omega) ?_
    refine Ev.pos rfl (Ev.pos rfl ?_)
    refine Ev.bd (m_doStatement hP h hp h71 h61) ?_
    rintro v w1 ⟨q1, q2, q3, q4, q5, q6, q7⟩
    rw [aRun_s]
    generalize aOut P p V D (w 126) = R at *
    have stop : ∀ (r : Int), (R.1 = 1 ∧ r = 100 ∨ R.1 = 2 ∧ r = 120) → Ev (f_X9_run_120 m most w1) (fun v w' => w' = w1 ∧ v = r) := by
      intro r hr
      obtain ⟨k, rfl⟩ : ∃ j, m = j + 1 := ⟨m - 1, by omega⟩
      have fin : Ev (f_X9_run_153 w1) (fun v w' => w' = w1 ∧ v = r) := by
        unfold f_X9_run_153
        unfold RsR at q2
        rcases hr with ⟨e, rfl⟩ | ⟨e, rfl⟩
        · have q2 : w1 85 61 = 0 ∧ w1 85 71 = 1 := by
            rcases q2 with q | q | q
            · exact absurd q.1 (by omega)
            · exact q.2
            · exact absurd q.1 (by omega)
          rw [q2.1, q2.2]
          exact Ev.neg (by decide) (Ev.neg (by decide) (Ev.ret ⟨rfl, rfl⟩))
        · have q2 : w1 85 61 = R.2.1 ∧ (0 < R.2.1 ∧ R.2.1 ≤ 8) := by
            rcases q2 with q | q | q
            · exact absurd q.1 (by omega)
            · exact absurd q.1 (by omega)
            · exact ⟨q.2.1, q.2.2.1⟩
          rw [q2.1]
          refine Ev.pos (by first | (simp (disch := omega) only [wr_eq] <;> omega) | omega) ?_
          exact Ev.ret ⟨rfl, rfl⟩
      rw [f_X9_run_120_s]
      refine Ev.ite (fun _ => ?_) (fun _ => fin)
      refine Ev.ite (fun c => ?_) (fun _ => fin)
      refine Ev.ite (fun c' => ?_) (fun _ => fin)
      exfalso
      unfold RsR at q2
      rcases hr with ⟨e, -⟩ | ⟨e, -⟩
      · rcases q2 with q | q | q
        · exact absurd q.1 (by omega)
        · rw [q.2.2] at c; exact absurd c (by decide)
        · exact absurd q.1 (by omega)
      · rcases q2 with q | q | q
        · exact absurd q.1 (by omega)
        · exact absurd q.1 (by omega)
        · have z := q.2.2.1
          rw [q.2.1, wr_eq (by omega)] at c'
          omega
    by_cases c1 : R.1 = 1
    · rw [if_pos c1]
      refine (stop 100 (Or.inl ⟨c1, rfl⟩)).mono ?_
      rintro v w' ⟨rfl, rfl⟩
      have e61 : w' 85 61 = 0 := by
        unfold RsR at q2
        rcases q2 with q | q | q
        · exact absurd q.1 (by omega)
        · exact q.2.1
        · exact absurd q.1 (by omega)
      exact ⟨q1, rfl, e61, q7, q6, q4, q5, q3⟩
    · rw [if_neg c1]
      by_cases c2 : R.1 = 2
      · rw [if_pos c2]
        refine (stop 120 (Or.inr ⟨c2, rfl⟩)).mono ?_
        rintro v w' ⟨rfl, rfl⟩
        have e61 : w' 85 61 = R.2.1 := by
          unfold RsR at q2
          rcases q2 with q | q | q
          · exact absurd q.1 (by omega)
          · exact absurd q.1 (by omega)
          · exact q.2.1
        exact ⟨q1, rfl, e61, q7, q6, q4, q5, q3⟩
      · rw [if_neg c2]
        unfold RsR at q2
        rcases q2 with q | q | q
        · obtain ⟨r1, r2, r3, r4, r5⟩ := q
          have key := ih m R.2.1 w1 R.2.2.2.1 R.2.2.1 (by omega) (by omega) (by omega) r3 r2 q4 r4 r5
          rw [q5, q3, q7, q6] at key
          refine key.mono ?_
          rintro v w' ⟨y1, y2⟩
          exact ⟨q1.tr y1, y2⟩
        · exact absurd q.1 c1
        · exact absurd q.1 c2
theorem f_fails0 {w : WS} (h : w 85 0 = 0) (k : Int) (hk : 0 < k ∧ k < 100) (s : Int) (hs : s = 0 ∨ s = 1) : f_X9_fails s k w = some (s, if s = 0 then w else up w 85 0 k) := by
  unfold f_X9_fails f_X9_fails_16
  rw [h, if_pos (by rfl : wr (0 : Int) = 0)]
  rcases hs with rfl | rfl
  · rw [if_pos (by rfl : wr (0 : Int) = 0), if_neg (by decide : ¬ (0 : Int) < wr 0), if_pos rfl]
  · rw [if_neg (by decide : ¬ wr (1 : Int) = 0), up_same, if_pos (by rw [wr_eq (by omega)]; omega), if_neg (by decide : ¬ (1 : Int) = 0)]
def rgW (w : WS) (a : Int) : WS := up (up (up (up (up (up (ww (ww w 125 0 (fun _ => 0) 40) 126 0 (fun _ => 0) 40) 85 59 1) 85 60 0) 85 61 0) 85 63 0) 85 70 a) 85 71 0
theorem ww2_loop {L : Nat → Int → WS → Option (Int × WS)} {R : Option (Int × WS)} {w0 : WS} {c d : Nat} (hcd : c ≠ d) {n : Nat} (step : ∀ (m k : Nat) (w : WS), k < n → L (m + 1) k w = L m ((k + 1 : Nat) : Int) (up (up w c k 0) d k 0)) (stop : ∀ m : Nat, L (m + 1) n (ww (ww w0 c 0 (fun _ => 0) n) d 0 (fun _ => 0) n) = R) (m : Nat) (hm : n < m) : L m 0 w0 = R := by
  have key : ∀ (m k : Nat), n - k < m → k ≤ n → L m k (ww (ww w0 c 0 (fun _ => 0) k) d 0 (fun _ => 0) k) = R := by
    intro m
    induction m with
    | zero => intro k h; omega
    | succ m ih =>
      intro k h1 h2
      by_cases e : k = n
      · rw [e]; exact stop m
      · rw [step m k _ (by omega), ww_up _ _ _ _ _ _ hcd]
        have e1 := ww_s w0 c 0 (fun _ => 0) k
        rw [Nat.zero_add] at e1
        rw [e1]
        have e2 := ww_s (ww w0 c 0 (fun _ => 0) (k + 1)) d 0 (fun _ => 0) k
        rw [Nat.zero_add] at e2
        rw [e2]
        exact ih (k + 1) (by omega) (by omega)
  have := key m 0 (by omega) (by omega)
  rw [ww_0, ww_0] at this
  exact this
theorem m_go {P : PV} (hP : POK P) {w : WS} {V : Nat → List Int} {first most : Int} (hB : RB P w V) (hf : 0 ≤ first ∧ first < sC P) (hm : 0 ≤ most ∧ most ≤ 1000) (z125 : ∀ k, 40 ≤ k → w 125 k = 0) (z126 : ∀ k, 40 ≤ k → w 126 k = 0) : Ev (f_X9_run_64 FU first most 0 w) (fun v w' => FX (85 :: LGm) (59 :: SGm) w w' ∧ w' 85 59 = 1 ∧ ∃ w0, RnR P w0 (aRun P most.toNat first [] V (fun _ => 0) (fun _ => 0) (w 85 62) 0) v w') := by
  have hl : f_X9_run_64 FU first most 0 w = f_X9_run_120 FU most (rgW w first) := by
    refine ww2_loop (L := fun m k w => f_X9_run_64 m first most k w) (w0 := w) (c := 125) (d := 126) (by omega) (n := 40) (fun m k w hk => ?_) (fun m => ?_) FU (by unfold FU; omega)
    · show f_X9_run_64 (m + 1) first most k w = _
      rw [f_X9_run_64_s]
      simp (disch := omega) only [ixn, Int.toNat_natCast]
      exact (if_pos (by first | (simp (disch := omega) only [wr_eq] <;> omega) | omega)).trans ((if_pos (by first | (simp (disch := omega) only [wr_eq] <;> omega) | omega)).trans ((if_pos (by first | (simp (disch := omega) only [wr_eq] <;> omega) | omega)).trans rfl))
    · show f_X9_run_64 (m + 1) first most ((40 : Nat) : Int) _ = _
      rw [f_X9_run_64_s]
      exact if_neg (by first | (simp (disch := omega) only [wr_eq] <;> omega) | omega)
  rw [hl]
  have F : FX [85, 125, 126] [59, 60, 61, 63, 70, 71] w (rgW w first) := by
    unfold rgW
    have F0 : FX [85, 125, 126] [59, 60, 61, 63, 70, 71] w (ww (ww w 125 0 (fun _ => 0) 40) 126 0 (fun _ => 0) 40) := FX.of (((ww_Fr w 125 0 _ 40).sub (M := [125, 126]) (by simp)).tr ((ww_Fr _ 126 0 _ 40).sub (by simp))) (by simp) (by simp)
    exact (((((F0.put 59 _ (by simp) (by simp)).put 60 _ (by simp) (by simp)).put 61 _ (by simp) (by simp)).put 63 _ (by simp) (by simp)).put 70 _ (by simp) (by simp)).put 71 _ (by simp) (by simp)
  have k71 : (rgW w first) 85 71 = 0 := up_same _ _ _ _
  have k70 : (rgW w first) 85 70 = first := by unfold rgW; rw [up_slot _ _ _ _ (by omega), up_same]
  have k63 : (rgW w first) 85 63 = 0 := by unfold rgW; rw [up_slot _ _ _ _ (by omega), up_slot _ _ _ _ (by omega), up_same]
  have k61 : (rgW w first) 85 61 = 0 := by unfold rgW; rw [up_slot _ _ _ _ (by omega), up_slot _ _ _ _ (by omega), up_slot _ _ _ _ (by omega), up_same]
  have k60 : (rgW w first) 85 60 = 0 := by unfold rgW; rw [up_slot _ _ _ _ (by omega), up_slot _ _ _ _ (by omega), up_slot _ _ _ _ (by omega), up_slot _ _ _ _ (by omega), up_same]
  have k59 : (rgW w first) 85 59 = 1 := by unfold rgW; rw [up_slot _ _ _ _ (by omega), up_slot _ _ _ _ (by omega), up_slot _ _ _ _ (by omega), up_slot _ _ _ _ (by omega), up_slot _ _ _ _ (by omega), up_same]
  have k62 : (rgW w first) 85 62 = w 85 62 := F.2 62 (by simp)
  have r125 : (rgW w first) 125 = fun _ => 0 := by
    unfold rgW
    rw [up_row _ _ _ (by omega), up_row _ _ _ (by omega), up_row _ _ _ (by omega), up_row _ _ _ (by omega), up_row _ _ _ (by omega), up_row _ _ _ (by omega), ww_c _ _ _ _ (by omega)]
    exact ww_all z125
  have r126 : (rgW w first) 126 = fun _ => 0 := by
    unfold rgW
    rw [up_row _ _ _ (by omega), up_row _ _ _ (by omega), up_row _ _ _ (by omega), up_row _ _ _ (by omega), up_row _ _ _ (by omega), up_row _ _ _ (by omega)]
    refine ww_all (fun k hk => ?_)
    rw [ww_c _ _ _ _ (by omega)]
    exact z126 k hk
  generalize rgW w first = w1 at *
  have h1 : RRn P w1 V [] := ⟨hB.oth F (by decide) (by decide) (by decide), k63, by simp, trivial, fun x hx => absurd hx (by simp)⟩
  have key := m_run_loop hP most hm most.toNat FU first w1 V [] (by unfold FU; omega) (by omega) (by omega) hf k70 h1 k61 k71
  rw [r125, r126, k62, k60] at key
  refine key.mono ?_
  rintro v w' q
  refine ⟨(F.sub (by decide) (by decide)).tr (q.1.sub (by decide) (by decide)), ?_, w1, q⟩
  exact (q.1.2 59 (by decide)).trans k59
