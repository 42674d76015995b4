/-! numbers written -/
def p10 : Nat → Int
  | 0 => 1
  | e + 1 => 10 * p10 e
theorem p10_pos (e : Nat) : 1 ≤ p10 e := by
  induction e with
  | zero => exact Int.le_refl 1
  | succ e ih => show 1 ≤ 10 * p10 e; omega
theorem p10_le {a b : Nat} (h : a ≤ b) : p10 a ≤ p10 b := by
  induction b with
  | zero => have : a = 0 := by omega
            subst this; exact Int.le_refl _
  | succ b ih =>
    by_cases e : a = b + 1
    · subst e; exact Int.le_refl _
    · have h1 := ih (by omega)
      have h2 := p10_pos b
      show p10 a ≤ 10 * p10 b
      omega
def dg (m : Int) (e : Nat) : Int := m / p10 e % 10
/-- the last e digits -/
def pad : Nat → Int → List Int
  | 0, _ => []
  | e + 1, m => (48 + dg m e) :: pad e m
/-- e digits, without zeros ahead -/
def dec : Nat → Int → List Int
  | 0, _ => []
  | e + 1, m => if 0 < dg m e ∨ e = 0 then (48 + dg m e) :: pad e m else dec e m
def decS (n : Int) : List Int := if n < 0 then 45 :: dec 9 (-n) else dec 9 n
theorem dg_rng (m : Int) (e : Nat) : 0 ≤ dg m e ∧ dg m e ≤ 9 := by unfold dg; omega
theorem pad_len (e : Nat) (m : Int) : (pad e m).length = e := by
  induction e with
  | zero => rfl
  | succ e ih => show (pad e m).length + 1 = e + 1; omega
theorem dec_len (e : Nat) (m : Int) : (dec e m).length ≤ e := by
  induction e with
  | zero => exact Nat.le_refl 0
  | succ e ih =>
    unfold dec
    split
    · rw [List.length_cons, pad_len]; omega
    · omega
/-- the unit of a place: 1 behind the last -/
def un : Nat → Int
  | 0 => 0
  | e + 1 => p10 e
theorem un_s (e : Nat) : un (e + 1) = p10 e := rfl
theorem un_0 : un 0 = 0 := rfl
theorem un_next (e : Nat) (he : e < 10) : Int.tdiv (wl (un (e + 1))) (wl 10) = un e := by
  have h1 := p10_pos e
  have h2 : p10 e ≤ p10 10 := p10_le (by omega)
  have h3 : p10 10 = 10000000000 := rfl
  rw [un_s, wl_eq (by omega), wl_eq (by omega)]
  cases e with
  | zero => rfl
  | succ e =>
    show Int.tdiv (10 * p10 e) 10 = p10 e
    have := p10_pos e
    rw [Int.tdiv_eq_ediv_of_nonneg (by omega)]
    omega
theorem un_dig {m : Int} {e : Nat} (hm : 0 ≤ m ∧ m < 10000000000) (he : e < 10) : Int.tmod (wl (Int.tdiv (wl m) (wl (un (e + 1))))) (wl 10) = dg m e := by
  have h1 := p10_pos e
  have h2 : p10 e ≤ p10 10 := p10_le (by omega)
  have h3 : p10 10 = 10000000000 := rfl
  rw [un_s, wl_eq (a := p10 e) (by omega), wl_eq (a := m) (by omega), wl_eq (a := 10) (by omega), Int.tdiv_eq_ediv_of_nonneg hm.1]
  have g1 : 0 ≤ m / p10 e := Int.ediv_nonneg hm.1 (by omega)
  have g2 : m / p10 e ≤ m := Int.ediv_le_self _ hm.1
  rw [wl_eq (by omega), Int.tmod_eq_emod_of_nonneg g1]
  rfl
theorem wn_loop {i wd n : Nat} (hi : RI i wd n) {a : Int} (ha : 0 ≤ a ∧ a < n) {size : Int} (hz : 0 ≤ size ∧ size < 10000000000) (m : Nat) : ∀ (e : Nat) (b : Int) (w : WS), e < m → e ≤ 9 → (b = 0 ∨ b = 1) → RO w i wd n → w (i + 2) a.toNat + e ≤ 12 → Ev (f_X6_writeNumber_40 i m a size b (un e) w) (fun v w' => v = 0 ∧ Fr [i + 1, i + 2] w w' ∧ RO w' i wd n ∧ rC w' i wd = vs (rC w i wd) a.toNat (rC w i wd a.toNat ++ (if b = 1 then pad e size else dec e size))) := by
  have h4 := hi.2.2.2.1
  induction m with
  | zero => intro e b w h; omega
  | succ m ih =>
    intro e b w h1 h2 hb ho hl
    rw [f_X6_writeNumber_40_s]
    cases e with
    | zero =>
      rw [un_0]
      refine Ev.neg (by first | omega | (simp (disch := omega) only [wr_eq, wl_eq] <;> omega)) ?_
      refine Ev.ret ⟨rfl, Fr.rf, ho, ?_⟩
      have : (if b = 1 then pad 0 size else dec 0 size) = [] := by split <;> rfl
      rw [this, List.append_nil]
      funext r
      unfold vs
      split
      · next h => rw [h]
      · rfl
    | succ e =>
      have q1 := p10_pos e
      have q2 : p10 e ≤ p10 10 := p10_le (by omega)
      have q3 : p10 10 = 10000000000 := rfl
      have q4 : un (e + 1) = p10 e := rfl
      have hd := dg_rng size e
      have hn := un_next e (by omega)
      have step : ∀ (b' : Int) (w1 : WS), (b' = 0 ∨ b' = 1) → RO w1 i wd n → w1 (i + 2) a.toNat + e ≤ 12 → Ev (f_X6_writeNumber_98 i (fun x0 x1 x2 x3 x => f_X6_writeNumber_40 i m x0 x1 x2 x3 x) a size b' (un (e + 1)) w1) (fun v w' => v = 0 ∧ Fr [i + 1, i + 2] w1 w' ∧ RO w' i wd n ∧ rC w' i wd = vs (rC w1 i wd) a.toNat (rC w1 i wd a.toNat ++ (if b' = 1 then pad e size else dec e size))) := by
        intro b' w1 hb1 ho1 hl1
        unfold f_X6_writeNumber_98
        refine Ev.pos (by first | omega | (simp (disch := omega) only [wr_eq, wl_eq] <;> omega)) ?_
        rw [hn]
        exact ih e b' w1 (by omega) (by omega) hb1 ho1 hl1
      have emit : Ev (f_X6_writeNumber_76 i (fun x0 x1 x2 x3 x => f_X6_writeNumber_40 i m x0 x1 x2 x3 x) a size (un (e + 1)) (dg size e) w) (fun v w' => v = 0 ∧ Fr [i + 1, i + 2] w w' ∧ RO w' i wd n ∧ rC w' i wd = vs (rC w i wd) a.toNat (rC w i wd a.toNat ++ (48 + dg size e) :: pad e size)) := by
        unfold f_X6_writeNumber_76 f_X6_writeNumber_81
        refine Ev.neg (by first | omega | (simp (disch := omega) only [wr_eq, wl_eq] <;> omega)) ?_
        refine Ev.bd (f_add hi ho ha (by omega)) ?_
        rintro v w1 ⟨-, g1, g2, g3⟩
        have gl : ((rC w1 i wd a.toNat).length : Int) = w1 (i + 2) a.toNat := rC_len g2
        have gl0 : ((rC w i wd a.toNat).length : Int) = w (i + 2) a.toNat := rC_len ho
        rw [g3, vs_same, List.length_append, List.length_singleton] at gl
        refine Ev.mono (step 1 w1 (Or.inr rfl) g2 (by omega)) ?_
        rintro v w2 ⟨rfl, k1, k2, k3⟩
        refine ⟨rfl, g1.tr k1, k2, ?_⟩
        rw [k3, g3, vs_same, vs_vs, List.append_assoc]
        rfl
      refine Ev.pos (by first | omega | (simp (disch := omega) only [wr_eq, wl_eq] <;> omega)) ?_; refine Ev.pos (by first | omega | (simp (disch := omega) only [wr_eq, wl_eq] <;> omega)) ?_; refine Ev.pos (by first | omega | (simp (disch := omega) only [wr_eq, wl_eq] <;> omega)) ?_
      rw [un_dig hz (by omega)]
      rcases hb with rfl | rfl
      · refine Ev.pos rfl ?_
        rw [if_neg (by omega : ¬ ((0 : Int) = 1))]
        unfold dec
        by_cases g : 0 < dg size e
        · refine Ev.pos (by first | omega | (simp (disch := omega) only [wr_eq] <;> omega)) ?_
          rw [if_pos (Or.inl g)]
          exact emit
        · refine Ev.neg (by first | omega | (simp (disch := omega) only [wr_eq] <;> omega)) ?_
          by_cases g2 : e = 0
          · subst g2
            refine Ev.pos rfl ?_
            rw [if_pos (Or.inr rfl)]
            exact emit
          · have : p10 1 ≤ p10 e := p10_le (by omega)
            have h10 : p10 1 = 10 := rfl
            refine Ev.neg (by first | omega | (simp (disch := omega) only [wr_eq, wl_eq] <;> omega)) ?_
            rw [if_neg (by omega)]
            unfold f_X6_writeNumber_81
            refine Ev.pos rfl ?_
            refine Ev.mono (step 0 w (Or.inl rfl) ho (by omega)) ?_
            rintro v w2 ⟨rfl, k1, k2, k3⟩
            refine ⟨rfl, k1, k2, ?_⟩
            rw [k3, if_neg (by omega : ¬ ((0 : Int) = 1))]
      · refine Ev.neg (by first | omega | (simp (disch := omega) only [wr_eq] <;> omega)) ?_
        rw [if_pos rfl]
        exact emit
theorem f_writeNumber {i wd n : Nat} (hi : RI i wd n) {w : WS} (ho : RO w i wd n) {a x : Int} (ha : 0 ≤ a ∧ a < n) (hx : -10000000000 < x ∧ x < 10000000000) : Ev (f_X6_writeNumber i a x w) (fun v w' => v = 0 ∧ Fr [i + 1, i + 2] w w' ∧ RO w' i wd n ∧ rC w' i wd = vs (rC w i wd) a.toNat (decS x)) := by
  have h4 := hi.2.2.2.1
  unfold f_X6_writeNumber
  refine Ev.obe (f_clear hi ha) ?_
  have ho1 := RO_clear a.toNat ho
  have hc := rC_clear (i := i) (wd := wd) (w := w) a.toNat
  have hF : Fr [i + 1, i + 2] w (up w (i + 2) a.toNat 0) := Fr.rf.up (by simp)
  have hz : (up w (i + 2) a.toNat 0) (i + 2) a.toNat = 0 := up_same _ _ _ _
  generalize up w (i + 2) a.toNat 0 = w0 at ho1 hc hF hz ⊢
  have hu : un 9 = 100000000 := rfl
  by_cases g : x < 0
  · refine Ev.pos (by first | omega | (simp (disch := omega) only [wr_eq, wl_eq] <;> omega)) ?_
    refine Ev.bd (f_add hi ho1 ha (by omega)) ?_
    rintro v w1 ⟨-, g1, g2, g3⟩
    have gl : ((rC w1 i wd a.toNat).length : Int) = w1 (i + 2) a.toNat := rC_len g2
    rw [g3, vs_same, hc, vs_same] at gl
    have gl : w1 (i + 2) a.toNat = 1 := by rw [← gl]; rfl
    unfold f_X6_writeNumber_18 f_X6_writeNumber_30
    refine Ev.pos (by first | omega | (simp (disch := omega) only [wr_eq, wl_eq] <;> omega)) ?_
    rw [← hu]
    refine Ev.mono (wn_loop hi ha (size := -x) (by omega) FU 9 0 w1 (by unfold FU; omega) (by omega) (Or.inl rfl) g2 (by omega)) ?_
    rintro v w2 ⟨rfl, k1, k2, k3⟩
    refine ⟨rfl, (hF.tr g1).tr k1, k2, ?_⟩
    rw [k3, g3, hc, vs_same, vs_same, vs_vs, vs_vs, if_neg (by omega : ¬ ((0 : Int) = 1))]
    unfold decS
    rw [if_pos g]
    rfl
  · refine Ev.neg (by first | omega | (simp (disch := omega) only [wr_eq, wl_eq] <;> omega)) ?_
    unfold f_X6_writeNumber_18 f_X6_writeNumber_30
    refine Ev.neg (by first | omega | (simp (disch := omega) only [wr_eq, wl_eq] <;> omega)) ?_
    rw [← hu]
    refine Ev.mono (wn_loop hi ha (size := x) (by omega) FU 9 0 w0 (by unfold FU; omega) (by omega) (Or.inl rfl) ho1 (by omega)) ?_
    rintro v w2 ⟨rfl, k1, k2, k3⟩
    refine ⟨rfl, hF.tr k1, k2, ?_⟩
    rw [k3, hc, vs_same, vs_vs, if_neg (by omega : ¬ ((0 : Int) = 1))]
    unfold decS
    rw [if_neg g]
    rfl
