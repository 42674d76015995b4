/-! floats are kept as their bits, as whole numbers -/
def fB (a : Int) : UInt32 := UInt32.ofNat a.toNat
def dB (a : Int) : UInt64 := UInt64.ofNat a.toNat
def i2fI (a : Int) : Int := ((FP.i2f (Int32.ofInt a)).toNat : Int)
def i2dI (a : Int) : Int := ((FP.i2d (Int32.ofInt a)).toNat : Int)
def fdI (a b : Int) : Int := ((FP.fdiv (fB a) (fB b)).toNat : Int)
def ddI (a b : Int) : Int := ((FP.ddiv (dB a) (dB b)).toNat : Int)
def f2dI (a : Int) : Int := ((FP.f2d (fB a)).toNat : Int)
def okF (a : Int) : Bool := !FP.fIsNaN (fB a)
def okD (a : Int) : Bool := !FP.dIsNaN (dB a)
theorem fB_n (x : UInt32) : fB (x.toNat : Int) = x := by
  unfold fB
  rw [Int.toNat_natCast]
  exact UInt32.ofNat_toNat
theorem dB_n (x : UInt64) : dB (x.toNat : Int) = x := by
  unfold dB
  rw [Int.toNat_natCast]
  exact UInt64.ofNat_toNat
theorem i32_ne {a : Int} (h : ¬ wr a = 0) : Int32.ofInt a ≠ 0 := by
  intro e
  apply h
  have e2 := congrArg Int32.toInt e
  rw [Int32.toInt_ofInt] at e2
  exact e2
theorem okF_fd (a : Int) {b : Int} (h : ¬ wr b = 0) : okF (fdI (i2fI a) (i2fI b)) = true := by
  unfold okF fdI i2fI
  rw [fB_n, fB_n, fB_n]
  have e : FP.fIsNaN (FP.fdiv (FP.i2f (Int32.ofInt a)) (FP.i2f (Int32.ofInt b))) = false := by
    refine FP.Core.fdiv_out ?_ (FP.Core.i2f_fin _) ?_
    · have := FP.Core.i2f_fin (Int32.ofInt a)
      rw [FP.Core.notNaN_iff32]
      exact this.ne_nan
    · rw [FP.Core.zero_bits232]
      exact FP.Core.i2f_ne_zero (i32_ne h)
  rw [e]
  rfl
theorem okD_dd (a : Int) {b : Int} (h : ¬ wr b = 0) : okD (ddI (i2dI a) (i2dI b)) = true := by
  unfold okD ddI i2dI
  rw [dB_n, dB_n, dB_n]
  have e : FP.dIsNaN (FP.ddiv (FP.i2d (Int32.ofInt a)) (FP.i2d (Int32.ofInt b))) = false := by
    refine FP.Core.ddiv_out ?_ (FP.Core.i2d_fin _) ?_
    · have := FP.Core.i2d_fin (Int32.ofInt a)
      rw [FP.Core.notNaN_iff]
      exact this.ne_nan
    · rw [FP.Core.zero_bits2]
      exact FP.Core.i2d_ne_zero (i32_ne h)
  rw [e]
  rfl
theorem okD_f2d (a : Int) : okD (f2dI a) = okF a := by
  unfold okD f2dI okF
  rw [dB_n, FP.f2d_nan]
theorem f2dI_nn (a : Int) : 0 ≤ f2dI a := by unfold f2dI; omega
def f_X8_failShare  (w : WS) : Option (Nat × Int × WS) := ox (f_X8_needRun w) fun _ w1 => ob (f_X1_sum 81 40 w1) fun r2 w2 => if wr (w2 76 13) = 0 then some (0, 0, w2) else if okF (fdI (i2fI r2) (i2fI (w2 76 13))) = true then some (0, (fdI (i2fI r2) (i2fI (w2 76 13))), w2) else none
def f_X8_meanSize_6   (n0 : Nat) (a1 a2 a3 : Int) (w : WS) : Option (Nat × Int × WS) := match n0 with
  | 0 => none
  | n + 1 => if wr a3 < wr 26 then (ob (f_X6_length 7 a3 w) fun r1 w1 => if 0 < wr r1 then f_X8_meanSize_6 n (a1 + r1) (a2 + 1) (a3 + 1) w1 else f_X8_meanSize_6 n (a1 + r1) (a2 + 0) (a3 + 1) w1) else if wr a2 = 0 then some (6, 0, w) else if okD (ddI (i2dI a1) (i2dI a2)) = true then some (0, (ddI (i2dI a1) (i2dI a2)), w) else none
theorem f_X8_meanSize_6_s   (n : Nat) (a1 a2 a3 : Int) (w : WS) : f_X8_meanSize_6   (n + 1) a1 a2 a3 w = if wr a3 < wr 26 then (ob (f_X6_length 7 a3 w) fun r1 w1 => if 0 < wr r1 then f_X8_meanSize_6 n (a1 + r1) (a2 + 1) (a3 + 1) w1 else f_X8_meanSize_6 n (a1 + r1) (a2 + 0) (a3 + 1) w1) else if wr a2 = 0 then some (6, 0, w) else if okD (ddI (i2dI a1) (i2dI a2)) = true then some (0, (ddI (i2dI a1) (i2dI a2)), w) else none := rfl
def f_X8_meanSize  (w : WS) : Option (Nat × Int × WS) := f_X8_meanSize_6 FU 0 0 0 w
def f_X9_failShare_18   (n0 : Nat) (a1 a2 : Int) (w : WS) : Option (Int × WS) := match n0 with
  | 0 => none
  | n + 1 => if wr a2 < wr 40 then (if 0 ≤ wr a2 ∧ wr a2 < 40 then f_X9_failShare_18 n (a1 + (w 126 (wr a2).toNat)) (a2 + 1) w else none) else if okF (fdI (i2fI a1) (i2fI (w 85 60))) = true then some ((fdI (i2fI a1) (i2fI (w 85 60))), w) else none
theorem f_X9_failShare_18_s   (n : Nat) (a1 a2 : Int) (w : WS) : f_X9_failShare_18   (n + 1) a1 a2 w = if wr a2 < wr 40 then (if 0 ≤ wr a2 ∧ wr a2 < 40 then f_X9_failShare_18 n (a1 + (w 126 (wr a2).toNat)) (a2 + 1) w else none) else if okF (fdI (i2fI a1) (i2fI (w 85 60))) = true then some ((fdI (i2fI a1) (i2fI (w 85 60))), w) else none := rfl
def f_X9_failShare  (w : WS) : Option (Int × WS) := ob (f_X9_noRun (up w 85 0 0)) fun r1 w1 => if wr r1 = 0 then f_X9_failShare_18 FU 0 0 w1 else some (0, w1)
def f_X9_meanSize_59   (a1 a2 s0 : Int) (w : WS) : Option (Int × WS) := ob (f_X9_fails s0 1 w) fun r1 w1 => if wr r1 = 0 then (if okD (ddI (i2dI a1) (i2dI a2)) = true then some ((ddI (i2dI a1) (i2dI a2)), w1) else none) else some (0, w1)
def f_X9_meanSize_11   (n0 : Nat) (a1 a2 a3 : Int) (w : WS) : Option (Int × WS) := match n0 with
  | 0 => none
  | n + 1 => if wr a3 < wr 26 then (if 0 ≤ wr a3 ∧ wr a3 < 26 then if 0 ≤ wr a3 ∧ wr a3 < 26 then if 0 < wr (w 90 (wr a3).toNat) then f_X9_meanSize_11 n (a1 + (w 90 (wr a3).toNat)) (a2 + 1) (a3 + 1) w else f_X9_meanSize_11 n (a1 + (w 90 (wr a3).toNat)) (a2 + 0) (a3 + 1) w else none else none) else if wr a2 = 0 then f_X9_meanSize_59 a1 a2 1 w else f_X9_meanSize_59 a1 a2 0 w
theorem f_X9_meanSize_11_s   (n : Nat) (a1 a2 a3 : Int) (w : WS) : f_X9_meanSize_11   (n + 1) a1 a2 a3 w = if wr a3 < wr 26 then (if 0 ≤ wr a3 ∧ wr a3 < 26 then if 0 ≤ wr a3 ∧ wr a3 < 26 then if 0 < wr (w 90 (wr a3).toNat) then f_X9_meanSize_11 n (a1 + (w 90 (wr a3).toNat)) (a2 + 1) (a3 + 1) w else f_X9_meanSize_11 n (a1 + (w 90 (wr a3).toNat)) (a2 + 0) (a3 + 1) w else none else none) else if wr a2 = 0 then f_X9_meanSize_59 a1 a2 1 w else f_X9_meanSize_59 a1 a2 0 w := rfl
def f_X9_meanSize  (w : WS) : Option (Int × WS) := f_X9_meanSize_11 FU 0 0 0 (up w 85 0 0)
def f_L_failShare  (w : WS) : Option (Int × WS) := oc (f_X8_failShare w) (fun r1 w1 => if okD (f2dI r1) = true then if 0 ≤ wr 0 ∧ wr 0 < 1 then some (0, (up w1 136 (wr 0).toNat (f2dI r1))) else none else none) (fun t w2 => if t = 2 then some (1, w2) else none)
def f_L_meanSize  (w : WS) : Option (Int × WS) := oc (f_X8_meanSize w) (fun r1 w1 => if 0 ≤ wr 0 ∧ wr 0 < 1 then some (0, (up w1 136 (wr 0).toNat r1)) else none) (fun t w2 => if t = 6 then some (1, w2) else none)
