/-! Cells and Pile -/
theorem ln {w : WS} {i wd n z : Nat} (hz : i + 2 = z) (k : RO w i wd n) (r : Nat) : ((rC w i wd r).length : Int) = w z r ∧ 0 ≤ w z r ∧ w z r ≤ wd := by
  subst hz
  exact ⟨rC_len k, (k r).1⟩
theorem f_get {i n : Nat} (hn : alen (i + 1) = n) (h0 : n ≤ 10000) {w : WS} {x : Int} (hx : 0 ≤ x ∧ x < n) : f_X1_get i x w = some (w (i + 1) x.toNat, w) := by
  refine Ev.toEq ?_
  unfold f_X1_get
  rw [hn]
  refine Ev.neg (by first | omega | (simp (disch := omega) only [wr_eq] <;> omega)) ?_; refine Ev.pos (by first | omega | (simp (disch := omega) only [wr_eq] <;> omega)) ?_; refine Ev.pos (by first | omega | (simp (disch := omega) only [wr_eq] <;> omega)) ?_
  rw [wr_eq (by omega)]
  exact Ev.ret ⟨rfl, rfl⟩
theorem f_put {i n : Nat} (hn : alen (i + 1) = n) (h0 : n ≤ 10000) {w : WS} {x v : Int} (hx : 0 ≤ x ∧ x < n) : f_X1_put i x v w = some (0, up w (i + 1) x.toNat v) := by
  refine Ev.toEq ?_
  unfold f_X1_put
  rw [hn]
  refine Ev.neg (by first | omega | (simp (disch := omega) only [wr_eq] <;> omega)) ?_; refine Ev.pos (by first | omega | (simp (disch := omega) only [wr_eq] <;> omega)) ?_; refine Ev.pos (by first | omega | (simp (disch := omega) only [wr_eq] <;> omega)) ?_
  rw [wr_eq (by omega)]
  exact Ev.ret ⟨rfl, rfl⟩
theorem f_increase {i n : Nat} (hn : alen (i + 1) = n) (h0 : n ≤ 10000) {w : WS} {x : Int} (hx : 0 ≤ x ∧ x < n) : f_X1_increase i x w = some (0, up w (i + 1) x.toNat (w (i + 1) x.toNat + 1)) := by
  unfold f_X1_increase
  rw [f_get hn h0 hx, ob_some, f_put hn h0 hx, ob_some]
def sumF (a : Nat → Int) : Nat → Int
  | 0 => 0
  | n + 1 => sumF a n + a n
theorem sum_loop {i n : Nat} (hn : alen (i + 1) = n) (h0 : n ≤ 10000) {w : WS} (m : Nat) : ∀ k : Nat, n - k < m → k ≤ n → f_X1_sum_4 i m n (sumF (w (i + 1)) k) k w = some (sumF (w (i + 1)) n, w) := by
  induction m with
  | zero => intro k h; omega
  | succ m ih =>
    intro k g1 g2
    refine Ev.toEq ?_
    rw [f_X1_sum_4_s]
    by_cases e : k = n
    · subst e
      refine Ev.neg (by first | omega | (simp (disch := omega) only [wr_eq] <;> omega)) ?_
      exact Ev.ret ⟨rfl, rfl⟩
    · refine Ev.pos (by first | omega | (simp (disch := omega) only [wr_eq] <;> omega)) ?_
      refine Ev.obe (f_get hn h0 (by omega)) ?_
      have ek : ((k : Int) + 1) = ((k + 1 : Nat) : Int) := by omega
      rw [ek, Int.toNat_natCast]
      exact Ev.eq (ih (k + 1) (by omega) (by omega)) ⟨rfl, rfl⟩
theorem f_sum {i n : Nat} (hn : alen (i + 1) = n) (h0 : n ≤ 10000) {w : WS} : f_X1_sum i n w = some (sumF (w (i + 1)) n, w) := by
  unfold f_X1_sum
  exact sum_loop hn h0 FU 0 (by unfold FU; omega) (by omega)
/-- a row's cells written one after the other -/
def ww (w : WS) (c o : Nat) (g : Nat → Int) (n : Nat) : WS := fun a x => if a = c ∧ o ≤ x ∧ x < o + n then g (x - o) else w a x
theorem ww_0 (w : WS) (c o : Nat) (g : Nat → Int) : ww w c o g 0 = w := by
  funext a x
  unfold ww
  rw [if_neg (by omega)]
theorem ww_s (w : WS) (c o : Nat) (g : Nat → Int) (n : Nat) : up (ww w c o g n) c (o + n) (g n) = ww w c o g (n + 1) := by
  funext a x
  unfold up ww
  by_cases h1 : a = c
  · by_cases h2 : x = o + n
    · rw [if_pos ⟨h1, h2⟩, if_pos (by omega), h2, Nat.add_sub_cancel_left]
    · rw [if_neg (by omega)]
      by_cases h3 : o ≤ x ∧ x < o + n
      · rw [if_pos (by omega), if_pos (by omega)]
      · rw [if_neg (by omega), if_neg (by omega)]
  · rw [if_neg (by omega), if_neg (by omega), if_neg (by omega)]
theorem ww_c (w : WS) {c a : Nat} (o : Nat) (g : Nat → Int) (n : Nat) (h : a ≠ c) : ww w c o g n a = w a := by
  funext x
  unfold ww
  rw [if_neg (by omega)]
theorem ww_out (w : WS) (c : Nat) {o x n : Nat} (g : Nat → Int) (h : x < o ∨ o + n ≤ x) : ww w c o g n c x = w c x := by
  unfold ww
  rw [if_neg (by omega)]
theorem ww_in (w : WS) (c o : Nat) {k n : Nat} (g : Nat → Int) (h : k < n) : ww w c o g n c (o + k) = g k := by
  unfold ww
  rw [if_pos (by omega), Nat.add_sub_cancel_left]
theorem ww_congr {w : WS} {c o n : Nat} {g h : Nat → Int} (e : ∀ k, k < n → g k = h k) : ww w c o g n = ww w c o h n := by
  funext a x
  unfold ww
  split
  · exact e _ (by omega)
  · rfl
/-- a loop that writes a row's cells one after the other -/
theorem ww_loop {L : Nat → Int → WS → Option (Int × WS)} {R : Option (Int × WS)} {w0 : WS} {c o : Nat} {g : Nat → Int} {n : Nat} (step : ∀ (m k : Nat), k < n → L (m + 1) k (ww w0 c o g k) = L m ((k + 1 : Nat) : Int) (up (ww w0 c o g k) c (o + k) (g k))) (stop : ∀ m : Nat, L (m + 1) n (ww w0 c o g n) = R) (m : Nat) (hm : n < m) : L m 0 w0 = R := by
  have key : ∀ (m k : Nat), n - k < m → k ≤ n → L m k (ww w0 c o g k) = R := by
    intro m
    induction m with
    | zero => intro k h; omega
    | succ m ih =>
      intro k h1 h2
      by_cases e : k = n
      · subst e
        exact stop m
      · rw [step m k (by omega), ww_s]
        exact ih (k + 1) (by omega) (by omega)
  have := key m 0 (by omega) (by omega)
  rw [ww_0] at this
  exact this
theorem f_clearAll {i n : Nat} (hn : alen (i + 1) = n) (h0 : n ≤ 10000) {w : WS} : f_X1_clearAll i w = some (0, ww w (i + 1) 0 (fun _ => 0) n) := by
  unfold f_X1_clearAll
  refine ww_loop (L := fun m k w => f_X1_clearAll_2 i m k w) (c := i + 1) (o := 0) (g := fun _ => 0) (n := n) (fun m k hk => ?_) (fun m => ?_) FU (by unfold FU; omega)
  · show f_X1_clearAll_2 i (m + 1) k _ = _
    rw [f_X1_clearAll_2_s, hn, wr_eq (by omega), wr_eq (by omega), if_pos (by omega), if_pos (by omega), Nat.zero_add]
    rfl
  · show f_X1_clearAll_2 i (m + 1) n _ = _
    rw [f_X1_clearAll_2_s, hn, wr_eq (by omega), if_neg (by omega)]
theorem f_first {i n : Nat} (hn : alen (i + 1) = n) (h0 : n ≤ 10000) {w : WS} {x : Int} (hx : 0 ≤ x ∧ x < n) : f_X3_first i x w = some (w (i + 1) x.toNat, w) := by
  refine Ev.toEq ?_
  unfold f_X3_first
  rw [hn]
  refine Ev.neg (by first | omega | (simp (disch := omega) only [wr_eq] <;> omega)) ?_; refine Ev.pos (by first | omega | (simp (disch := omega) only [wr_eq] <;> omega)) ?_; refine Ev.pos (by first | omega | (simp (disch := omega) only [wr_eq] <;> omega)) ?_
  rw [wr_eq (by omega)]
  exact Ev.ret ⟨rfl, rfl⟩
theorem f_second {i n : Nat} (hn : alen (i + 2) = n) (h0 : n ≤ 10000) {w : WS} {x : Int} (hx : 0 ≤ x ∧ x < n) : f_X3_second i x w = some (w (i + 2) x.toNat, w) := by
  refine Ev.toEq ?_
  unfold f_X3_second
  rw [hn]
  refine Ev.neg (by first | omega | (simp (disch := omega) only [wr_eq] <;> omega)) ?_; refine Ev.pos (by first | omega | (simp (disch := omega) only [wr_eq] <;> omega)) ?_; refine Ev.pos (by first | omega | (simp (disch := omega) only [wr_eq] <;> omega)) ?_
  rw [wr_eq (by omega)]
  exact Ev.ret ⟨rfl, rfl⟩
theorem f_third {i n : Nat} (hn : alen (i + 3) = n) (h0 : n ≤ 10000) {w : WS} {x : Int} (hx : 0 ≤ x ∧ x < n) : f_X3_third i x w = some (w (i + 3) x.toNat, w) := by
  refine Ev.toEq ?_
  unfold f_X3_third
  rw [hn]
  refine Ev.neg (by first | omega | (simp (disch := omega) only [wr_eq] <;> omega)) ?_; refine Ev.pos (by first | omega | (simp (disch := omega) only [wr_eq] <;> omega)) ?_; refine Ev.pos (by first | omega | (simp (disch := omega) only [wr_eq] <;> omega)) ?_
  rw [wr_eq (by omega)]
  exact Ev.ret ⟨rfl, rfl⟩
/-- a pile's world with one entry more -/
def psh (w : WS) (i : Nat) (a b c : Int) : WS := up (up (up (up w (i + 1) (w i 3).toNat a) (i + 2) (w i 3).toNat b) (i + 3) (w i 3).toNat c) i 3 (w i 3 + 1)
theorem f_push {i n : Nat} (h1 : alen (i + 1) = n) (h2 : alen (i + 2) = n) (h3 : alen (i + 3) = n) (h0 : n ≤ 10000) {w : WS} (hx : 0 ≤ w i 3 ∧ w i 3 < n) (a b c : Int) : f_X3_push i a b c w = some (0, psh w i a b c) := by
  have e1 : ∀ a k v, k ≠ i → (up a k (w i 3).toNat v) i 3 = a i 3 := fun a k v h => by rw [up_row a _ _ (fun e => h e.symm)]
  refine Ev.toEq ?_
  unfold f_X3_push
  rw [h1, h2, h3]
  have e0 : wr (w i 3) = w i 3 := wr_eq (by omega)
  rw [e0]
  simp only [e1 _ (i + 1) _ (by omega), e1 _ (i + 2) _ (by omega), e1 _ (i + 3) _ (by omega), e0]
  refine Ev.neg (by first | omega | (simp (disch := omega) only [wr_eq] <;> omega)) ?_; refine Ev.pos (by first | omega | (simp (disch := omega) only [wr_eq] <;> omega)) ?_; refine Ev.pos (by first | omega | (simp (disch := omega) only [wr_eq] <;> omega)) ?_; refine Ev.pos (by first | omega | (simp (disch := omega) only [wr_eq] <;> omega)) ?_; refine Ev.pos (by first | omega | (simp (disch := omega) only [wr_eq] <;> omega)) ?_; refine Ev.pos (by first | omega | (simp (disch := omega) only [wr_eq] <;> omega)) ?_; refine Ev.pos (by first | omega | (simp (disch := omega) only [wr_eq] <;> omega)) ?_
  exact Ev.ret ⟨rfl, rfl⟩
theorem psh_count (w : WS) (i : Nat) (a b c : Int) : psh w i a b c i 3 = w i 3 + 1 := up_same _ _ _ _
theorem psh_old (w : WS) (i : Nat) (a b c : Int) {k : Nat} (h : (k : Int) < w i 3) : psh w i a b c (i + 1) k = w (i + 1) k ∧ psh w i a b c (i + 2) k = w (i + 2) k ∧ psh w i a b c (i + 3) k = w (i + 3) k := by
  unfold psh
  have hk : k ≠ (w i 3).toNat := by omega
  refine ⟨?_, ?_, ?_⟩
  · rw [up_row _ _ _ (by omega), up_row _ _ _ (by omega), up_row _ _ _ (by omega), up_slot _ _ _ _ hk]
  · rw [up_row _ _ _ (by omega), up_row _ _ _ (by omega), up_slot _ _ _ _ hk, up_row _ _ _ (by omega)]
  · rw [up_row _ _ _ (by omega), up_slot _ _ _ _ hk, up_row _ _ _ (by omega), up_row _ _ _ (by omega)]
theorem psh_new (w : WS) (i : Nat) (a b c : Int) : psh w i a b c (i + 1) (w i 3).toNat = a ∧ psh w i a b c (i + 2) (w i 3).toNat = b ∧ psh w i a b c (i + 3) (w i 3).toNat = c := by
  unfold psh
  refine ⟨?_, ?_, ?_⟩
  · rw [up_row _ _ _ (by omega), up_row _ _ _ (by omega), up_row _ _ _ (by omega), up_same]
  · rw [up_row _ _ _ (by omega), up_row _ _ _ (by omega), up_same]
  · rw [up_row _ _ _ (by omega), up_same]
theorem psh_fr (w : WS) (i : Nat) (a b c : Int) : Fr [i, i + 1, i + 2, i + 3] w (psh w i a b c) := (((Fr.rf.up (by simp)).up (by simp)).up (by simp)).up (by simp)
/-! rows of the reference -/
def rM (w : WS) (s z st r : Nat) : List Int := sg (w s) (r * st) (w z r).toNat
def RM (w : WS) (z st n : Nat) : Prop := ∀ r, (0 ≤ w z r ∧ w z r ≤ st) ∧ (n ≤ r → w z r = 0)
theorem rM_len {w : WS} {s z st n r : Nat} (k : RM w z st n) : ((rM w s z st r).length : Int) = w z r := by
  rw [rM, sg_len]
  have := (k r).1
  omega
theorem rM_fr {w w' : WS} {s z st : Nat} (h1 : w' s = w s) (h2 : w' z = w z) : rM w' s z st = rM w s z st := by
  funext r
  unfold rM
  rw [h1, h2]
theorem RM_fr {w w' : WS} {z st n : Nat} (h : w' z = w z) (k : RM w z st n) : RM w' z st n := fun r => by
  rw [h]
  exact k r
theorem rM_set {w w' : WS} {s z st n a : Nat} (ho : RM w z st n) (L : List Int) (hL : L.length ≤ st) (h1 : ∀ x, x < a * st ∨ a * st + st ≤ x → w' s x = w s x) (h2 : sg (w' s) (a * st) L.length = L) (h3 : ∀ r, w' z r = if r = a then (L.length : Int) else w z r) : rM w' s z st = vs (rM w s z st) a L := by
  funext r
  unfold rM vs
  have hr := (ho r).1
  by_cases e : r = a
  · subst e
    rw [if_pos rfl, h3, if_pos rfl, Int.toNat_natCast, h2]
  · rw [if_neg e, h3, if_neg e]
    refine sg_congr (fun k hk => h1 _ ?_)
    rcases Nat.lt_or_gt_of_ne e with g | g
    · have : (r + 1) * st ≤ a * st := Nat.mul_le_mul_right st g
      rw [Nat.add_mul, Nat.one_mul] at this
      omega
    · have : (a + 1) * st ≤ r * st := Nat.mul_le_mul_right st g
      rw [Nat.add_mul, Nat.one_mul] at this
      omega
theorem RM_set {w w' : WS} {z st n a : Nat} (ho : RM w z st n) (ha : a < n) (c : Nat) (hc : c ≤ st) (h3 : ∀ r, w' z r = if r = a then (c : Int) else w z r) : RM w' z st n := fun r => by
  have hr := ho r
  rw [h3]
  by_cases e : r = a
  · subst e
    rw [if_pos rfl]
    omega
  · rw [if_neg e]
    exact hr
theorem sg_ww (w : WS) (c o : Nat) (g : Nat → Int) (n : Nat) : sg (ww w c o g n c) o n = (List.range n).map g := by
  unfold sg
  exact List.map_congr_left (fun k hk => ww_in w c o g (List.mem_range.mp hk))
theorem gt_rM {w : WS} {s z st n r : Nat} (k : RM w z st n) {y : Int} (h : 0 ≤ y ∧ y < w z r) : gt (rM w s z st r) y = w s (r * st + y.toNat) := gt_sg (by have := (k r).1; omega)
theorem f_in {a b c : Int} {w : WS} (h1 : -9223372036854775808 ≤ a ∧ a < 9223372036854775808) (h2 : -9223372036854775808 ≤ b ∧ b < 9223372036854775808) (h3 : -9223372036854775808 ≤ c ∧ c < 9223372036854775808) : f_X9_in a b c w = some (if b ≤ a ∧ a ≤ c then 1 else 0, w) := by
  unfold f_X9_in
  rw [wl_eq h1, wl_eq h2, wl_eq h3]
  by_cases g1 : a < b
  · rw [if_pos g1, if_neg (by omega)]
  · rw [if_neg g1]
    by_cases g2 : c < a
    · rw [if_pos g2, if_neg (by omega)]
    · rw [if_neg g2, if_pos (by omega)]
