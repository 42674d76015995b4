/-! the pure base: a world is a function of a cell's number and a slot's number; numbers of Java are whole numbers, told apart by their remainders -/
abbrev WS : Type := Nat → Nat → Int
def wr (a : Int) : Int := a.bmod 4294967296
def wl (a : Int) : Int := a.bmod 18446744073709551616
def up (w : WS) (i k : Nat) (v : Int) : WS := fun a b => if a = i ∧ b = k then v else w a b
def nC (a : Int) : Int := a % 65536
def nZ (a : Int) : Int := a % 2
def FU : Nat := 20000000
theorem wr_eq {a : Int} (h : -2147483648 ≤ a ∧ a < 2147483648) : wr a = a := by
  unfold wr
  rw [Int.bmod_def]
  omega
theorem wl_eq {a : Int} (h : -9223372036854775808 ≤ a ∧ a < 9223372036854775808) : wl a = a := by
  unfold wl
  rw [Int.bmod_def]
  omega
theorem wr_rng (a : Int) : -2147483648 ≤ wr a ∧ wr a < 2147483648 := by
  unfold wr
  rw [Int.bmod_def]
  omega
theorem wl_rng (a : Int) : -9223372036854775808 ≤ wl a ∧ wl a < 9223372036854775808 := by
  unfold wl
  rw [Int.bmod_def]
  omega
theorem wr_wr (a : Int) : wr (wr a) = wr a := wr_eq (wr_rng a)
theorem wl_wr (a : Int) : wl (wr a) = wr a := wl_eq (by have := wr_rng a; omega)
theorem up_same (w : WS) (i k : Nat) (v : Int) : up w i k v i k = v := by simp [up]
theorem up_cell (w : WS) {i a : Nat} (k b : Nat) (v : Int) (h : a ≠ i) : up w i k v a b = w a b := by simp [up, h]
theorem up_slot (w : WS) (i a : Nat) {k b : Nat} (v : Int) (h : b ≠ k) : up w i k v a b = w a b := by simp [up, h]
theorem up_row (w : WS) {i a : Nat} (k : Nat) (v : Int) (h : a ≠ i) : up w i k v a = w a := by funext b; simp [up, h]
def ob {ρ : Type} (o : Option (Int × WS)) (f : Int → WS → Option ρ) : Option ρ := match o with
  | none => none
  | some q => f q.1 q.2
theorem obnd {ρ : Type} {o : Option (Int × WS)} {f : Int → WS → Option ρ} {r : ρ} (h : ob o f = some r) : ∃ q, o = some q ∧ f q.1 q.2 = some r := by
  cases o with
  | none => cases h
  | some q => exact ⟨q, rfl, h⟩
theorem ob_some {ρ : Type} (a : Int) (w : WS) (f : Int → WS → Option ρ) : ob (some (a, w)) f = f a w := rfl
def ox (o : Option (Nat × Int × WS)) (f : Int → WS → Option (Nat × Int × WS)) : Option (Nat × Int × WS) := match o with
  | none => none
  | some q => if q.1 = 0 then f q.2.1 q.2.2 else some (q.1, 0, q.2.2)
theorem oxnd {o : Option (Nat × Int × WS)} {f : Int → WS → Option (Nat × Int × WS)} {r : Nat × Int × WS} (h : ox o f = some r) : ∃ q, o = some q ∧ (if q.1 = 0 then f q.2.1 q.2.2 else some (q.1, 0, q.2.2)) = some r := by
  cases o with
  | none => cases h
  | some q => exact ⟨q, rfl, h⟩
theorem ox_ret (a : Int) (w : WS) (f : Int → WS → Option (Nat × Int × WS)) : ox (some (0, a, w)) f = f a w := rfl
theorem ox_exc (t : Nat) (a : Int) (w : WS) (f : Int → WS → Option (Nat × Int × WS)) : ox (some (t + 1, a, w)) f = some (t + 1, 0, w) := rfl
def oc {ρ : Type} (o : Option (Nat × Int × WS)) (f : Int → WS → Option ρ) (g : Nat → WS → Option ρ) : Option ρ := match o with
  | none => none
  | some q => if q.1 = 0 then f q.2.1 q.2.2 else g q.1 q.2.2
theorem ocnd {ρ : Type} {o : Option (Nat × Int × WS)} {f : Int → WS → Option ρ} {g : Nat → WS → Option ρ} {r : ρ} (h : oc o f g = some r) : ∃ q, o = some q ∧ (if q.1 = 0 then f q.2.1 q.2.2 else g q.1 q.2.2) = some r := by
  cases o with
  | none => cases h
  | some q => exact ⟨q, rfl, h⟩
theorem oc_ret {ρ : Type} (a : Int) (w : WS) (f : Int → WS → Option ρ) (g : Nat → WS → Option ρ) : oc (some (0, a, w)) f g = f a w := rfl
theorem oc_exc {ρ : Type} (t : Nat) (a : Int) (w : WS) (f : Int → WS → Option ρ) (g : Nat → WS → Option ρ) : oc (some (t + 1, a, w)) f g = g (t + 1) w := rfl
def NC : Nat := 137
/-- the cells: an object of a class (by its place in vwCl), or an array (0 ints, 1 chars, 2 booleans, 3 longs, 4 doubles) of a length -/
def ckT : List (Nat ⊕ (Nat × Nat)) := [.inl 10, .inl 8, .inr (0, 60), .inr (0, 1), .inl 8, .inr (0, 600), .inr (0, 30), .inl 8, .inr (0, 1560), .inr (0, 26), .inl 8, .inr (0, 1560), .inr (0, 26), .inl 8, .inr (0, 60), .inr (0, 1), .inl 8, .inr (0, 3000), .inr (0, 50), .inl 8, .inr (0, 60), .inr (0, 1), .inl 8, .inr (0, 1800), .inr (0, 30), .inl 2, .inl 3, .inr (0, 50), .inl 3, .inr (0, 50), .inl 3, .inr (0, 50), .inl 2, .inl 3, .inr (0, 50), .inl 3, .inr (0, 50), .inl 3, .inr (0, 50), .inl 4, .inl 5, .inr (0, 6000), .inr (0, 6000), .inr (0, 6000), .inl 5, .inr (0, 6000), .inr (0, 6000), .inr (0, 6000), .inl 3, .inr (0, 6000), .inl 5, .inr (0, 3000), .inr (0, 3000), .inr (0, 3000), .inl 7, .inl 3, .inr (0, 50), .inl 6, .inl 3, .inr (0, 40), .inl 3, .inr (0, 40), .inl 3, .inr (0, 40), .inl 3, .inr (0, 40), .inl 3, .inr (0, 40), .inl 3, .inr (0, 40), .inl 3, .inr (0, 5), .inl 3, .inr (0, 5), .inl 3, .inr (0, 15), .inl 9, .inl 3, .inr (0, 10), .inl 3, .inr (0, 40), .inl 3, .inr (0, 40), .inl 3, .inr (0, 200), .inl 11, .inr (0, 60), .inr (0, 600), .inr (0, 30), .inr (0, 1560), .inr (0, 26), .inr (1, 50), .inr (0, 50), .inr (0, 50), .inr (1, 50), .inr (0, 50), .inr (0, 50), .inr (2, 50), .inr (0, 3000), .inr (0, 50), .inr (0, 60), .inr (0, 13000), .inr (0, 13000), .inr (0, 13000), .inr (0, 13000), .inr (0, 7000), .inr (0, 7000), .inr (0, 7000), .inr (0, 7000), .inr (0, 7000), .inr (0, 7000), .inr (0, 4000), .inr (0, 4000), .inr (0, 4000), .inr (1, 40), .inr (0, 40), .inr (0, 40), .inr (0, 40), .inr (0, 40), .inr (0, 40), .inr (2, 5), .inr (0, 5), .inr (0, 5), .inr (0, 5), .inr (0, 5), .inr (0, 40), .inr (0, 40), .inr (0, 10), .inr (0, 10), .inr (0, 1800), .inr (0, 30), .inr (0, 60), .inr (0, 1560), .inr (0, 26), .inr (0, 200), .inr (3, 1), .inr (4, 1)]
def ck (i : Nat) : Nat ⊕ (Nat × Nat) := ckT.getD i (.inl 0)
/-- an object's fields: a cell, a constant, or (none) a number of the world -/
def rfT : List (List (Option (Nat ⊕ Int))) := [[some (.inl 1), some (.inl 4), none, some (.inl 7), some (.inl 10), some (.inl 25), some (.inl 32), some (.inl 39), some (.inl 54), some (.inl 57), some (.inl 76), some (.inl 83), none, none, none, none, none, none, none], [some (.inr 60), some (.inl 2), some (.inl 3)], [], [], [some (.inr 20), some (.inl 5), some (.inl 6)], [], [], [some (.inr 60), some (.inl 8), some (.inl 9)], [], [], [some (.inr 60), some (.inl 11), some (.inl 12)], [], [], [some (.inr 60), some (.inl 14), some (.inl 15)], [], [], [some (.inr 60), some (.inl 17), some (.inl 18)], [], [], [some (.inr 60), some (.inl 20), some (.inl 21)], [], [], [some (.inr 60), some (.inl 23), some (.inl 24)], [], [], [some (.inr 50), some (.inl 26), some (.inl 28), some (.inl 30), none], [some (.inl 27)], [], [some (.inl 29)], [], [some (.inl 31)], [], [some (.inr 50), some (.inl 33), some (.inl 35), some (.inl 37), none], [some (.inl 34)], [], [some (.inl 36)], [], [some (.inl 38)], [], [some (.inl 25), some (.inl 4), some (.inl 7), some (.inl 13), some (.inl 40), some (.inl 44), some (.inl 48), some (.inl 50), none, none, none, none, none, none, none, none], [some (.inl 41), some (.inl 42), some (.inl 43), none], [], [], [], [some (.inl 45), some (.inl 46), some (.inl 47), none], [], [], [], [some (.inl 49)], [], [some (.inl 51), some (.inl 52), some (.inl 53), none], [], [], [], [some (.inl 32), some (.inl 4), some (.inl 7), some (.inl 16), some (.inl 55)], [some (.inl 56)], [], [some (.inl 58), some (.inl 60), some (.inl 62), some (.inl 64), some (.inl 66), some (.inl 68), none, some (.inl 70), some (.inl 72), some (.inl 74)], [some (.inl 59)], [], [some (.inl 61)], [], [some (.inl 63)], [], [some (.inl 65)], [], [some (.inl 67)], [], [some (.inl 69)], [], [some (.inl 71)], [], [some (.inl 73)], [], [some (.inl 75)], [], [some (.inl 57), some (.inl 39), some (.inl 54), some (.inl 7), some (.inl 19), some (.inl 77), some (.inl 22), some (.inl 79), some (.inl 81), none, none, none, none, none, none], [some (.inl 78)], [], [some (.inl 80)], [], [some (.inl 82)], [], [some (.inl 84)], [], [none, some (.inl 86), none, some (.inl 87), some (.inl 88), none, some (.inl 89), some (.inl 90), some (.inl 91), some (.inl 92), some (.inl 93), none, some (.inl 94), some (.inl 95), some (.inl 96), none, some (.inl 97), some (.inl 98), some (.inl 99), some (.inl 100), none, none, none, some (.inl 101), some (.inl 102), some (.inl 103), some (.inl 104), none, some (.inl 105), some (.inl 106), some (.inl 107), some (.inl 108), some (.inl 109), some (.inl 110), none, some (.inl 111), some (.inl 112), some (.inl 113), none, none, none, none, none, none, none, some (.inl 114), some (.inl 115), some (.inl 116), some (.inl 117), some (.inl 118), some (.inl 119), none, some (.inl 120), some (.inl 121), some (.inl 122), some (.inl 123), some (.inl 124), some (.inl 125), some (.inl 126), none, none, none, none, none, some (.inl 127), some (.inl 128), some (.inl 129), some (.inl 130), some (.inl 131), none, none, none, none, none, none, none, none, some (.inl 132), some (.inl 133), some (.inl 134), none], [], [], [], [], [], [], [], [], [], [], [], [], [], [], [], [], [], [], [], [], [], [], [], [], [], [], [], [], [], [], [], [], [], [], [], [], [], [], [], [], [], [], [], [], [], [], [], [], [], [], []]
def rf (i k : Nat) : Option (Nat ⊕ Int) := (rfT.getD i []).getD k none
def alen (i : Nat) : Nat := match ck i with | .inl _ => 0 | .inr q => q.2
def isX0 (i : Nat) : Prop := i ∈ ([25, 32] : List Nat)
def isX1 (i : Nat) : Prop := i ∈ ([26, 28, 30, 33, 35, 37, 48, 55, 58, 60, 62, 64, 66, 68, 70, 72, 74, 77, 79, 81, 83] : List Nat)
def isX3 (i : Nat) : Prop := i ∈ ([40, 44, 50] : List Nat)
def isX6 (i : Nat) : Prop := i ∈ ([1, 4, 7, 10, 13, 16, 19, 22] : List Nat)
def wdt (i : Nat) : Int := match rf i 0 with | some (.inr c) => c | _ => 0
