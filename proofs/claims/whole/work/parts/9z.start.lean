/-! the start: nothing typed, told or run -/
def P0 : PV := (fun _ _ => 0, fun _ => [])
def S0 : St := ([], 0, P0, fun _ => [], (0, 0, 0, 0, 0, fun _ => 0, fun _ => 0), (0, 0, 0, 0, 0, 0))
def w0s : WS := fun _ _ => 0
theorem rC0 (i wd : Nat) : rC w0s i wd = fun _ => [] := rfl
theorem RO0 {i wd n : Nat} : RO w0s i wd n := fun r => ⟨⟨Int.le_refl 0, by show (0 : Int) ≤ wd; omega⟩, fun _ => rfl⟩
theorem RM0 {z st n : Nat} : RM w0s z st n := fun r => ⟨⟨Int.le_refl 0, by show (0 : Int) ≤ st; omega⟩, fun _ => rfl⟩
theorem pvC0 : pvC w0s 0 = P0 := by
  refine Prod.ext ?_ rfl
  funext i j
  rcases row_cases i with hi | ⟨k, rfl⟩
  · rcases hi with rfl | rfl | rfl | rfl | rfl | rfl | rfl | rfl | rfl | rfl | rfl | rfl | rfl | rfl | rfl <;> rfl
  · rcases slot_cases j with rfl | rfl | rfl | ⟨q, rfl⟩ <;> rfl
theorem pvR0 : pvR w0s = P0 := by
  refine Prod.ext ?_ rfl
  funext i j
  rcases row_cases i with hi | ⟨k, rfl⟩
  · rcases hi with rfl | rfl | rfl | rfl | rfl | rfl | rfl | rfl | rfl | rfl | rfl | rfl | rfl | rfl | rfl
    all_goals first | rfl | skip
    show nmR w0s j = 0
    unfold nmR
    split
    · rfl
    · split
      · rfl
      · rfl
  · rcases slot_cases j with rfl | rfl | rfl | ⟨q, rfl⟩ <;> rfl
theorem JC0 : JC S0 w0s := ⟨⟨rfl, RO0⟩, rfl, pvC0, ⟨rfl, RO0⟩, ⟨RO0, RO0, RO0, RO0, RO0, RO0⟩, rfl, rfl, rfl, rfl, fun _ => ⟨rfl, rfl, rfl⟩⟩
theorem JM0 : JM S0 w0s := ⟨⟨rfl, rfl⟩, rfl, pvR0, ⟨rfl, RM0⟩, ⟨RM0, RM0, RM0⟩, rfl, rfl, rfl, rfl, fun _ => ⟨rfl, rfl⟩⟩
theorem POK0 : POK P0 := by
  refine ⟨fun p h1 h2 => ?_, ⟨Int.le_refl 0, by show (0 : Int) ≤ 50; omega⟩, fun k hk => ?_, ⟨Int.le_refl 0, by show (0 : Int) ≤ 50; omega⟩, fun r => ⟨SO_nil, Nat.zero_le _⟩, Or.inl rfl, ⟨Int.le_refl 0, by show (0 : Int) ≤ 40; omega⟩, fun p h1 h2 => ?_, fun f h1 h2 => ⟨Or.inl rfl, fun q => absurd (show (0 : Int) = 1 from q) (by decide)⟩⟩
  · exact absurd (show p < 0 from h2) (by omega)
  · exact absurd (show k < 0 from hk) (by omega)
  · exact absurd (show p < 0 from h2) (by omega)
theorem WF0 : WF S0 := by
  refine ⟨⟨SO_nil, Nat.zero_le _⟩, ⟨Int.le_refl 0, by show (0 : Int) ≤ 30; omega⟩, POK0, fun r => ⟨SO_nil, Nat.zero_le _⟩, ⟨Or.inl rfl, ⟨Int.le_refl 0, by show (0 : Int) ≤ 8; omega⟩, ⟨Int.le_refl 0, by show (0 : Int) ≤ 39; omega⟩, ⟨Int.le_refl 0, by show (0 : Int) ≤ 1000; omega⟩, ⟨Int.le_refl 0, by show (0 : Int) ≤ 10; omega⟩, fun _ => ⟨Int.le_refl 0, fun _ => rfl⟩, fun _ => ⟨Int.le_refl 0, fun _ => rfl⟩, sm_zero 40, fun q => absurd (show (0 : Int) = 1 from q) (by decide)⟩, Or.inl rfl, Or.inl rfl, fun q => absurd (show (0 : Int) = 1 from q) (by decide)⟩
