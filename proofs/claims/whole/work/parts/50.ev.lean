/-! a small logic of runs: 'Ev F A': F comes to an answer and a world of which A holds -/
def Ev (F : Option (Int × WS)) (A : Int → WS → Prop) : Prop := ∃ v w, F = some (v, w) ∧ A v w
theorem Ev.ret {A : Int → WS → Prop} {v : Int} {w : WS} (h : A v w) : Ev (some (v, w)) A := ⟨v, w, rfl, h⟩
theorem Ev.bd {F : Option (Int × WS)} {K : Int → WS → Option (Int × WS)} {A B : Int → WS → Prop} (h : Ev F A) (k : ∀ v w, A v w → Ev (K v w) B) : Ev (ob F K) B := by
  obtain ⟨v, w, e, ha⟩ := h
  subst e
  exact k v w ha
theorem Ev.pos {c : Prop} {d : Decidable c} {t e : Option (Int × WS)} {A : Int → WS → Prop} (h : c) (k : Ev t A) : Ev (@ite _ c d t e) A := by
  rw [if_pos h]
  exact k
theorem Ev.neg {c : Prop} {d : Decidable c} {t e : Option (Int × WS)} {A : Int → WS → Prop} (h : ¬ c) (k : Ev e A) : Ev (@ite _ c d t e) A := by
  rw [if_neg h]
  exact k
theorem Ev.ite {c : Prop} {d : Decidable c} {t e : Option (Int × WS)} {A : Int → WS → Prop} (k : c → Ev t A) (k2 : ¬ c → Ev e A) : Ev (@ite _ c d t e) A := by
  by_cases h : c
  · rw [if_pos h]; exact k h
  · rw [if_neg h]; exact k2 h
theorem Ev.mono {F : Option (Int × WS)} {A B : Int → WS → Prop} (h : Ev F A) (k : ∀ v w, A v w → B v w) : Ev F B := by
  obtain ⟨v, w, e, ha⟩ := h
  exact ⟨v, w, e, k v w ha⟩
theorem Ev.eq {F : Option (Int × WS)} {A : Int → WS → Prop} {v : Int} {w : WS} (e : F = some (v, w)) (h : A v w) : Ev F A := ⟨v, w, e, h⟩
/-- a run of which answer and world are known outright -/
theorem Ev.obe {F : Option (Int × WS)} {K : Int → WS → Option (Int × WS)} {B : Int → WS → Prop} {v : Int} {w : WS} (e : F = some (v, w)) (k : Ev (K v w) B) : Ev (ob F K) B := by
  subst e
  exact k
theorem Ev.toEq {F : Option (Int × WS)} {v : Int} {w : WS} (h : Ev F (fun v1 w1 => v1 = v ∧ w1 = w)) : F = some (v, w) := by
  obtain ⟨v1, w1, e, rfl, rfl⟩ := h
  exact e
/-- nothing but these cells was written -/
def Fr (L : List Nat) (w w' : WS) : Prop := ∀ c, c ∉ L → w' c = w c
theorem Fr.rf {L : List Nat} {w : WS} : Fr L w w := fun _ _ => rfl
theorem Fr.tr {L : List Nat} {a b c : WS} (h : Fr L a b) (k : Fr L b c) : Fr L a c := fun i hi => (k i hi).trans (h i hi)
theorem Fr.sub {L M : List Nat} {a b : WS} (h : Fr L a b) (k : ∀ c ∈ L, c ∈ M) : Fr M a b := fun i hi => h i (fun q => hi (k i q))
theorem Fr.up {L : List Nat} {a b : WS} (h : Fr L a b) {i k : Nat} {v : Int} (hi : i ∈ L) : Fr L a (up b i k v) := fun c hc => by
  have e : c ≠ i := fun e => hc (by rw [e]; exact hi)
  rw [up_row b k v e]
  exact h c hc
/-- a segment of a row of numbers -/
def sg (a : Nat → Int) (o n : Nat) : List Int := (List.range n).map (fun k => a (o + k))
theorem sg_len (a : Nat → Int) (o n : Nat) : (sg a o n).length = n := by simp [sg]
theorem sg_get (a : Nat → Int) (o : Nat) {n k : Nat} (h : k < n) : (sg a o n)[k]? = some (a (o + k)) := by
  simp [sg, h]
theorem sg_getD (a : Nat → Int) (o : Nat) {n k : Nat} (d : Int) (h : k < n) : (sg a o n).getD k d = a (o + k) := by
  rw [List.getD_eq_getElem?_getD, sg_get a o h]
  rfl
theorem sg_getD_ge (a : Nat → Int) (o : Nat) {n k : Nat} (d : Int) (h : n ≤ k) : (sg a o n).getD k d = d := by
  rw [List.getD_eq_getElem?_getD, List.getElem?_eq_none (by rw [sg_len]; exact h)]
  rfl
theorem sg_congr {a b : Nat → Int} {o p n : Nat} (h : ∀ k, k < n → a (o + k) = b (p + k)) : sg a o n = sg b p n := by
  unfold sg
  exact List.map_congr_left (fun k hk => h k (List.mem_range.mp hk))
theorem sg_inj {a b : Nat → Int} {o p n m : Nat} (h : sg a o n = sg b p m) : n = m ∧ ∀ k, k < n → a (o + k) = b (p + k) := by
  have e : n = m := by rw [← sg_len a o n, ← sg_len b p m, h]
  subst e
  refine ⟨rfl, fun k hk => ?_⟩
  have h1 := sg_get a o hk
  rw [h, sg_get b p hk] at h1
  exact (Option.some.inj h1).symm
theorem sg_zero (a : Nat → Int) (o : Nat) : sg a o 0 = [] := rfl
theorem sg_succ (a : Nat → Int) (o n : Nat) : sg a o (n + 1) = sg a o n ++ [a (o + n)] := by
  simp [sg, List.range_succ]
theorem sg_add (a : Nat → Int) (o n m : Nat) : sg a o (n + m) = sg a o n ++ sg a (o + n) m := by
  induction m with
  | zero => simp [sg_zero]
  | succ m ih => rw [← Nat.add_assoc, sg_succ, ih, sg_succ, List.append_assoc, Nat.add_assoc]
theorem sg_cons (a : Nat → Int) (o n : Nat) : sg a o (n + 1) = a o :: sg a (o + 1) n := by
  rw [Nat.add_comm, sg_add]
  rfl
theorem sg_mem {a : Nat → Int} {o n : Nat} {x : Int} : x ∈ sg a o n ↔ ∃ k, k < n ∧ a (o + k) = x := by
  simp [sg]
theorem sg_take (a : Nat → Int) (o : Nat) {n m : Nat} (h : m ≤ n) : (sg a o n).take m = sg a o m := by
  obtain ⟨d, rfl⟩ := Nat.exists_eq_add_of_le h
  rw [sg_add, List.take_left' (sg_len a o m)]
theorem sg_drop (a : Nat → Int) (o : Nat) {n m : Nat} (h : m ≤ n) : (sg a o n).drop m = sg a (o + m) (n - m) := by
  obtain ⟨d, rfl⟩ := Nat.exists_eq_add_of_le h
  rw [sg_add, List.drop_left' (sg_len a o m), Nat.add_sub_cancel_left]
theorem sg_up_out {w : WS} {i c o n k : Nat} {v : Int} (h : c ≠ i ∨ k < o ∨ o + n ≤ k) : sg (up w i k v c) o n = sg (w c) o n := by
  refine sg_congr (fun q hq => ?_)
  rcases h with h | h | h
  · rw [up_cell w k _ v h]
  · by_cases e : c = i
    · rw [e, up_slot w i i v (by omega)]
    · rw [up_cell w k _ v e]
  · by_cases e : c = i
    · rw [e, up_slot w i i v (by omega)]
    · rw [up_cell w k _ v e]
/-- rows of a class's Rows: what stands in row r -/
def rC (w : WS) (i wd r : Nat) : List Int := sg (w (i + 1)) (r * wd) (w (i + 2) r).toNat
def vs (V : Nat → List Int) (a : Nat) (L : List Int) : Nat → List Int := fun r => if r = a then L else V r
theorem vs_same (V : Nat → List Int) (a : Nat) (L : List Int) : vs V a L a = L := by simp [vs]
theorem vs_ne (V : Nat → List Int) {a r : Nat} (L : List Int) (h : r ≠ a) : vs V a L r = V r := by simp [vs, h]
theorem vs_vs (V : Nat → List Int) (a : Nat) (L M : List Int) : vs (vs V a L) a M = vs V a M := by
  funext r
  unfold vs
  split <;> rfl
/-- the rows of number i: widths, how many, sizes in their bounds -/
def RI (i wd n : Nat) : Prop := wdt i = wd ∧ alen (i + 1) = n * wd ∧ alen (i + 2) = n ∧ (wd = 20 ∨ wd = 60) ∧ 0 < n ∧ n ≤ 50 ∧ i % 3 = 1
theorem RI_1 : RI 1 60 1 := by refine ⟨rfl, rfl, rfl, Or.inr rfl, by omega, by omega, rfl⟩
theorem RI_4 : RI 4 20 30 := by refine ⟨rfl, rfl, rfl, Or.inl rfl, by omega, by omega, rfl⟩
theorem RI_7 : RI 7 60 26 := by refine ⟨rfl, rfl, rfl, Or.inr rfl, by omega, by omega, rfl⟩
theorem RI_10 : RI 10 60 26 := by refine ⟨rfl, rfl, rfl, Or.inr rfl, by omega, by omega, rfl⟩
theorem RI_13 : RI 13 60 1 := by refine ⟨rfl, rfl, rfl, Or.inr rfl, by omega, by omega, rfl⟩
theorem RI_16 : RI 16 60 50 := by refine ⟨rfl, rfl, rfl, Or.inr rfl, by omega, by omega, rfl⟩
theorem RI_19 : RI 19 60 1 := by refine ⟨rfl, rfl, rfl, Or.inr rfl, by omega, by omega, rfl⟩
theorem RI_22 : RI 22 60 30 := by refine ⟨rfl, rfl, rfl, Or.inr rfl, by omega, by omega, rfl⟩
/-- the sizes are in their bounds, and nothing stands in rows that there aren't -/
def RO (w : WS) (i wd n : Nat) : Prop := ∀ r, (0 ≤ w (i + 2) r ∧ w (i + 2) r ≤ wd) ∧ (n ≤ r → w (i + 2) r = 0)
theorem RO_fr {w w' : WS} {i wd n : Nat} (h : w' (i + 2) = w (i + 2)) (k : RO w i wd n) : RO w' i wd n := fun r => by
  rw [h]
  exact k r
theorem rC_fr {w w' : WS} {i wd : Nat} (h1 : w' (i + 1) = w (i + 1)) (h2 : w' (i + 2) = w (i + 2)) : rC w' i wd = rC w i wd := by
  funext r
  unfold rC
  rw [h1, h2]
theorem rC_len {w : WS} {i wd n r : Nat} (k : RO w i wd n) : ((rC w i wd r).length : Int) = w (i + 2) r := by
  rw [rC, sg_len]
  have := (k r).1
  omega
theorem rC_ge {w : WS} {i wd n r : Nat} (k : RO w i wd n) (h : n ≤ r) : rC w i wd r = [] := by
  rw [rC, (k r).2 h]
  rfl
