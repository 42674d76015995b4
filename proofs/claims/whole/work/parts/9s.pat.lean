/-! patterns and terms set down -/
def addP (P : PV) (k a b : Int) : PV := (fun i => if 15 ≤ i then (fun j => if j = 1 then pN P + 1 else P.1 i j) else if i = 0 then uf (P.1 0) (pN P).toNat k else if i = 1 then uf (P.1 1) (pN P).toNat a else if i = 2 then uf (P.1 2) (pN P).toNat b else P.1 i, P.2)
def addT (P : PV) (k a b : Int) : PV := (fun i => if 15 ≤ i then (fun j => if j = 2 then tN P + 1 else P.1 i j) else if i = 3 then uf (P.1 3) (tN P).toNat k else if i = 4 then uf (P.1 4) (tN P).toNat a else if i = 5 then uf (P.1 5) (tN P).toNat b else P.1 i, P.2)
theorem addP_15 (P : PV) (k a b : Int) (q : Nat) : (addP P k a b).1 (q + 15) = fun j => if j = 1 then pN P + 1 else P.1 (q + 15) j := rfl
theorem addT_15 (P : PV) (k a b : Int) (q : Nat) : (addT P k a b).1 (q + 15) = fun j => if j = 2 then tN P + 1 else P.1 (q + 15) j := rfl
theorem pvC_addP {w w' : WS} {P : PV} {an : Int} (h : pvC w an = P) (e : ∀ c, c ∈ LPc → c ≠ 27 → c ≠ 29 → c ≠ 31 → c ≠ 25 → w' c = w c) {k a b : Int} (h27 : w' 27 = uf (w 27) (pN P).toNat k) (h29 : w' 29 = uf (w 29) (pN P).toNat a) (h31 : w' 31 = uf (w 31) (pN P).toNat b) (h25 : w' 25 4 = pN P + 1) : pvC w' an = addP P k a b := by
  have r := fun i => congrFun (congrArg Prod.fst h) i
  have e := fun c hc (h1 : c ≠ 27 ∧ c ≠ 29 ∧ c ≠ 31 ∧ c ≠ 25) => e c hc h1.1 h1.2.1 h1.2.2.1 h1.2.2.2
  refine Prod.ext ?_ ?_
  · funext i
    rcases row_cases i with hi | ⟨q, rfl⟩
    · rcases hi with rfl | rfl | rfl | rfl | rfl | rfl | rfl | rfl | rfl | rfl | rfl | rfl | rfl | rfl | rfl
      · exact h27.trans (by rw [show w 27 = P.1 0 from r 0]; rfl)
      · exact h29.trans (by rw [show w 29 = P.1 1 from r 1]; rfl)
      · exact h31.trans (by rw [show w 31 = P.1 2 from r 2]; rfl)
      · exact (e 34 (by decide) (by omega)).trans (r 3)
      · exact (e 36 (by decide) (by omega)).trans (r 4)
      · exact (e 38 (by decide) (by omega)).trans (r 5)
      · exact (e 59 (by decide) (by omega)).trans (r 6)
      · exact (e 61 (by decide) (by omega)).trans (r 7)
      · exact (e 63 (by decide) (by omega)).trans (r 8)
      · exact (e 65 (by decide) (by omega)).trans (r 9)
      · exact (e 67 (by decide) (by omega)).trans (r 10)
      · exact (e 69 (by decide) (by omega)).trans (r 11)
      · exact (e 71 (by decide) (by omega)).trans (r 12)
      · exact (e 73 (by decide) (by omega)).trans (r 13)
      · exact (e 75 (by decide) (by omega)).trans (r 14)
    · rw [addP_15]
      funext j
      have rj := fun j => congrFun (r (q + 15)) j
      rcases slot_cases j with rfl | rfl | rfl | ⟨x, rfl⟩
      · exact rj 0
      · exact h25
      · exact (congrFun (e 32 (by decide) (by omega)) 4).trans (rj 2)
      · exact (congrFun (e 57 (by decide) (by omega)) 6).trans ((rj (x + 3)).trans (if_neg (by omega)).symm)
  · show rC w' 4 20 = P.2
    rw [rC_fr (e 5 (by decide) (by omega)) (e 6 (by decide) (by omega))]
    exact congrArg Prod.snd h
theorem pvC_addT {w w' : WS} {P : PV} {an : Int} (h : pvC w an = P) (e : ∀ c, c ∈ LPc → c ≠ 34 → c ≠ 36 → c ≠ 38 → c ≠ 32 → w' c = w c) {k a b : Int} (h27 : w' 34 = uf (w 34) (tN P).toNat k) (h29 : w' 36 = uf (w 36) (tN P).toNat a) (h31 : w' 38 = uf (w 38) (tN P).toNat b) (h25 : w' 32 4 = tN P + 1) : pvC w' an = addT P k a b := by
  have r := fun i => congrFun (congrArg Prod.fst h) i
  have e := fun c hc (h1 : c ≠ 34 ∧ c ≠ 36 ∧ c ≠ 38 ∧ c ≠ 32) => e c hc h1.1 h1.2.1 h1.2.2.1 h1.2.2.2
  refine Prod.ext ?_ ?_
  · funext i
    rcases row_cases i with hi | ⟨q, rfl⟩
    · rcases hi with rfl | rfl | rfl | rfl | rfl | rfl | rfl | rfl | rfl | rfl | rfl | rfl | rfl | rfl | rfl
      · exact (e 27 (by decide) (by omega)).trans (r 0)
      · exact (e 29 (by decide) (by omega)).trans (r 1)
      · exact (e 31 (by decide) (by omega)).trans (r 2)
      · exact h27.trans (by rw [show w 34 = P.1 3 from r 3]; rfl)
      · exact h29.trans (by rw [show w 36 = P.1 4 from r 4]; rfl)
      · exact h31.trans (by rw [show w 38 = P.1 5 from r 5]; rfl)
      · exact (e 59 (by decide) (by omega)).trans (r 6)
      · exact (e 61 (by decide) (by omega)).trans (r 7)
      · exact (e 63 (by decide) (by omega)).trans (r 8)
      · exact (e 65 (by decide) (by omega)).trans (r 9)
      · exact (e 67 (by decide) (by omega)).trans (r 10)
      · exact (e 69 (by decide) (by omega)).trans (r 11)
      · exact (e 71 (by decide) (by omega)).trans (r 12)
      · exact (e 73 (by decide) (by omega)).trans (r 13)
      · exact (e 75 (by decide) (by omega)).trans (r 14)
    · rw [addT_15]
      funext j
      have rj := fun j => congrFun (r (q + 15)) j
      rcases slot_cases j with rfl | rfl | rfl | ⟨x, rfl⟩
      · exact rj 0
      · exact (congrFun (e 25 (by decide) (by omega)) 4).trans (rj 1)
      · exact h25
      · exact (congrFun (e 57 (by decide) (by omega)) 6).trans ((rj (x + 3)).trans (if_neg (by omega)).symm)
  · show rC w' 4 20 = P.2
    rw [rC_fr (e 5 (by decide) (by omega)) (e 6 (by decide) (by omega))]
    exact congrArg Prod.snd h
theorem pvR_addP {w w' : WS} {P : PV} (h : pvR w = P) (e : ∀ c, c ∈ LPr → (c < 91 ∨ 93 < c) → w' c = w c) (s : ∀ k, k ∈ [21, 15, 51] → w' 85 k = w 85 k) {k a b : Int} (h27 : w' 91 = uf (w 91) (pN P).toNat k) (h29 : w' 92 = uf (w 92) (pN P).toNat a) (h31 : w' 93 = uf (w 93) (pN P).toNat b) (h25 : w' 85 11 = pN P + 1) : pvR w' = addP P k a b := by
  have r := fun i => congrFun (congrArg Prod.fst h) i
  have en : nmR w' = nmR w := by
    funext k
    unfold nmR
    rw [e 122 (by decide) (by omega), e 123 (by decide) (by omega), e 124 (by decide) (by omega)]
  refine Prod.ext ?_ ?_
  · funext i
    rcases row_cases i with hi | ⟨q, rfl⟩
    · rcases hi with rfl | rfl | rfl | rfl | rfl | rfl | rfl | rfl | rfl | rfl | rfl | rfl | rfl | rfl | rfl
      · exact h27.trans (by rw [show w 91 = P.1 0 from r 0]; rfl)
      · exact h29.trans (by rw [show w 92 = P.1 1 from r 1]; rfl)
      · exact h31.trans (by rw [show w 93 = P.1 2 from r 2]; rfl)
      · exact (e 94 (by decide) (by omega)).trans (r 3)
      · exact (e 95 (by decide) (by omega)).trans (r 4)
      · exact (e 96 (by decide) (by omega)).trans (r 5)
      · exact (e 114 (by decide) (by omega)).trans (r 6)
      · exact (e 115 (by decide) (by omega)).trans (r 7)
      · exact (e 116 (by decide) (by omega)).trans (r 8)
      · exact (e 117 (by decide) (by omega)).trans (r 9)
      · exact (e 118 (by decide) (by omega)).trans (r 10)
      · exact (e 119 (by decide) (by omega)).trans (r 11)
      · exact (e 120 (by decide) (by omega)).trans (r 12)
      · exact (e 121 (by decide) (by omega)).trans (r 13)
      · exact en.trans (r 14)
    · rw [addP_15]
      funext j
      have rj := fun j => congrFun (r (q + 15)) j
      rcases slot_cases j with rfl | rfl | rfl | ⟨x, rfl⟩
      · exact (s 21 (by simp)).trans (rj 0)
      · exact h25
      · exact (s 15 (by simp)).trans (rj 2)
      · exact (s 51 (by simp)).trans ((rj (x + 3)).trans (if_neg (by omega)).symm)
  · show rM w' 87 88 20 = P.2
    rw [rM_fr (e 87 (by decide) (by omega)) (e 88 (by decide) (by omega))]
    exact congrArg Prod.snd h
theorem pvR_addT {w w' : WS} {P : PV} (h : pvR w = P) (e : ∀ c, c ∈ LPr → (c < 94 ∨ 96 < c) → w' c = w c) (s : ∀ k, k ∈ [21, 11, 51] → w' 85 k = w 85 k) {k a b : Int} (h27 : w' 94 = uf (w 94) (tN P).toNat k) (h29 : w' 95 = uf (w 95) (tN P).toNat a) (h31 : w' 96 = uf (w 96) (tN P).toNat b) (h25 : w' 85 15 = tN P + 1) : pvR w' = addT P k a b := by
  have r := fun i => congrFun (congrArg Prod.fst h) i
  have en : nmR w' = nmR w := by
    funext k
    unfold nmR
    rw [e 122 (by decide) (by omega), e 123 (by decide) (by omega), e 124 (by decide) (by omega)]
  refine Prod.ext ?_ ?_
  · funext i
    rcases row_cases i with hi | ⟨q, rfl⟩
    · rcases hi with rfl | rfl | rfl | rfl | rfl | rfl | rfl | rfl | rfl | rfl | rfl | rfl | rfl | rfl | rfl
      · exact (e 91 (by decide) (by omega)).trans (r 0)
      · exact (e 92 (by decide) (by omega)).trans (r 1)
      · exact (e 93 (by decide) (by omega)).trans (r 2)
      · exact h27.trans (by rw [show w 94 = P.1 3 from r 3]; rfl)
      · exact h29.trans (by rw [show w 95 = P.1 4 from r 4]; rfl)
      · exact h31.trans (by rw [show w 96 = P.1 5 from r 5]; rfl)
      · exact (e 114 (by decide) (by omega)).trans (r 6)
      · exact (e 115 (by decide) (by omega)).trans (r 7)
      · exact (e 116 (by decide) (by omega)).trans (r 8)
      · exact (e 117 (by decide) (by omega)).trans (r 9)
      · exact (e 118 (by decide) (by omega)).trans (r 10)
      · exact (e 119 (by decide) (by omega)).trans (r 11)
      · exact (e 120 (by decide) (by omega)).trans (r 12)
      · exact (e 121 (by decide) (by omega)).trans (r 13)
      · exact en.trans (r 14)
    · rw [addT_15]
      funext j
      have rj := fun j => congrFun (r (q + 15)) j
      rcases slot_cases j with rfl | rfl | rfl | ⟨x, rfl⟩
      · exact (s 21 (by simp)).trans (rj 0)
      · exact (s 11 (by simp)).trans (rj 1)
      · exact h25
      · exact (s 51 (by simp)).trans ((rj (x + 3)).trans (if_neg (by omega)).symm)
  · show rM w' 87 88 20 = P.2
    rw [rM_fr (e 87 (by decide) (by omega)) (e 88 (by decide) (by omega))]
    exact congrArg Prod.snd h
