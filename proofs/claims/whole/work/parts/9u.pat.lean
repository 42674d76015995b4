/-! pattern, the class (f_X8_pattern and f_L_pattern stand here until the generated part holds them) -/
def kIx : List Int → Int → Int → Int
  | [], _, _ => -1
  | x :: l, a, i => if x = a then i else kIx l a (i + 1)
def kPat : List Int := [108, 124, 38, 110, 111, 115, 107, 35, 116, 114, 112, 113, 109, 42, 103, 120, 102, 122, 105, 36, 46, 64, 118]
theorem kIx_rng (l : List Int) (a : Int) : ∀ i : Int, 0 ≤ i → i ≤ 1000 → l.length ≤ 100 → (a ∈ l → 0 ≤ kIx l a i ∧ kIx l a i ≤ i + l.length) ∧ (a ∉ l → kIx l a i = -1) := by
  induction l with
  | nil => intro i _ _ _; exact ⟨fun h => absurd h (by simp), fun _ => rfl⟩
  | cons x l ih =>
    intro i h0 h1 h2
    rw [List.length_cons] at h2
    unfold kIx
    by_cases e : x = a
    · rw [if_pos e]
      exact ⟨fun _ => ⟨h0, by omega⟩, fun q => absurd (by rw [e]; exact List.mem_cons_self) q⟩
    · rw [if_neg e]
      have key : ∀ j : Int, 0 ≤ j → (a ∈ l → 0 ≤ kIx l a j ∧ kIx l a j ≤ j + l.length) ∧ (a ∉ l → kIx l a j = -1) := by
        intro j hj
        clear ih h0 h1 h2
        induction l generalizing j with
        | nil => exact ⟨fun h => absurd h (by simp), fun _ => rfl⟩
        | cons y l ih2 =>
          unfold kIx
          by_cases e2 : y = a
          · rw [if_pos e2]
            exact ⟨fun _ => ⟨hj, by rw [List.length_cons]; omega⟩, fun q => absurd (by rw [e2]; exact List.mem_cons_self) q⟩
          · rw [if_neg e2]
            obtain ⟨k1, k2⟩ := ih2 (j + 1) (by omega)
            refine ⟨fun q => ?_, fun q => k2 (fun z => q (List.mem_cons_of_mem _ z))⟩
            rcases List.mem_cons.mp q with q | q
            · exact absurd q.symm e2
            · have := k1 q
              rw [List.length_cons]
              omega
      obtain ⟨k1, k2⟩ := key (i + 1) (by omega)
      refine ⟨fun q => ?_, fun q => k2 (fun z => q (List.mem_cons_of_mem _ z))⟩
      rcases List.mem_cons.mp q with q | q
      · exact absurd q.symm e
      · have := k1 q
        rw [List.length_cons]
        omega
theorem kPat_mem (k : Int) : k ∈ kPat ↔ isPK k := by
  unfold kPat isPK
  simp only [List.mem_cons, List.not_mem_nil, or_false]
def f_X8_pattern (a1 : Int) (a2 : Int) (a3 : Int) (w : WS) : Option (Nat × Int × WS) := if wr (kIx kPat a1 0) < 0 then some (1, 0, w) else ob (f_X8_patternPartsExist a1 a2 a3 w) fun r1 w1 => if wr r1 = 0 then some (3, 0, w1) else ob (f_X0_isFull 25 w1) fun r2 w2 => if wr r2 = 0 then (ob (f_X0_add 25 a1 a2 a3 w2) fun r3 w3 => some (0, r3, w3)) else some (2, 0, w2)
def f_L_pattern (a1 : Int) (a2 : Int) (a3 : Int) (w : WS) : Option (Int × WS) := oc (f_X8_pattern a1 a2 a3 w) (fun r1 w1 => if 0 ≤ wr 0 ∧ wr 0 < 1 then some (0, (up w1 135 (wr 0).toNat (wr r1))) else none) (fun t w2 => if t = 1 then some (1, w2) else if t = 3 then some (2, w2) else if t = 2 then some (3, w2) else none)
noncomputable def tq_pattern (k a b : Int) (S : St) : TQ := @ite TQ (isPK k) (Classical.propDecidable _) (@ite TQ (ptOK k a b S.2.1 (pN S.2.2.1)) (Classical.propDecidable _) (if pN S.2.2.1 < 50 then (0, pN S.2.2.1, stP S (addP S.2.2.1 k a b)) else (3, 0, S)) (2, 0, S)) (1, 0, S)
theorem tq_p1 {k a b : Int} {S : St} (h : ¬ isPK k) : tq_pattern k a b S = (1, 0, S) := if_neg h
theorem tq_p2 {k a b : Int} {S : St} (h : isPK k) (h2 : ¬ ptOK k a b S.2.1 (pN S.2.2.1)) : tq_pattern k a b S = (2, 0, S) := (if_pos h).trans (if_neg h2)
theorem tq_p3 {k a b : Int} {S : St} (h : isPK k) (h2 : ptOK k a b S.2.1 (pN S.2.2.1)) (h3 : ¬ pN S.2.2.1 < 50) : tq_pattern k a b S = (3, 0, S) := (if_pos h).trans ((if_pos h2).trans (if_neg h3))
theorem tq_p0 {k a b : Int} {S : St} (h : isPK k) (h2 : ptOK k a b S.2.1 (pN S.2.2.1)) (h3 : pN S.2.2.1 < 50) : tq_pattern k a b S = (0, pN S.2.2.1, stP S (addP S.2.2.1 k a b)) := (if_pos h).trans ((if_pos h2).trans (if_pos h3))
theorem addP_ok {P : PV} (h : POK P) (hn : pN P < 50) {k a b N : Int} (hN : N ≤ 30) (hk : ptOK k a b N (pN P)) : POK (addP P k a b) := by
  obtain ⟨p1, p2, p3, p4, p5, p6, p7, p8, p9⟩ := h
  have eN : pN (addP P k a b) = pN P + 1 := rfl
  refine ⟨fun q q0 q1 => ?_, ⟨by rw [eN]; omega, by rw [eN]; omega⟩, p3, p4, p5, p6, p7, fun q q0 q1 => ?_, p9⟩
  · rw [eN] at q1
    by_cases e : q = pN P
    · have k1 : pk (pE (addP P k a b) [] 0) q = k ∧ pf (pE (addP P k a b) [] 0) q = a ∧ ps (pE (addP P k a b) [] 0) q = b := by
        rw [e]
        exact ⟨uf_same, uf_same, uf_same⟩
      obtain ⟨k1, k2, k3⟩ := k1
      unfold PK1
      rw [k1, k2, k3]
      unfold ptOK at hk
      rw [e]
      rcases hk with q | q | q | q | q | q | q
      · exact Or.inl ⟨q.1, q.2.1, by omega⟩
      · exact Or.inr (Or.inl q)
      · exact Or.inr (Or.inr (Or.inl q))
      · exact Or.inr (Or.inr (Or.inr (Or.inl q)))
      · exact Or.inr (Or.inr (Or.inr (Or.inr (Or.inl q))))
      · exact Or.inr (Or.inr (Or.inr (Or.inr (Or.inr (Or.inl q)))))
      · exact Or.inr (Or.inr (Or.inr (Or.inr (Or.inr (Or.inr q)))))
    · have ne : q.toNat ≠ (pN P).toNat := by omega
      have k1 : pk (pE (addP P k a b) [] 0) q = pk (pE P [] 0) q ∧ pf (pE (addP P k a b) [] 0) q = pf (pE P [] 0) q ∧ ps (pE (addP P k a b) [] 0) q = ps (pE P [] 0) q := ⟨uf_ne ne, uf_ne ne, uf_ne ne⟩
      obtain ⟨k1, k2, k3⟩ := k1
      have := p1 q q0 (by omega)
      unfold PK1 at this ⊢
      rw [k1, k2, k3]
      exact this
  · obtain ⟨s1, s2, s3, s4, s5, s6, s7⟩ := p8 q q0 q1
    exact ⟨s1, s2, s3, s4, s5, fun z => ⟨⟨(s6 z).1.1, by show sP P q < pN P + 1; have := (s6 z).1.2; omega⟩, (s6 z).2⟩, s7⟩
theorem tq_pattern_WF {k a b : Int} {S : St} (hW : WF S) : WF (tq_pattern k a b S).2.2 := by
  by_cases h1 : isPK k
  · by_cases h2 : ptOK k a b S.2.1 (pN S.2.2.1)
    · by_cases h3 : pN S.2.2.1 < 50
      · rw [tq_p0 h1 h2 h3]
        obtain ⟨k1, k2, k3, k4, k5, k6⟩ := hW
        exact ⟨k1, k2, addP_ok k3 h3 k2.2 h2, k4, k5, k6⟩
      · rw [tq_p3 h1 h2 h3]; exact hW
    · rw [tq_p2 h1 h2]; exact hW
  · rw [tq_p1 h1]; exact hW
