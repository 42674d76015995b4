/-! functions told -/
def defS (P : PV) (f : Nat) (e a b c : Int) : PV := (fun i => if i = 12 then uf (P.1 12) f 1 else if i = 13 then uf (P.1 13) f e else if i = 14 then uf (uf (uf (P.1 14) (3 * f) a) (3 * f + 1) b) (3 * f + 2) c else P.1 i, P.2)
theorem pvC_defS {w w' : WS} {P : PV} {an : Int} (h : pvC w an = P) {f : Nat} {x a b c : Int} (e : ∀ c, c ∈ LPc → c ≠ 71 → c ≠ 73 → c ≠ 75 → w' c = w c) (h71 : w' 71 = uf (w 71) f 1) (h73 : w' 73 = uf (w 73) f x) (h75 : w' 75 = uf (uf (uf (w 75) (3 * f) a) (3 * f + 1) b) (3 * f + 2) c) : pvC w' an = defS P f x a b c := by
  have r := fun i => congrFun (congrArg Prod.fst h) i
  refine Prod.ext ?_ ?_
  · funext i
    rcases row_cases i with hi | ⟨k, rfl⟩
    · rcases hi with rfl | rfl | rfl | rfl | rfl | rfl | rfl | rfl | rfl | rfl | rfl | rfl | rfl | rfl | rfl
      · exact (e 27 (by decide) (by omega) (by omega) (by omega)).trans (r 0)
      · exact (e 29 (by decide) (by omega) (by omega) (by omega)).trans (r 1)
      · exact (e 31 (by decide) (by omega) (by omega) (by omega)).trans (r 2)
      · exact (e 34 (by decide) (by omega) (by omega) (by omega)).trans (r 3)
      · exact (e 36 (by decide) (by omega) (by omega) (by omega)).trans (r 4)
      · exact (e 38 (by decide) (by omega) (by omega) (by omega)).trans (r 5)
      · exact (e 59 (by decide) (by omega) (by omega) (by omega)).trans (r 6)
      · exact (e 61 (by decide) (by omega) (by omega) (by omega)).trans (r 7)
      · exact (e 63 (by decide) (by omega) (by omega) (by omega)).trans (r 8)
      · exact (e 65 (by decide) (by omega) (by omega) (by omega)).trans (r 9)
      · exact (e 67 (by decide) (by omega) (by omega) (by omega)).trans (r 10)
      · exact (e 69 (by decide) (by omega) (by omega) (by omega)).trans (r 11)
      · exact h71.trans (by rw [show w 71 = P.1 12 from r 12]; rfl)
      · exact h73.trans (by rw [show w 73 = P.1 13 from r 13]; rfl)
      · exact h75.trans (by rw [show w 75 = P.1 14 from r 14]; rfl)
    · have e1 : (defS P f x a b c).1 (k + 15) = P.1 (k + 15) := by
        unfold defS
        show (if k + 15 = 12 then uf (P.1 12) f 1 else if k + 15 = 13 then uf (P.1 13) f x else if k + 15 = 14 then uf (uf (uf (P.1 14) (3 * f) a) (3 * f + 1) b) (3 * f + 2) c else P.1 (k + 15)) = _
        rw [if_neg (by omega), if_neg (by omega), if_neg (by omega)]
      rw [e1]
      funext j
      have rj := fun j => congrFun (r (k + 15)) j
      rcases slot_cases j with rfl | rfl | rfl | ⟨q, rfl⟩
      · exact rj 0
      · exact (congrFun (e 25 (by decide) (by omega) (by omega) (by omega)) 4).trans (rj 1)
      · exact (congrFun (e 32 (by decide) (by omega) (by omega) (by omega)) 4).trans (rj 2)
      · exact (congrFun (e 57 (by decide) (by omega) (by omega) (by omega)) 6).trans (rj (q + 3))
  · show rC w' 4 20 = P.2
    rw [rC_fr (e 5 (by decide) (by omega) (by omega) (by omega)) (e 6 (by decide) (by omega) (by omega) (by omega))]
    exact congrArg Prod.snd h
theorem pvR_defS {w w' : WS} {P : PV} (h : pvR w = P) {f : Nat} {x a b c : Int} (e : ∀ c, c ∈ LPr → (c < 120 ∨ 124 < c) → w' c = w c) (s : ∀ k, k ∈ [21, 11, 15, 51] → w' 85 k = w 85 k) (h71 : w' 120 = uf (w 120) f 1) (h73 : w' 121 = uf (w 121) f x) (h0 : w' 122 = uf (w 122) f a) (h1 : w' 123 = uf (w 123) f b) (h2 : w' 124 = uf (w 124) f c) : pvR w' = defS P f x a b c := by
  have r := fun i => congrFun (congrArg Prod.fst h) i
  have en : nmR w' = uf (uf (uf (nmR w) (3 * f) a) (3 * f + 1) b) (3 * f + 2) c := by
    funext k
    by_cases k2 : k = 3 * f + 2
    · rw [k2, uf_same]
      unfold nmR
      rw [if_neg (by omega), if_neg (by omega), h2, show (3 * f + 2) / 3 = f from by omega, uf_same]
    rw [uf_ne k2]
    by_cases k1 : k = 3 * f + 1
    · rw [k1, uf_same]
      unfold nmR
      rw [if_neg (by omega), if_pos (by omega), h1, show (3 * f + 1) / 3 = f from by omega, uf_same]
    rw [uf_ne k1]
    by_cases k0 : k = 3 * f
    · rw [k0, uf_same]
      unfold nmR
      rw [if_pos (by omega), h0, show (3 * f) / 3 = f from by omega, uf_same]
    rw [uf_ne k0]
    unfold nmR
    by_cases m0 : k % 3 = 0
    · rw [if_pos m0, if_pos m0, h0, uf_ne (by omega)]
    rw [if_neg m0, if_neg m0]
    by_cases m1 : k % 3 = 1
    · rw [if_pos m1, if_pos m1, h1, uf_ne (by omega)]
    · rw [if_neg m1, if_neg m1, h2, uf_ne (by omega)]
  refine Prod.ext ?_ ?_
  · funext i
    rcases row_cases i with hi | ⟨k, rfl⟩
    · rcases hi with rfl | rfl | rfl | rfl | rfl | rfl | rfl | rfl | rfl | rfl | rfl | rfl | rfl | rfl | rfl
      · exact (e 91 (by decide) (by omega)).trans (r 0)
      · exact (e 92 (by decide) (by omega)).trans (r 1)
      · exact (e 93 (by decide) (by omega)).trans (r 2)
      · exact (e 94 (by decide) (by omega)).trans (r 3)
      · exact (e 95 (by decide) (by omega)).trans (r 4)
      · exact (e 96 (by decide) (by omega)).trans (r 5)
      · exact (e 114 (by decide) (by omega)).trans (r 6)
      · exact (e 115 (by decide) (by omega)).trans (r 7)
      · exact (e 116 (by decide) (by omega)).trans (r 8)
      · exact (e 117 (by decide) (by omega)).trans (r 9)
      · exact (e 118 (by decide) (by omega)).trans (r 10)
      · exact (e 119 (by decide) (by omega)).trans (r 11)
      · exact h71.trans (by rw [show w 120 = P.1 12 from r 12]; rfl)
      · exact h73.trans (by rw [show w 121 = P.1 13 from r 13]; rfl)
      · exact en.trans (by rw [show nmR w = P.1 14 from r 14]; rfl)
    · have e1 : (defS P f x a b c).1 (k + 15) = P.1 (k + 15) := by
        unfold defS
        show (if k + 15 = 12 then uf (P.1 12) f 1 else if k + 15 = 13 then uf (P.1 13) f x else if k + 15 = 14 then uf (uf (uf (P.1 14) (3 * f) a) (3 * f + 1) b) (3 * f + 2) c else P.1 (k + 15)) = _
        rw [if_neg (by omega), if_neg (by omega), if_neg (by omega)]
      rw [e1]
      funext j
      have rj := fun j => congrFun (r (k + 15)) j
      rcases slot_cases j with rfl | rfl | rfl | ⟨q, rfl⟩
      · exact (s 21 (by simp)).trans (rj 0)
      · exact (s 11 (by simp)).trans (rj 1)
      · exact (s 15 (by simp)).trans (rj 2)
      · exact (s 51 (by simp)).trans (rj (q + 3))
  · show rM w' 87 88 20 = P.2
    rw [rM_fr (e 87 (by decide) (by omega)) (e 88 (by decide) (by omega))]
    exact congrArg Prod.snd h
theorem defS_ok {P : PV} (h : POK P) {f : Nat} (hf : f < 5) {x a b c : Int} (hx : 0 ≤ x ∧ x ≤ 39) (ha : 0 ≤ a ∧ a < 26) (hb : 0 ≤ b ∧ b < 26) (hc : 0 ≤ c ∧ c < 26) (hab : a ≠ b) (hac : a ≠ c) (hbc : b ≠ c) : POK (defS P f x a b c) := by
  obtain ⟨p1, p2, p3, p4, p5, p6, p7, p8, p9⟩ := h
  refine ⟨p1, p2, p3, p4, p5, p6, p7, p8, fun g g0 g1 => ?_⟩
  obtain ⟨g, rfl⟩ : ∃ n : Nat, g = n := ⟨g.toNat, by omega⟩
  have eN : ∀ i : Nat, fN (defS P f x a b c) (g : Int) i = uf (uf (uf (P.1 14) (3 * f) a) (3 * f + 1) b) (3 * f + 2) c (3 * g + i) := fun i => rfl
  by_cases e : g = f
  · subst e
    have k1 : fTd (defS P g x a b c) g = 1 := uf_same
    have k2 : fE (defS P g x a b c) g = x := uf_same
    have n0 : fN (defS P g x a b c) g 0 = a := by rw [eN, uf_ne (by omega), uf_ne (by omega)]; exact uf_same
    have n1 : fN (defS P g x a b c) g 1 = b := by rw [eN, uf_ne (by omega)]; exact uf_same
    have n2 : fN (defS P g x a b c) g 2 = c := by rw [eN]; exact uf_same
    unfold FOK
    rw [k1, k2, n0, n1, n2]
    exact ⟨Or.inr rfl, fun _ => ⟨hx, ha, hb, hc, hab, hac, hbc⟩⟩
  · have k1 : fTd (defS P f x a b c) g = fTd P g := uf_ne e
    have k2 : fE (defS P f x a b c) g = fE P g := uf_ne e
    have nn : ∀ i, i < 3 → fN (defS P f x a b c) g i = fN P g i := fun i hi => by rw [eN, uf_ne (by omega), uf_ne (by omega), uf_ne (by omega)]; rfl
    have := p9 g g0 g1
    unfold FOK at this ⊢
    rw [k1, k2, nn 0 (by omega), nn 1 (by omega), nn 2 (by omega)]
    exact this
def o1D (f x a b c : Int) : Prop := (0 ≤ f ∧ f < 5) ∧ (0 ≤ x ∧ x < 40) ∧ a ≠ b ∧ a ≠ c ∧ b ≠ c
def o2D (a b c : Int) : Prop := (0 ≤ a ∧ a < 26) ∧ (0 ≤ b ∧ b < 26) ∧ (0 ≤ c ∧ c < 26)
noncomputable def tq_define (f x a b c : Int) (S : St) : TQ := @ite TQ (o1D f x a b c) (Classical.propDecidable _) (@ite TQ (o2D a b c) (Classical.propDecidable _) (0, fTd S.2.2.1 f, stP S (defS S.2.2.1 f.toNat x a b c)) (2, 0, S)) (1, 0, S)
theorem tq_d1 {f x a b c : Int} {S : St} (h : ¬ o1D f x a b c) : tq_define f x a b c S = (1, 0, S) := if_neg h
theorem tq_d2 {f x a b c : Int} {S : St} (h : o1D f x a b c) (h2 : ¬ o2D a b c) : tq_define f x a b c S = (2, 0, S) := (if_pos h).trans (if_neg h2)
theorem tq_d0 {f x a b c : Int} {S : St} (h : o1D f x a b c) (h2 : o2D a b c) : tq_define f x a b c S = (0, fTd S.2.2.1 f, stP S (defS S.2.2.1 f.toNat x a b c)) := (if_pos h).trans (if_pos h2)
theorem tq_define_WF {f x a b c : Int} {S : St} (hW : WF S) : WF (tq_define f x a b c S).2.2 := by
  by_cases h1 : o1D f x a b c
  · by_cases h2 : o2D a b c
    · rw [tq_d0 h1 h2]
      obtain ⟨k1, k2, k3, k4, k5, k6⟩ := hW
      obtain ⟨q1, q2, q3, q4, q5⟩ := h1
      obtain ⟨r1, r2, r3⟩ := h2
      exact ⟨k1, k2, defS_ok k3 (by omega) (by omega) r1 r2 r3 q3 q4 q5, k4, k5, k6⟩
    · rw [tq_d2 h1 h2]; exact hW
  · rw [tq_d1 h1]; exact hW
