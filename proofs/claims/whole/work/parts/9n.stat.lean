/-! statements set down -/
def uf (f : Nat → Int) (k : Nat) (v : Int) : Nat → Int := fun x => if x = k then v else f x
theorem up_uf (w : WS) (c k : Nat) (v : Int) : (up w c k v) c = uf (w c) k v := by
  funext x
  unfold uf
  by_cases e : x = k
  · rw [if_pos e, e, up_same]
  · rw [if_neg e, up_slot _ _ _ _ e]
def addS (P : PV) (K v p t y n : Int) : PV := (fun i => if 15 ≤ i then (fun j => if 3 ≤ j then sC P + 1 else P.1 i j) else if i = 6 then uf (P.1 6) (sC P).toNat K else if i = 7 then uf (P.1 7) (sC P).toNat v else if i = 8 then uf (P.1 8) (sC P).toNat p else if i = 9 then uf (P.1 9) (sC P).toNat t else if i = 10 then uf (P.1 10) (sC P).toNat y else if i = 11 then uf (P.1 11) (sC P).toNat n else P.1 i, P.2)
theorem row_cases (i : Nat) : (i = 0 ∨ i = 1 ∨ i = 2 ∨ i = 3 ∨ i = 4 ∨ i = 5 ∨ i = 6 ∨ i = 7 ∨ i = 8 ∨ i = 9 ∨ i = 10 ∨ i = 11 ∨ i = 12 ∨ i = 13 ∨ i = 14) ∨ ∃ k, i = k + 15 := by
  by_cases h : i < 15
  · exact Or.inl (by omega)
  · exact Or.inr ⟨i - 15, by omega⟩
theorem slot_cases (j : Nat) : j = 0 ∨ j = 1 ∨ j = 2 ∨ ∃ q, j = q + 3 := by
  by_cases q : j < 3
  · omega
  · exact Or.inr (Or.inr (Or.inr ⟨j - 3, by omega⟩))
theorem ge15 (k : Nat) {α : Type} (a b : α) : (if 15 ≤ k + 15 then a else b) = a := if_pos (by omega)
theorem ge3 (k : Nat) {α : Type} (a b : α) : (if 3 ≤ k + 3 then a else b) = a := if_pos (by omega)
theorem pvC_addS {w w' : WS} {P : PV} {an : Int} (h : pvC w an = P) (e : ∀ c, c ∈ LPc → (c < 50 ∨ 70 < c) → w' c = w c) {K v p t y n : Int} (h59 : w' 59 = uf (w 59) (sC P).toNat K) (h61 : w' 61 = uf (w 61) (sC P).toNat v) (h63 : w' 63 = uf (w 63) (sC P).toNat p) (h65 : w' 65 = uf (w 65) (sC P).toNat t) (h67 : w' 67 = uf (w 67) (sC P).toNat y) (h69 : w' 69 = uf (w 69) (sC P).toNat n) (h57 : w' 57 6 = sC P + 1) : pvC w' an = addS P K v p t y n := by
  have r := fun i => congrFun (congrArg Prod.fst h) i
  refine Prod.ext ?_ ?_
  · funext i
    rcases row_cases i with hi | ⟨k, rfl⟩
    · rcases hi with rfl | rfl | rfl | rfl | rfl | rfl | rfl | rfl | rfl | rfl | rfl | rfl | rfl | rfl | rfl
      · exact (e 27 (by decide) (by omega)).trans (r 0)
      · exact (e 29 (by decide) (by omega)).trans (r 1)
      · exact (e 31 (by decide) (by omega)).trans (r 2)
      · exact (e 34 (by decide) (by omega)).trans (r 3)
      · exact (e 36 (by decide) (by omega)).trans (r 4)
      · exact (e 38 (by decide) (by omega)).trans (r 5)
      · exact h59.trans (by rw [show w 59 = P.1 6 from r 6]; rfl)
      · exact h61.trans (by rw [show w 61 = P.1 7 from r 7]; rfl)
      · exact h63.trans (by rw [show w 63 = P.1 8 from r 8]; rfl)
      · exact h65.trans (by rw [show w 65 = P.1 9 from r 9]; rfl)
      · exact h67.trans (by rw [show w 67 = P.1 10 from r 10]; rfl)
      · exact h69.trans (by rw [show w 69 = P.1 11 from r 11]; rfl)
      · exact (e 71 (by decide) (by omega)).trans (r 12)
      · exact (e 73 (by decide) (by omega)).trans (r 13)
      · exact (e 75 (by decide) (by omega)).trans (r 14)
    · refine Eq.trans (b := fun j => if 3 ≤ j then sC P + 1 else P.1 (k + 15) j) ?_ rfl
      funext j
      have rj := fun j => congrFun (r (k + 15)) j
      rcases slot_cases j with rfl | rfl | rfl | ⟨q, rfl⟩
      · exact rj 0
      · exact (congrFun (e 25 (by decide) (by omega)) 4).trans (rj 1)
      · exact (congrFun (e 32 (by decide) (by omega)) 4).trans (rj 2)
      · exact h57.trans (ge3 q _ _).symm
  · show rC w' 4 20 = P.2
    rw [rC_fr (e 5 (by decide) (by omega)) (e 6 (by decide) (by omega))]
    exact congrArg Prod.snd h
theorem pvR_addS {w w' : WS} {P : PV} (h : pvR w = P) (e : ∀ c, c ∈ LPr → (c < 114 ∨ 119 < c) → w' c = w c) (s : ∀ k, k ∈ [21, 11, 15] → w' 85 k = w 85 k) {K v p t y n : Int} (h59 : w' 114 = uf (w 114) (sC P).toNat K) (h61 : w' 115 = uf (w 115) (sC P).toNat v) (h63 : w' 116 = uf (w 116) (sC P).toNat p) (h65 : w' 117 = uf (w 117) (sC P).toNat t) (h67 : w' 118 = uf (w 118) (sC P).toNat y) (h69 : w' 119 = uf (w 119) (sC P).toNat n) (h57 : w' 85 51 = sC P + 1) : pvR w' = addS P K v p t y n := by
  have r := fun i => congrFun (congrArg Prod.fst h) i
  have en : nmR w' = nmR w := by
    funext k
    unfold nmR
    rw [e 122 (by decide) (by omega), e 123 (by decide) (by omega), e 124 (by decide) (by omega)]
  refine Prod.ext ?_ ?_
  · funext i
    rcases row_cases i with hi | ⟨k, rfl⟩
    · rcases hi with rfl | rfl | rfl | rfl | rfl | rfl | rfl | rfl | rfl | rfl | rfl | rfl | rfl | rfl | rfl
      · exact (e 91 (by decide) (by omega)).trans (r 0)
      · exact (e 92 (by decide) (by omega)).trans (r 1)
      · exact (e 93 (by decide) (by omega)).trans (r 2)
      · exact (e 94 (by decide) (by omega)).trans (r 3)
      · exact (e 95 (by decide) (by omega)).trans (r 4)
      · exact (e 96 (by decide) (by omega)).trans (r 5)
      · exact h59.trans (by rw [show w 114 = P.1 6 from r 6]; rfl)
      · exact h61.trans (by rw [show w 115 = P.1 7 from r 7]; rfl)
      · exact h63.trans (by rw [show w 116 = P.1 8 from r 8]; rfl)
      · exact h65.trans (by rw [show w 117 = P.1 9 from r 9]; rfl)
      · exact h67.trans (by rw [show w 118 = P.1 10 from r 10]; rfl)
      · exact h69.trans (by rw [show w 119 = P.1 11 from r 11]; rfl)
      · exact (e 120 (by decide) (by omega)).trans (r 12)
      · exact (e 121 (by decide) (by omega)).trans (r 13)
      · exact en.trans (r 14)
    · refine Eq.trans (b := fun j => if 3 ≤ j then sC P + 1 else P.1 (k + 15) j) ?_ rfl
      funext j
      have rj := fun j => congrFun (r (k + 15)) j
      rcases slot_cases j with rfl | rfl | rfl | ⟨q, rfl⟩
      · exact (s 21 (by simp)).trans (rj 0)
      · exact (s 11 (by simp)).trans (rj 1)
      · exact (s 15 (by simp)).trans (rj 2)
      · exact h57.trans (ge3 q _ _).symm
  · show rM w' 87 88 20 = P.2
    rw [rM_fr (e 87 (by decide) (by omega)) (e 88 (by decide) (by omega))]
    exact congrArg Prod.snd h
theorem uf_ne {f : Nat → Int} {k : Nat} {v : Int} {x : Nat} (h : x ≠ k) : uf f k v x = f x := if_neg h
theorem uf_same {f : Nat → Int} {k : Nat} {v : Int} : uf f k v k = v := if_pos rfl
theorem addS_ok {P : PV} (h : POK P) (hc : sC P < 40) {K v p t y n : Int} (hK : K = 97 ∨ K = 115 ∨ K = 99) (hv : 0 ≤ v ∧ v < 26) (hy : -4 ≤ y ∧ y ≤ 39) (hn : -4 ≤ n ∧ n ≤ 39) (ht : K ≠ 115 → 0 ≤ t ∧ t < tN P) (hs : K = 115 → (0 ≤ p ∧ p < pN P) ∧ (t = -1 ∨ (0 ≤ t ∧ t < tN P))) (hf : K = 99 → 0 ≤ p ∧ p < 5) : POK (addS P K v p t y n) := by
  obtain ⟨p1, p2, p3, p4, p5, p6, p7, p8, p9⟩ := h
  have eC : sC (addS P K v p t y n) = sC P + 1 := rfl
  refine ⟨p1, p2, p3, p4, p5, p6, ⟨by rw [eC]; omega, by rw [eC]; omega⟩, fun q q0 q1 => ?_, p9⟩
  rw [eC] at q1
  by_cases e : q = sC P
  · have k : sK (addS P K v p t y n) q = K ∧ sV (addS P K v p t y n) q = v ∧ sP (addS P K v p t y n) q = p ∧ sT (addS P K v p t y n) q = t ∧ sY (addS P K v p t y n) q = y ∧ sN (addS P K v p t y n) q = n := by
      rw [e]
      exact ⟨uf_same, uf_same, uf_same, uf_same, uf_same, uf_same⟩
    obtain ⟨k1, k2, k3, k4, k5, k6⟩ := k
    unfold SOK
    rw [k1, k2, k3, k4, k5, k6]
    exact ⟨hK, hv, hy, hn, ht, hs, hf⟩
  · have ne : q.toNat ≠ (sC P).toNat := by omega
    have k : sK (addS P K v p t y n) q = sK P q ∧ sV (addS P K v p t y n) q = sV P q ∧ sP (addS P K v p t y n) q = sP P q ∧ sT (addS P K v p t y n) q = sT P q ∧ sY (addS P K v p t y n) q = sY P q ∧ sN (addS P K v p t y n) q = sN P q := ⟨uf_ne ne, uf_ne ne, uf_ne ne, uf_ne ne, uf_ne ne, uf_ne ne⟩
    obtain ⟨k1, k2, k3, k4, k5, k6⟩ := k
    have := p8 q q0 (by omega)
    unfold SOK at this ⊢
    rw [k1, k2, k3, k4, k5, k6]
    exact this
/-- the class sets a statement down -/
theorem cl_add {S : St} {w : WS} (hW : WF S) (h : JC S w) (hc : sC S.2.2.1 < 40) (K v p t y n : Int) : Ev (f_X4_add K v p t y n w) (fun r w' => r = sC S.2.2.1 ∧ JC (stP S (addS S.2.2.1 K v p t y n)) w' ∧ ∀ c, 85 ≤ c → w' c = w c) := by
  have h0 := hW.cnt.2.2
  have h57 := h.cnt.2.2
  have hw := h
  unfold f_X4_add
  refine Ev.obe (f_put (i := 58) (n := 40) rfl (by omega) (by omega)) ?_
  refine Ev.obe (f_put (i := 60) (n := 40) rfl (by omega) (by omega)) ?_
  refine Ev.obe (f_put (i := 62) (n := 40) rfl (by omega) (by omega)) ?_
  refine Ev.obe (f_put (i := 64) (n := 40) rfl (by omega) (by omega)) ?_
  refine Ev.obe (f_put (i := 66) (n := 40) rfl (by omega) (by omega)) ?_
  refine Ev.obe (f_put (i := 68) (n := 40) rfl (by omega) (by omega)) ?_
  rw [h57]
  generalize hw6 : up (up (up (up (up (up w (58 + 1) (sC S.2.2.1).toNat K) (60 + 1) (sC S.2.2.1).toNat v) (62 + 1) (sC S.2.2.1).toNat p) (64 + 1) (sC S.2.2.1).toNat t) (66 + 1) (sC S.2.2.1).toNat y) (68 + 1) (sC S.2.2.1).toNat n = w6
  have g : ∀ c, c ≠ 59 → c ≠ 61 → c ≠ 63 → c ≠ 65 → c ≠ 67 → c ≠ 69 → w6 c = w c := fun c h1 h2 h3 h4 h5 h6 => by rw [← hw6, up_row _ _ _ h6, up_row _ _ _ h5, up_row _ _ _ h4, up_row _ _ _ h3, up_row _ _ _ h2, up_row _ _ _ h1]
  have e59 : w6 59 = uf (w 59) (sC S.2.2.1).toNat K := by rw [← hw6, up_row _ _ _ (by omega), up_row _ _ _ (by omega), up_row _ _ _ (by omega), up_row _ _ _ (by omega), up_row _ _ _ (by omega)]; exact up_uf _ _ _ _
  have e61 : w6 61 = uf (w 61) (sC S.2.2.1).toNat v := by rw [← hw6, up_row _ _ _ (by omega), up_row _ _ _ (by omega), up_row _ _ _ (by omega), up_row _ _ _ (by omega)]; exact (up_uf _ _ _ _).trans (by rw [up_row _ _ _ (by omega)])
  have e63 : w6 63 = uf (w 63) (sC S.2.2.1).toNat p := by rw [← hw6, up_row _ _ _ (by omega), up_row _ _ _ (by omega), up_row _ _ _ (by omega)]; exact (up_uf _ _ _ _).trans (by rw [up_row _ _ _ (by omega), up_row _ _ _ (by omega)])
  have e65 : w6 65 = uf (w 65) (sC S.2.2.1).toNat t := by rw [← hw6, up_row _ _ _ (by omega), up_row _ _ _ (by omega)]; exact (up_uf _ _ _ _).trans (by rw [up_row _ _ _ (by omega), up_row _ _ _ (by omega), up_row _ _ _ (by omega)])
  have e67 : w6 67 = uf (w 67) (sC S.2.2.1).toNat y := by rw [← hw6, up_row _ _ _ (by omega)]; exact (up_uf _ _ _ _).trans (by rw [up_row _ _ _ (by omega), up_row _ _ _ (by omega), up_row _ _ _ (by omega), up_row _ _ _ (by omega)])
  have e69 : w6 69 = uf (w 69) (sC S.2.2.1).toNat n := by rw [← hw6]; exact (up_uf _ _ _ _).trans (by rw [up_row _ _ _ (by omega), up_row _ _ _ (by omega), up_row _ _ _ (by omega), up_row _ _ _ (by omega), up_row _ _ _ (by omega)])
  have e57 : w6 57 6 = sC S.2.2.1 := (congrFun (g 57 (by omega) (by omega) (by omega) (by omega) (by omega) (by omega)) 6).trans h57
  clear hw6
  rw [e57]
  have G : ∀ c, c ≠ 57 → (up w6 57 6 (sC S.2.2.1 + 1)) c = w6 c := fun c hc => up_row _ _ _ hc
  have G6 : (up w6 57 6 (sC S.2.2.1 + 1)) 57 6 = sC S.2.2.1 + 1 := up_same _ _ _ _
  generalize up w6 57 6 (sC S.2.2.1 + 1) = w7 at G G6 ⊢
  have e : ∀ c, (c < 50 ∨ 70 < c) → w7 c = w c := fun c hc => (G c (by omega)).trans (g c (by omega) (by omega) (by omega) (by omega) (by omega) (by omega))
  obtain ⟨⟨a1, a2⟩, a3, a4, a5, ⟨b1, b2, b3, b4, b5, b6⟩, a7⟩ := h
  have e0 := e 0 (by omega)
  refine Ev.ret ⟨rfl, ⟨⟨(congrFun (rC_fr (e 2 (by omega)) (e 3 (by omega))) 0).trans a1, RO_fr (e 3 (by omega)) a2⟩, by rw [e0]; exact a3, ?_, a5.fr (e 8 (by omega)) (e 9 (by omega)), ⟨RO_fr (e 6 (by omega)) b1, RO_fr (e 12 (by omega)) b2, RO_fr (e 15 (by omega)) b3, RO_fr (e 18 (by omega)) b4, RO_fr (e 21 (by omega)) b5, RO_fr (e 24 (by omega)) b6⟩, ?_⟩, fun c hc => e c (by omega)⟩
  · rw [e0]
    exact pvC_addS a4 (fun c _ hc => e c hc) ((G 59 (by omega)).trans e59) ((G 61 (by omega)).trans e61) ((G 63 (by omega)).trans e63) ((G 65 (by omega)).trans e65) ((G 67 (by omega)).trans e67) ((G 69 (by omega)).trans e69) G6
  · unfold cSt
    rw [e 76 (by omega), e0, e 80 (by omega), e 82 (by omega)]
    exact a7
/-- the reference sets a statement down -/
theorem rf_add {S : St} {w : WS} (hW : WF S) (h : JM S w) (z0 : w 85 0 = 0) (K v p t y n : Int) (hK : 0 ≤ K ∧ K < 65536) : Ev (f_X9_add K v p t y n w) (fun r w' => (sC S.2.2.1 < 40 ∧ r = sC S.2.2.1 ∧ w' 85 0 = 0 ∧ JM (stP S (addS S.2.2.1 K v p t y n)) w' ∨ sC S.2.2.1 = 40 ∧ w' 85 0 = 3 ∧ JM S w') ∧ ∀ c, c < 85 ∨ 135 ≤ c → w' c = w c) := by
  have h0 := hW.cnt.2.2
  have h51 := h.cnt.2.2
  unfold f_X9_add
  rw [h51]
  unfold f_X9_add_15
  by_cases c : sC S.2.2.1 = 40
  · refine Ev.pos (by rw [c]) ?_
    rw [f_fails0 z0 3 (by omega) 1 (Or.inr rfl), if_neg (by decide), ob_some]
    exact Ev.neg (by decide) (Ev.ret ⟨Or.inr ⟨c, up_same _ _ _ _, h.z 3⟩, fun c hc => up_row _ _ _ (by omega)⟩)
  · refine Ev.neg (by first | (simp (disch := omega) only [wr_eq] <;> omega) | omega) ?_
    rw [f_fails0 z0 3 (by omega) 0 (Or.inl rfl), if_pos rfl, ob_some]
    refine Ev.pos rfl ?_
    obtain ⟨k, hk⟩ : ∃ k : Nat, sC S.2.2.1 = k := ⟨(sC S.2.2.1).toNat, by omega⟩
    rw [hk] at h51 h0 c
    have nc : nC K = K := by unfold nC; omega
    simp (disch := omega) only [up_row, up_same, h51, ixn, Int.toNat_natCast, nc]
    refine Ev.pos (by first | (simp (disch := omega) only [wr_eq] <;> omega) | omega) ?_; refine Ev.pos (by first | (simp (disch := omega) only [wr_eq] <;> omega) | omega) ?_; refine Ev.pos (by first | (simp (disch := omega) only [wr_eq] <;> omega) | omega) ?_; refine Ev.pos (by first | (simp (disch := omega) only [wr_eq] <;> omega) | omega) ?_; refine Ev.pos (by first | (simp (disch := omega) only [wr_eq] <;> omega) | omega) ?_; refine Ev.pos (by first | (simp (disch := omega) only [wr_eq] <;> omega) | omega) ?_
    generalize hw6 : up (up (up (up (up (up w 114 k K) 115 k v) 116 k p) 117 k t) 118 k y) 119 k n = w6
    have g : ∀ c, c ≠ 114 → c ≠ 115 → c ≠ 116 → c ≠ 117 → c ≠ 118 → c ≠ 119 → w6 c = w c := fun c h1 h2 h3 h4 h5 h6 => by rw [← hw6, up_row _ _ _ h6, up_row _ _ _ h5, up_row _ _ _ h4, up_row _ _ _ h3, up_row _ _ _ h2, up_row _ _ _ h1]
    have e59 : w6 114 = uf (w 114) k K := by rw [← hw6, up_row _ _ _ (by omega), up_row _ _ _ (by omega), up_row _ _ _ (by omega), up_row _ _ _ (by omega), up_row _ _ _ (by omega)]; exact up_uf _ _ _ _
    have e61 : w6 115 = uf (w 115) k v := by rw [← hw6, up_row _ _ _ (by omega), up_row _ _ _ (by omega), up_row _ _ _ (by omega), up_row _ _ _ (by omega)]; exact (up_uf _ _ _ _).trans (by rw [up_row _ _ _ (by omega)])
    have e63 : w6 116 = uf (w 116) k p := by rw [← hw6, up_row _ _ _ (by omega), up_row _ _ _ (by omega), up_row _ _ _ (by omega)]; exact (up_uf _ _ _ _).trans (by rw [up_row _ _ _ (by omega), up_row _ _ _ (by omega)])
    have e65 : w6 117 = uf (w 117) k t := by rw [← hw6, up_row _ _ _ (by omega), up_row _ _ _ (by omega)]; exact (up_uf _ _ _ _).trans (by rw [up_row _ _ _ (by omega), up_row _ _ _ (by omega), up_row _ _ _ (by omega)])
    have e67 : w6 118 = uf (w 118) k y := by rw [← hw6, up_row _ _ _ (by omega)]; exact (up_uf _ _ _ _).trans (by rw [up_row _ _ _ (by omega), up_row _ _ _ (by omega), up_row _ _ _ (by omega), up_row _ _ _ (by omega)])
    have e69 : w6 119 = uf (w 119) k n := by rw [← hw6]; exact (up_uf _ _ _ _).trans (by rw [up_row _ _ _ (by omega), up_row _ _ _ (by omega), up_row _ _ _ (by omega), up_row _ _ _ (by omega), up_row _ _ _ (by omega)])
    clear hw6
    have ck : (sC S.2.2.1).toNat = k := by omega
    have F : FX [85, 114, 115, 116, 117, 118, 119] [51] w (up w6 85 51 ((k : Int) + 1)) := by
      refine ⟨fun c hc => ?_, fun q hq => ?_⟩
      · have hc' : c ≠ 85 ∧ c ≠ 114 ∧ c ≠ 115 ∧ c ≠ 116 ∧ c ≠ 117 ∧ c ≠ 118 ∧ c ≠ 119 := by simpa using hc
        rw [up_row _ _ _ hc'.1]
        exact g c hc'.2.1 hc'.2.2.1 hc'.2.2.2.1 hc'.2.2.2.2.1 hc'.2.2.2.2.2.1 hc'.2.2.2.2.2.2
      · rw [up_slot _ _ _ _ (by simpa using hq), g 85 (by omega) (by omega) (by omega) (by omega) (by omega) (by omega)]
    have G6 : (up w6 85 51 ((k : Int) + 1)) 85 51 = (k : Int) + 1 := up_same _ _ _ _
    have G : ∀ c, c ≠ 85 → (up w6 85 51 ((k : Int) + 1)) c = w6 c := fun c hc => up_row _ _ _ hc
    generalize up w6 85 51 ((k : Int) + 1) = w7 at F G6 G ⊢
    obtain ⟨⟨a1, a2⟩, a3, a4, a5, ⟨b1, b2, b3⟩, a7, a8⟩ := h
    have e : ∀ c, c ≠ 85 → (c < 114 ∨ 119 < c) → w7 c = w c := fun c h1 h2 => F.1 c (by simp; omega)
    have s : ∀ q, q ≠ 51 → w7 85 q = w 85 q := fun q hq => F.2 q (by simp; omega)
    refine Ev.ret ⟨Or.inl ⟨by omega, by omega, (s 0 (by omega)).trans z0, ⟨(s 2 (by omega)).trans a1, by show sg (w7 86) _ _ = _; rw [e 86 (by omega) (by omega)]; exact a2⟩, (s 5 (by omega)).trans a3, ?_, a5.fr (e 89 (by omega) (by omega)) (e 90 (by omega) (by omega)), ⟨RM_fr (e 88 (by omega) (by omega)) b1, RM_fr (e 99 (by omega) (by omega)) b2, RM_fr (e 130 (by omega) (by omega)) b3⟩, ?_, ?_⟩, fun c hc => e c (by omega) (by omega)⟩
    · exact pvR_addS a4 (fun c hc h2 => e c (by have := LPr_ge c hc; omega) h2) (fun q hq => s q (by simp at hq; omega)) (by rw [ck, G 114 (by omega)]; exact e59) (by rw [ck, G 115 (by omega)]; exact e61) (by rw [ck, G 116 (by omega)]; exact e63) (by rw [ck, G 117 (by omega)]; exact e65) (by rw [ck, G 118 (by omega)]; exact e67) (by rw [ck, G 119 (by omega)]; exact e69) (by rw [hk]; exact G6)
    · rw [s 59 (by omega), s 61 (by omega), s 62 (by omega), s 60 (by omega), s 63 (by omega), e 125 (by omega) (by omega), e 126 (by omega) (by omega)]
      exact a7
    · rw [s 72 (by omega), s 73 (by omega), s 74 (by omega), s 75 (by omega), s 76 (by omega)]
      exact a8
