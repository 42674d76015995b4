/-! a run, between calls -/
theorem aLv_ok {P : PV} (hP : POK P) : ∀ (D : List Frm) (p : Int) (s : Bool) (V : Nat → List Int) (fl : Nat → Int), (0 ≤ p ∧ p < sC P) → DOK P D → (∀ k, 0 ≤ fl k ∧ (40 ≤ k → fl k = 0)) → ((aLv P D p s V fl).1 = 0 ∧ 0 ≤ (aLv P D p s V fl).2.1 ∧ (aLv P D p s V fl).2.1 < sC P ∨ (aLv P D p s V fl).1 = 1 ∨ (aLv P D p s V fl).1 = 2 ∧ 0 < (aLv P D p s V fl).2.1 ∧ (aLv P D p s V fl).2.1 ≤ 8) ∧ (∀ k, 0 ≤ (aLv P D p s V fl).2.2.2.2 k ∧ (40 ≤ k → (aLv P D p s V fl).2.2.2.2 k = 0)) ∧ DOK P (aLv P D p s V fl).2.2.1 := by
  have hc := hP.2.2.2.2.2.2.1
  have bf : ∀ (p : Int) (s : Bool) (fl : Nat → Int), (0 ≤ p ∧ p < sC P) → (∀ k, 0 ≤ fl k ∧ (40 ≤ k → fl k = 0)) → ∀ k, 0 ≤ aFl p s fl k ∧ (40 ≤ k → aFl p s fl k = 0) := by
    intro p s fl hp h k
    have hk := h k
    unfold aFl
    by_cases c : s = true
    · rw [if_pos c]; exact hk
    · rw [if_neg c]
      unfold bump
      by_cases e : k = p.toNat
      · rw [if_pos e]; exact ⟨by omega, fun q => by omega⟩
      · rw [if_neg e]; exact hk
  have six : ∀ (e : Int) (D : List Frm) (V : Nat → List Int) (f : Nat → Int), 0 < e → e ≤ 8 → ((((2 : Int), e, D, V, f) : Rs).1 = 0 ∧ 0 ≤ e ∧ e < sC P ∨ (((2 : Int), e, D, V, f) : Rs).1 = 1 ∨ (((2 : Int), e, D, V, f) : Rs).1 = 2 ∧ 0 < e ∧ e ≤ 8) := fun e D V f h1 h2 => Or.inr (Or.inr ⟨rfl, h1, h2⟩)
  intro D
  induction D with
  | nil =>
    intro p s V fl hp hD hf
    have b := bf p s fl hp hf
    unfold aLv
    by_cases c1 : aWay P p s = -4 ∨ (aWay P p s = -1 ∧ p + 1 = sC P)
    · rw [if_pos c1]; exact ⟨Or.inr (Or.inl rfl), b, hD⟩
    rw [if_neg c1]
    by_cases c2 : aWay P p s = -1
    · rw [if_pos c2]; exact ⟨Or.inl ⟨rfl, by show 0 ≤ p + 1; omega, by show p + 1 < sC P; omega⟩, b, hD⟩
    rw [if_neg c2]
    by_cases c3 : 0 ≤ aWay P p s
    · rw [if_pos c3]
      by_cases c4 : aWay P p s < sC P
      · rw [if_pos c4]; exact ⟨Or.inl ⟨rfl, c3, c4⟩, b, hD⟩
      · rw [if_neg c4]; exact ⟨six 7 _ _ _ (by omega) (by omega), b, hD⟩
    · rw [if_neg c3]; exact ⟨six 6 _ _ _ (by omega) (by omega), b, hD⟩
  | cons x D ih =>
    intro p s V fl hp hD hf
    have b := bf p s fl hp hf
    unfold aLv
    by_cases c1 : aWay P p s = -4 ∨ (aWay P p s = -1 ∧ p + 1 = sC P)
    · rw [if_pos c1]; exact ⟨Or.inr (Or.inl rfl), b, hD⟩
    rw [if_neg c1]
    by_cases c2 : aWay P p s = -1
    · rw [if_pos c2]; exact ⟨Or.inl ⟨rfl, by show 0 ≤ p + 1; omega, by show p + 1 < sC P; omega⟩, b, hD⟩
    rw [if_neg c2]
    by_cases c3 : 0 ≤ aWay P p s
    · rw [if_pos c3]
      by_cases c4 : aWay P p s < sC P
      · rw [if_pos c4]; exact ⟨Or.inl ⟨rfl, c3, c4⟩, b, hD⟩
      · rw [if_neg c4]; exact ⟨six 7 _ _ _ (by omega) (by omega), b, hD⟩
    · rw [if_neg c3]
      exact ih _ _ _ _ (hD x List.mem_cons_self).1 (fun y hy => hD y (List.mem_cons_of_mem _ hy)) b
theorem aOut_ok {P : PV} (hP : POK P) {p : Int} (hp : 0 ≤ p ∧ p < sC P) {V : Nat → List Int} (hV : VOK V) {D : List Frm} (hD : DOK P D) {fl : Nat → Int} (hf : ∀ k, 0 ≤ fl k ∧ (40 ≤ k → fl k = 0)) : ((aOut P p V D fl).1 = 0 ∧ 0 ≤ (aOut P p V D fl).2.1 ∧ (aOut P p V D fl).2.1 < sC P ∨ (aOut P p V D fl).1 = 1 ∨ (aOut P p V D fl).1 = 2 ∧ 0 < (aOut P p V D fl).2.1 ∧ (aOut P p V D fl).2.1 ≤ 8) ∧ (∀ k, 0 ≤ (aOut P p V D fl).2.2.2.2 k ∧ (40 ≤ k → (aOut P p V D fl).2.2.2.2 k = 0)) ∧ DOK P (aOut P p V D fl).2.2.1 := by
  obtain ⟨o1, o2⟩ := aDo_code hP hV D hp
  have hD2 : DOK P (aDo P p V D).2.2 := by
    have hs := hP.2.2.2.2.2.2.2.1 p hp.1 hp.2
    unfold aDo
    by_cases c1 : sK P p = 97
    · rw [if_pos c1]; exact hD
    rw [if_neg c1]
    by_cases c2 : sK P p = 115
    · rw [if_pos c2]; exact hD
    rw [if_neg c2]
    unfold aCall
    by_cases c3 : (pTm P V (sT P p)).1 = 0
    · rw [if_pos c3]
      by_cases c4 : fTd P (sP P p) = 1 ∧ D.length < 10
      · rw [if_pos c4]
        intro x hx
        rcases List.mem_cons.mp hx with rfl | hx
        · exact ⟨hp, by rcases hs.1 with q | q | q <;> first | exact q | exact absurd q ‹_›, c4.1, hV _, hV _, hV _⟩
        · exact hD x hx
      · rw [if_neg c4]; exact hD
    · rw [if_neg c3]; exact hD
  unfold aOut aBehind
  by_cases c1 : 0 < (aDo P p V D).1
  · rw [if_pos c1]; exact ⟨Or.inr (Or.inr ⟨rfl, c1, o1.2⟩), hf, hD2⟩
  rw [if_neg c1]
  by_cases c2 : (aDo P p V D).1 = -2
  · rw [if_pos c2]
    obtain ⟨k1, k2⟩ := o2 c2
    have hs := (hP.2.2.2.2.2.2.2.1 p hp.1 hp.2).2.2.2.2.2.2 k1
    have he := ((hP.2.2.2.2.2.2.2.2 (sP P p) hs.1 hs.2).2 k2).1
    by_cases c3 : fE P (sP P p) < sC P
    · rw [if_pos c3]; exact ⟨Or.inl ⟨rfl, he.1, c3⟩, hf, hD2⟩
    · rw [if_neg c3]; exact ⟨Or.inr (Or.inr ⟨rfl, by show (0 : Int) < 7; omega, by show (7 : Int) ≤ 8; omega⟩), hf, hD2⟩
  · rw [if_neg c2]
    exact aLv_ok hP _ _ _ _ _ hp hD2 hf
theorem sm_bump (f : Nat → Int) (p : Nat) : ∀ n : Nat, sm (bump f p) n = sm f n + (if p < n then 1 else 0) := by
  intro n
  induction n with
  | zero => rfl
  | succ n ih =>
    show sm (bump f p) n + bump f p n = sm f n + f n + _
    rw [ih]
    unfold bump
    by_cases e : n = p
    · rw [if_pos e, if_neg (by omega), if_pos (by omega)]; omega
    · rw [if_neg e]
      by_cases q : p < n
      · rw [if_pos q, if_pos (by omega)]; omega
      · rw [if_neg q, if_neg (by omega)]; omega
/-- what holds of a run's numbers, whatever it does -/
theorem aRun_ok {P : PV} (hP : POK P) (hVs : ∀ p V D, (0 ≤ p ∧ p < sC P) → VOK V → DOK P D → ∀ fl, VOK (aOut P p V D fl).2.2.2.1) (n : Nat) : ∀ (p : Int) (D : List Frm) (V : Nat → List Int) (dn fl : Nat → Int) (la mkk : Int), (0 ≤ p ∧ p < sC P) → VOK V → DOK P D → (∀ k, 0 ≤ dn k ∧ (40 ≤ k → dn k = 0)) → (∀ k, 0 ≤ fl k ∧ (40 ≤ k → fl k = 0)) → (0 ≤ la ∧ la ≤ 39) → sm dn 40 = mkk → 0 ≤ mkk → (0 ≤ (aRun P n p D V dn fl la mkk).1 ∧ (aRun P n p D V dn fl la mkk).1 < 65536) ∧ (0 ≤ (aRun P n p D V dn fl la mkk).2.1 ∧ (aRun P n p D V dn fl la mkk).2.1 ≤ 8) ∧ (0 ≤ (aRun P n p D V dn fl la mkk).2.2.1 ∧ (aRun P n p D V dn fl la mkk).2.2.1 ≤ 39) ∧ (0 ≤ (aRun P n p D V dn fl la mkk).2.2.2.1 ∧ (aRun P n p D V dn fl la mkk).2.2.2.1 ≤ mkk + n) ∧ (∀ k, 0 ≤ (aRun P n p D V dn fl la mkk).2.2.2.2.2.2.1 k ∧ (40 ≤ k → (aRun P n p D V dn fl la mkk).2.2.2.2.2.2.1 k = 0)) ∧ (∀ k, 0 ≤ (aRun P n p D V dn fl la mkk).2.2.2.2.2.2.2 k ∧ (40 ≤ k → (aRun P n p D V dn fl la mkk).2.2.2.2.2.2.2 k = 0)) ∧ sm (aRun P n p D V dn fl la mkk).2.2.2.2.2.2.1 40 = (aRun P n p D V dn fl la mkk).2.2.2.1 ∧ VOK (aRun P n p D V dn fl la mkk).2.2.2.2.2.1 := by
  have hc := hP.2.2.2.2.2.2.1
  induction n with
  | zero =>
    intro p D V dn fl la mkk hp hV hD hd hf hl hs h0
    exact ⟨⟨by show (0 : Int) ≤ 108; omega, by show (108 : Int) < 65536; omega⟩, ⟨by show (0 : Int) ≤ 0; omega, by show (0 : Int) ≤ 8; omega⟩, hl, ⟨h0, by show mkk ≤ mkk + ((0 : Nat) : Int); omega⟩, hd, hf, hs, hV⟩
  | succ n ih =>
    intro p D V dn fl la mkk hp hV hD hd hf hl hs h0
    rw [aRun_s]
    obtain ⟨a1, a2, a3⟩ := aOut_ok hP hp hV hD hf
    have a4 := hVs p V D hp hV hD fl
    have hd2 : ∀ k, 0 ≤ bump dn p.toNat k ∧ (40 ≤ k → bump dn p.toNat k = 0) := by
      intro k
      have hk := hd k
      unfold bump
      by_cases e : k = p.toNat
      · rw [if_pos e]; exact ⟨by omega, fun q => by omega⟩
      · rw [if_neg e]; exact hk
    have hs2 : sm (bump dn p.toNat) 40 = mkk + 1 := by rw [sm_bump, if_pos (by omega), hs]
    generalize aOut P p V D fl = R at *
    by_cases c1 : R.1 = 1
    · rw [if_pos c1]
      exact ⟨⟨by show (0 : Int) ≤ 100; omega, by show (100 : Int) < 65536; omega⟩, ⟨by show (0 : Int) ≤ 0; omega, by show (0 : Int) ≤ 8; omega⟩, ⟨hp.1, by show p ≤ 39; omega⟩, ⟨by show 0 ≤ mkk + 1; omega, by show mkk + 1 ≤ mkk + ((n + 1 : Nat) : Int); omega⟩, hd2, a2, hs2, a4⟩
    rw [if_neg c1]
    by_cases c2 : R.1 = 2
    · rw [if_pos c2]
      have e : 0 < R.2.1 ∧ R.2.1 ≤ 8 := by
        rcases a1 with q | q | q
        · exact absurd q.1 (by omega)
        · exact absurd q c1
        · exact q.2
      exact ⟨⟨by show (0 : Int) ≤ 120; omega, by show (120 : Int) < 65536; omega⟩, ⟨by show 0 ≤ R.2.1; omega, e.2⟩, ⟨hp.1, by show p ≤ 39; omega⟩, ⟨by show 0 ≤ mkk + 1; omega, by show mkk + 1 ≤ mkk + ((n + 1 : Nat) : Int); omega⟩, hd2, a2, hs2, a4⟩
    rw [if_neg c2]
    have e : 0 ≤ R.2.1 ∧ R.2.1 < sC P := by
      rcases a1 with q | q | q
      · exact q.2
      · exact absurd q c1
      · exact absurd q.1 c2
    obtain ⟨y1, y2, y3, y4, y5⟩ := ih R.2.1 R.2.2.1 R.2.2.2.1 (bump dn p.toNat) R.2.2.2.2 p (mkk + 1) e a4 a3 hd2 a2 ⟨hp.1, by omega⟩ hs2 (by omega)
    exact ⟨y1, y2, y3, ⟨y4.1, by omega⟩, y5⟩
