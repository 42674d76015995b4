/-! the reference's matcher stands for the machine -/
def LM : List Nat := [85, 89, 90, 101, 102, 103, 104, 105, 106, 107, 108, 109, 110, 111, 112, 113]
def SM : List Nat := [22, 27, 34, 38, 39, 40, 41, 42, 44]
def FM (w w' : WS) : Prop := Fr LM w w' ∧ ∀ k, k ∉ SM → w' 85 k = w 85 k
theorem FM.rf {w : WS} : FM w w := ⟨Fr.rf, fun _ _ => rfl⟩
theorem FM.tr {a b c : WS} (h : FM a b) (k : FM b c) : FM a c := ⟨h.1.tr k.1, fun q hq => (k.2 q hq).trans (h.2 q hq)⟩
theorem FM.put {a b : WS} (h : FM a b) (k : Nat) (v : Int) (hk : k ∈ SM) : FM a (up b 85 k v) := ⟨h.1.up (by decide), fun q hq => by
  have e : q ≠ k := fun e => hq (by rw [e]; exact hk)
  rw [up_slot _ _ _ _ e]
  exact h.2 q hq⟩
theorem FM.of {a b : WS} {L : List Nat} (h : Fr L a b) (hL : ∀ c ∈ L, c ∈ LM) (h85 : 85 ∉ L) : FM a b := ⟨h.sub hL, fun q _ => by rw [h 85 h85]⟩
def gk (k : Int) : Int := if k = 38 then 0 else if k = 36 then 1 else if k = 46 then 2 else 3
def go (E : EV) (p : Int) : Int := if pk E p = 103 then p else ps E p
def chR (E : EV) (w : WS) (g : Int) : List Nd → Int → Prop
  | [], r => r = -1
  | (p, f) :: K, r => 0 ≤ r ∧ r < g ∧ w 101 r.toNat = gk (pk E p) ∧ w 102 r.toNat = go E p ∧ (pk E p ≠ 38 → w 103 r.toNat = f) ∧ chR E w g K (w 104 r.toNat)
def choR (E : EV) (w : WS) : Int → List Ch → Prop
  | _, [] => True
  | g, (p, c, K, n) :: C => w 105 C.length = p ∧ (∃ far : Nat, w 106 C.length + far = c ∧ w 108 C.length = far ∧ 0 ≤ w 106 C.length ∧ (pk E p = 42 ∨ pk E p = 120 ∨ far = 0) ∧ (pk E p = 120 → balPre (eS E) (w 106 C.length) far)) ∧ w 109 C.length = n ∧ 0 ≤ w 110 C.length ∧ w 110 C.length ≤ g ∧ chR E w (w 110 C.length) K (w 107 C.length) ∧ choR E w (w 110 C.length) C
def tkR (w : WS) (T : List Tk) : Prop := w 85 38 = T.length ∧ ∀ k, k < T.length → ∀ x, T[k]? = some x → w 111 k = x.1 ∧ w 112 k = x.2.1 ∧ w 113 k = x.2.2
def BR (E : EV) (w : WS) (C : List Ch) (T : List Tk) (b : Int) (V : Nat → List Int) (s : Int) : Prop := EM E w ∧ w 85 22 = b ∧ w 85 43 = s ∧ VM w V ∧ (w 85 34 = C.length ∧ choR E w (w 85 27) C) ∧ tkR w T ∧ 0 ≤ w 85 27 ∧ (w 85 41 = 0 ∧ w 85 42 = 0)
def RepR (E : EV) : MS → WS → Prop
  | (0, g, c, K, C, T, b, V, s), w => BR E w C T b V s ∧ w 85 27 ≤ 4 * b + 3 ∧ w 85 39 = c ∧ (0 ≤ w 85 40 ∧ w 85 40 < w 85 27) ∧ w 101 (w 85 40).toNat = 0 ∧ w 102 (w 85 40).toNat = g ∧ chR E w (w 85 27) K (w 104 (w 85 40).toNat)
  | (1, _, c, K, C, T, b, V, s), w => BR E w C T b V s ∧ w 85 27 ≤ 4 * b + 1 ∧ w 85 39 = c ∧ chR E w (w 85 27) K (w 85 40)
  | (2, _, _, _, C, T, b, V, s), w => BR E w C T b V s ∧ w 85 27 ≤ 4 * b + 1
  | (3, _, _, _, _, _, b, V, s), w => EM E w ∧ w 85 22 = b ∧ w 85 43 = s ∧ VM w V ∧ (w 85 41 = 0 ∧ w 85 42 = 0)
  | (4, _, c, K, C, T, b, V, s), w => BR E w C T b V s ∧ w 85 27 ≤ 4 * b + 1 ∧ w 85 39 = c ∧ chR E w (w 85 27) K (w 85 40)
  | (5, _, _, _, _, _, b, V, _), w => EM E w ∧ w 85 22 = b ∧ VM w V ∧ w 85 42 = 0
  | (_, _, _, _, _, _, _, V, _), w => EM E w ∧ VM w V ∧ w 85 42 = 1
/-- nodes below g stand as they were -/
def NR (g : Int) (w w' : WS) : Prop := ∀ k : Nat, (k : Int) < g → w' 101 k = w 101 k ∧ w' 102 k = w 102 k ∧ w' 103 k = w 103 k ∧ w' 104 k = w 104 k
theorem NR.same {g : Int} {w w' : WS} (h1 : w' 101 = w 101) (h2 : w' 102 = w 102) (h3 : w' 103 = w 103) (h4 : w' 104 = w 104) : NR g w w' := fun k _ => ⟨by rw [h1], by rw [h2], by rw [h3], by rw [h4]⟩
theorem NR.le {g g' : Int} {w w' : WS} (h : NR g w w') (k : g' ≤ g) : NR g' w w' := fun q hq => h q (by omega)
theorem chR.mono {E : EV} {w w' : WS} {g g' : Int} (h : NR g w w') (hg : g ≤ g') : ∀ {K : List Nd} {r : Int}, chR E w g K r → chR E w' g' K r := by
  intro K
  induction K with
  | nil => intro r h; exact h
  | cons x K ih =>
    obtain ⟨p, f⟩ := x
    rintro r ⟨h1, h2, h3, h4, h5, h6⟩
    obtain ⟨q1, q2, q3, q4⟩ := h r.toNat (by omega)
    exact ⟨h1, by omega, by rw [q1]; exact h3, by rw [q2]; exact h4, fun q => by rw [q3]; exact h5 q, by rw [q4]; exact ih h6⟩
theorem choR.mono {E : EV} {w w' : WS} : ∀ {C : List Ch} {g g' : Int}, NR g w w' → g ≤ g' → (∀ k, k < C.length → w' 105 k = w 105 k ∧ w' 106 k = w 106 k ∧ w' 107 k = w 107 k ∧ w' 108 k = w 108 k ∧ w' 109 k = w 109 k ∧ w' 110 k = w 110 k) → choR E w g C → choR E w' g' C := by
  intro C
  induction C with
  | nil => intro _ _ _ _ _ _; trivial
  | cons x C ih =>
    obtain ⟨p, c, K, n⟩ := x
    rintro g g' hN hg hc ⟨h1, ⟨far, f1, f2, f3, f4, f5⟩, h3, h4, h5, h6, h7⟩
    obtain ⟨q1, q2, q3, q4, q5, q6⟩ := hc C.length (by rw [List.length_cons]; omega)
    refine ⟨by rw [q1]; exact h1, ⟨far, by rw [q2]; exact f1, by rw [q4]; exact f2, by rw [q2]; exact f3, f4, fun q => by rw [q2]; exact f5 q⟩, by rw [q5]; exact h3, by rw [q6]; exact h4, by rw [q6]; omega, ?_, ?_⟩
    · rw [q6, q3]
      exact h6.mono (hN.le h5) (Int.le_refl _)
    · rw [q6]
      exact ih (hN.le h5) (Int.le_refl _) (fun k hk => hc k (by rw [List.length_cons]; omega)) h7
theorem EM.fr {E : EV} {w w' : WS} (h : EM E w) (F : FM w w') : EM E w' := by
  obtain ⟨g1, g2, g3, g4, g5, g6, g7, g8⟩ := h
  have f87 := F.1 87 (by decide)
  have f88 := F.1 88 (by decide)
  exact ⟨(F.1 91 (by decide)).trans g1, (F.1 92 (by decide)).trans g2, (F.1 93 (by decide)).trans g3, (rM_fr f87 f88).trans g4, RM_fr f88 g5, by rw [F.1 100 (by decide)]; exact g6, (F.2 20 (by decide)).trans g7, (F.2 21 (by decide)).trans g8⟩
theorem VM.fr {w w' : WS} {V : Nat → List Int} (h : VM w V) (h1 : w' 89 = w 89) (h2 : w' 90 = w 90) : VM w' V := ⟨(rM_fr h1 h2).trans h.1, RM_fr h2 h.2⟩
theorem tkR.fr {w w' : WS} {T : List Tk} (h : tkR w T) (h0 : w' 85 38 = w 85 38) (h1 : w' 111 = w 111) (h2 : w' 112 = w 112) (h3 : w' 113 = w 113) : tkR w' T := ⟨h0.trans h.1, fun k hk x hx => by rw [h1, h2, h3]; exact h.2 k hk x hx⟩
/-- cells of the reference that have one object's slots changed alone -/
theorem FM.f85 (w : WS) (k : Nat) (v : Int) (hk : k ∈ SM) : FM w (up w 85 k v) := FM.rf.put k v hk
theorem BR.fld {E : EV} {w : WS} {C : List Ch} {T : List Tk} {b : Int} {V : Nat → List Int} {s : Int} (h : BR E w C T b V s) (k : Nat) (v : Int) (hk : k = 39 ∨ k = 40 ∨ k = 44) : BR E (up w 85 k v) C T b V s := by
  obtain ⟨g1, g2, g3, g4, ⟨g5, g6⟩, g7, g8, g9, g10⟩ := h
  have e : ∀ q, q ≠ 85 → (up w 85 k v) q = w q := fun q hq => up_row _ _ _ hq
  have s' : ∀ q, q ≠ 39 → q ≠ 40 → q ≠ 44 → (up w 85 k v) 85 q = w 85 q := fun q h1 h2 h3 => up_slot _ _ _ _ (by omega)
  refine ⟨g1.fr (FM.f85 w k v (by unfold SM; simp; omega)), (s' 22 (by omega) (by omega) (by omega)).trans g2, (s' 43 (by omega) (by omega) (by omega)).trans g3, g4.fr (e 89 (by omega)) (e 90 (by omega)), ⟨(s' 34 (by omega) (by omega) (by omega)).trans g5, ?_⟩, g7.fr (s' 38 (by omega) (by omega) (by omega)) (e 111 (by omega)) (e 112 (by omega)) (e 113 (by omega)), by rw [s' 27 (by omega) (by omega) (by omega)]; exact g8, (s' 41 (by omega) (by omega) (by omega)).trans g9, (s' 42 (by omega) (by omega) (by omega)).trans g10⟩
  rw [s' 27 (by omega) (by omega) (by omega)]
  refine g6.mono (NR.same (e 101 (by omega)) (e 102 (by omega)) (e 103 (by omega)) (e 104 (by omega))) (Int.le_refl _) (fun q _ => ?_)
  rw [e 105 (by omega), e 106 (by omega), e 107 (by omega), e 108 (by omega), e 109 (by omega), e 110 (by omega)]
  exact ⟨rfl, rfl, rfl, rfl, rfl, rfl⟩
theorem chR.fld {E : EV} {w : WS} {g : Int} {K : List Nd} {r : Int} (k : Nat) (v : Int) (h : chR E w g K r) : chR E (up w 85 k v) g K r := h.mono (NR.same (up_row _ _ _ (by omega)) (up_row _ _ _ (by omega)) (up_row _ _ _ (by omega)) (up_row _ _ _ (by omega))) (Int.le_refl _)
theorem goaW_FM (w : WS) (a b c d : Int) : FM w (goaW w a b c d) := ⟨(goaW_fr w a b c d).sub (by decide), fun k hk => goaW_85 w a b c d (fun e => hk (by rw [e]; decide))⟩
theorem chmW_FM (w : WS) (a b c d : Int) : FM w (chmW w a b c d) := ⟨(chmW_fr w a b c d).sub (by decide), fun k hk => chmW_85 w a b c d (fun e => hk (by rw [e]; decide))⟩
theorem goaW_NR (w : WS) (a b c d : Int) : NR (w 85 27) w (goaW w a b c d) := fun _ hk => goaW_old w a b c d hk
theorem BR.goal {E : EV} {w : WS} {C : List Ch} {T : List Tk} {b : Int} {V : Nat → List Int} {s : Int} (h : BR E w C T b V s) (x y z u : Int) : BR E (goaW w x y z u) C T b V s := by
  obtain ⟨g1, g2, g3, g4, ⟨g5, g6⟩, g7, g8, g9, g10⟩ := h
  have F := goaW_fr w x y z u
  have s' : ∀ q, q ≠ 27 → (goaW w x y z u) 85 q = w 85 q := fun q h1 => goaW_85 w x y z u h1
  refine ⟨g1.fr (goaW_FM w x y z u), (s' 22 (by omega)).trans g2, (s' 43 (by omega)).trans g3, g4.fr (F 89 (by simp)) (F 90 (by simp)), ⟨(s' 34 (by omega)).trans g5, ?_⟩, g7.fr (s' 38 (by omega)) (F 111 (by simp)) (F 112 (by simp)) (F 113 (by simp)), by rw [goaW_n]; omega, (s' 41 (by omega)).trans g9, (s' 42 (by omega)).trans g10⟩
  rw [goaW_n]
  refine g6.mono (goaW_NR w x y z u) (by omega) (fun q _ => ?_)
  rw [F 105 (by simp), F 106 (by simp), F 107 (by simp), F 108 (by simp), F 109 (by simp), F 110 (by simp)]
  exact ⟨rfl, rfl, rfl, rfl, rfl, rfl⟩
theorem goaW_ch {E : EV} {w : WS} {p f : Int} {K : List Nd} {x y z u : Int} (h0 : 0 ≤ w 85 27) (hx : x = gk (pk E p)) (hy : y = go E p) (hz : pk E p ≠ 38 → z = f) (hk : chR E w (w 85 27) K u) : chR E (goaW w x y z u) (w 85 27 + 1) ((p, f) :: K) (w 85 27) := by
  have nw := goaW_new w x y z u
  exact ⟨h0, by omega, nw.1.trans hx, nw.2.1.trans hy, fun q => nw.2.2.1.trans (hz q), by rw [nw.2.2.2]; exact hk.mono (goaW_NR w x y z u) (by omega)⟩
theorem BR.choi {E : EV} {w : WS} {C : List Ch} {T : List Tk} {b : Int} {V : Nat → List Int} {s : Int} {p c x z u : Int} {K : List Nd} {far : Nat} (h : BR E w C T b V s) (hx : x + far = c) (hu : u = far) (h0 : 0 ≤ x) (hk : pk E p = 42 ∨ pk E p = 120 ∨ far = 0) (hb : pk E p = 120 → balPre (eS E) x far) (hc : chR E w (w 85 27) K z) : BR E (chmW w p x z u) ((p, c, K, T.length) :: C) T b V s := by
  obtain ⟨g1, g2, g3, g4, ⟨g5, g6⟩, g7, g8, g9, g10⟩ := h
  have F := chmW_fr w p x z u
  have s' : ∀ q, q ≠ 34 → (chmW w p x z u) 85 q = w 85 q := fun q h1 => chmW_85 w p x z u h1
  have nw := chmW_new w p x z u
  have ht : (w 85 34).toNat = C.length := by omega
  rw [ht] at nw
  obtain ⟨n1, n2, n3, n4, n5, n6⟩ := nw
  have hN : ∀ g, NR g w (chmW w p x z u) := fun g => NR.same (F 101 (by simp)) (F 102 (by simp)) (F 103 (by simp)) (F 104 (by simp))
  refine ⟨g1.fr (chmW_FM w p x z u), (s' 22 (by omega)).trans g2, (s' 43 (by omega)).trans g3, g4.fr (F 89 (by simp)) (F 90 (by simp)), ⟨by rw [chmW_n, List.length_cons]; omega, ?_⟩, g7.fr (s' 38 (by omega)) (F 111 (by simp)) (F 112 (by simp)) (F 113 (by simp)), by rw [s' 27 (by omega)]; exact g8, (s' 41 (by omega)).trans g9, (s' 42 (by omega)).trans g10⟩
  rw [s' 27 (by omega)]
  refine ⟨n1, ⟨far, by rw [n2]; exact hx, by rw [n4]; exact hu, by rw [n2]; exact h0, hk, fun q => by rw [n2]; exact hb q⟩, by rw [n5]; exact g7.1, by rw [n6]; exact g8, by rw [n6]; exact Int.le_refl _, ?_, ?_⟩
  · rw [n6, n3]
    exact hc.mono (hN _) (Int.le_refl _)
  · rw [n6]
    exact g6.mono (hN _) (Int.le_refl _) (fun q hq => chmW_old w p x z u (by omega))
theorem chmW_ch {E : EV} {w : WS} {g : Int} {K : List Nd} {r : Int} (a b c d : Int) (h : chR E w g K r) : chR E (chmW w a b c d) g K r := by
  have F := chmW_fr w a b c d
  exact h.mono (NR.same (F 101 (by simp)) (F 102 (by simp)) (F 103 (by simp)) (F 104 (by simp))) (Int.le_refl _)
theorem BR.vals {E : EV} {w w2 : WS} {C : List Ch} {T : List Tk} {b : Int} {V V' : Nat → List Int} {s : Int} (h : BR E w C T b V s) (F : Fr [89, 90] w w2) (hv : VM w2 V') : BR E w2 C T b V' s := by
  obtain ⟨g1, g2, g3, g4, ⟨g5, g6⟩, g7, g8, g9, g10⟩ := h
  have e85 := F 85 (by simp)
  refine ⟨g1.fr (FM.of F (by decide) (by simp)), by rw [e85]; exact g2, by rw [e85]; exact g3, hv, ⟨by rw [e85]; exact g5, ?_⟩, g7.fr (by rw [e85]) (F 111 (by simp)) (F 112 (by simp)) (F 113 (by simp)), by rw [e85]; exact g8, by rw [e85]; exact g9, by rw [e85]; exact g10⟩
  rw [e85]
  refine g6.mono (NR.same (F 101 (by simp)) (F 102 (by simp)) (F 103 (by simp)) (F 104 (by simp))) (Int.le_refl _) (fun q _ => ?_)
  rw [F 105 (by simp), F 106 (by simp), F 107 (by simp), F 108 (by simp), F 109 (by simp), F 110 (by simp)]
  exact ⟨rfl, rfl, rfl, rfl, rfl, rfl⟩
theorem BR.begun {E : EV} {w : WS} {C : List Ch} {T : List Tk} {b : Int} {V : Nat → List Int} {s : Int} (h : BR E w C T b V s) : BR E (up w 85 22 (b + 1)) C T (b + 1) V s := by
  obtain ⟨g1, g2, g3, g4, ⟨g5, g6⟩, g7, g8, g9, g10⟩ := h
  have e : ∀ q, q ≠ 85 → (up w 85 22 (b + 1)) q = w q := fun q hq => up_row _ _ _ hq
  have s' : ∀ q, q ≠ 22 → (up w 85 22 (b + 1)) 85 q = w 85 q := fun q h1 => up_slot _ _ _ _ h1
  refine ⟨g1.fr (FM.f85 w 22 _ (by decide)), up_same _ _ _ _, (s' 43 (by omega)).trans g3, g4.fr (e 89 (by omega)) (e 90 (by omega)), ⟨(s' 34 (by omega)).trans g5, ?_⟩, g7.fr (s' 38 (by omega)) (e 111 (by omega)) (e 112 (by omega)) (e 113 (by omega)), by rw [s' 27 (by omega)]; exact g8, (s' 41 (by omega)).trans g9, (s' 42 (by omega)).trans g10⟩
  rw [s' 27 (by omega)]
  refine g6.mono (NR.same (e 101 (by omega)) (e 102 (by omega)) (e 103 (by omega)) (e 104 (by omega))) (Int.le_refl _) (fun q _ => ?_)
  rw [e 105 (by omega), e 106 (by omega), e 107 (by omega), e 108 (by omega), e 109 (by omega), e 110 (by omega)]
  exact ⟨rfl, rfl, rfl, rfl, rfl, rfl⟩
