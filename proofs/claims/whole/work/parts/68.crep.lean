/-! the class's Matcher stands for the machine -/
def LC : List Nat := [8, 9, 39, 40, 41, 42, 43, 44, 45, 46, 47, 49, 50, 51, 52, 53]
def chC (w : WS) : List Nd → Int → Prop
  | [], r => r = -1
  | (p, f) :: K, r => 0 ≤ r ∧ r < w 40 3 ∧ w 41 r.toNat = p ∧ w 42 r.toNat = f ∧ chC w K (w 43 r.toNat)
def choC (w : WS) : List Ch → Prop
  | [] => True
  | (p, c, K, n) :: C => w 45 C.length = p ∧ w 46 C.length = c ∧ chC w K (w 47 C.length) ∧ w 49 C.length = n ∧ choC w C
def tkC (w : WS) (T : List Tk) : Prop := w 50 3 = T.length ∧ ∀ k, k < T.length → ∀ x, T[k]? = some x → w 51 k = x.1 ∧ w 52 k = x.2.1 ∧ w 53 k = x.2.2
def EC (E : EV) (w : WS) : Prop := w 27 = E.1 ∧ w 29 = E.2.1 ∧ w 31 = E.2.2.1 ∧ rC w 4 20 = eT E ∧ RO w 4 20 30 ∧ rC w 13 60 0 = eS E ∧ RO w 13 60 1 ∧ w 39 8 = eP E ∧ w 39 9 = eA E ∧ w 39 10 = (eS E).length
def VC (w : WS) (V : Nat → List Int) : Prop := rC w 7 60 = V ∧ RO w 7 60 26
def BC (E : EV) (w : WS) (C : List Ch) (T : List Tk) (b : Int) (V : Nat → List Int) (s : Int) : Prop := EC E w ∧ w 39 12 = b ∧ w 39 11 = s ∧ VC w V ∧ (w 44 3 = C.length ∧ choC w C) ∧ tkC w T ∧ 0 ≤ w 40 3
def nbo (b N : Int) : Prop := N + 1 ≤ 2 * b ∨ (b = 0 ∧ N = 0)
def RepC (E : EV) : MS → WS → Prop
  | (0, g, c, K, C, T, b, V, s), w => BC E w C T b V s ∧ w 40 3 ≤ 2 * b ∧ w 39 13 = g ∧ w 39 14 = c ∧ chC w K (w 39 15)
  | (1, _, c, K, C, T, b, V, s), w => BC E w C T b V s ∧ nbo b (w 40 3) ∧ w 39 14 = c ∧ chC w K (w 39 15)
  | (2, _, _, _, C, T, b, V, s), w => BC E w C T b V s ∧ nbo b (w 40 3)
  | (3, _, _, _, _, _, b, V, s), w => EC E w ∧ w 39 12 = b ∧ w 39 11 = s ∧ VC w V ∧ w 44 3 = 0 ∧ 0 ≤ w 40 3 ∧ nbo b (w 40 3)
  | (4, _, c, K, C, T, b, V, s), w => BC E w C T b V s ∧ nbo b (w 40 3) ∧ w 39 14 = c ∧ chC w K (w 39 15)
  | (5, _, _, _, _, _, b, V, _), w => EC E w ∧ w 39 12 = b ∧ VC w V
  | (_, _, _, _, _, _, _, V, _), w => EC E w ∧ VC w V
def cm : Nat → Int
  | 0 => 4
  | 1 => 8
  | 2 => 9
  | 3 => 9
  | 4 => 1
  | 5 => 2
  | _ => 3
/-- older nodes stand as they were -/
def NA (w w' : WS) : Prop := w 40 3 ≤ w' 40 3 ∧ ∀ k : Nat, (k : Int) < w 40 3 → w' 41 k = w 41 k ∧ w' 42 k = w 42 k ∧ w' 43 k = w 43 k
theorem NA.same {w w' : WS} (h : w' 40 3 = w 40 3) (h1 : w' 41 = w 41) (h2 : w' 42 = w 42) (h3 : w' 43 = w 43) : NA w w' := ⟨by omega, fun k _ => ⟨by rw [h1], by rw [h2], by rw [h3]⟩⟩
theorem chC.mono {w w' : WS} (h : NA w w') : ∀ {K : List Nd} {r : Int}, chC w K r → chC w' K r := by
  intro K
  induction K with
  | nil => intro r h; exact h
  | cons x K ih =>
    obtain ⟨p, f⟩ := x
    rintro r ⟨h1, h2, h3, h4, h5⟩
    obtain ⟨n1, n2⟩ := h
    obtain ⟨q1, q2, q3⟩ := n2 r.toNat (by omega)
    exact ⟨h1, by omega, by rw [q1]; exact h3, by rw [q2]; exact h4, by rw [q3]; exact ih h5⟩
theorem choC.mono {w w' : WS} (h : NA w w') : ∀ {C : List Ch}, (∀ k, k < C.length → w' 45 k = w 45 k ∧ w' 46 k = w 46 k ∧ w' 47 k = w 47 k ∧ w' 49 k = w 49 k) → choC w C → choC w' C := by
  intro C
  induction C with
  | nil => intro _ _; trivial
  | cons x C ih =>
    obtain ⟨p, c, K, n⟩ := x
    rintro hc ⟨h1, h2, h3, h4, h5⟩
    obtain ⟨q1, q2, q3, q4⟩ := hc C.length (by rw [List.length_cons]; omega)
    exact ⟨by rw [q1]; exact h1, by rw [q2]; exact h2, by rw [q3]; exact h3.mono h, by rw [q4]; exact h4, ih (fun k hk => hc k (by rw [List.length_cons]; omega)) h5⟩
theorem EC.fr {E : EV} {w w' : WS} (h : EC E w) (F : Fr LC w w') (h8 : w' 39 8 = w 39 8) (h9 : w' 39 9 = w 39 9) (h10 : w' 39 10 = w 39 10) : EC E w' := by
  obtain ⟨g1, g2, g3, g4, g5, g6, g7, g8, g9, g10⟩ := h
  have f5 := F 5 (by decide)
  have f6 := F 6 (by decide)
  have f14 := F 14 (by decide)
  have f15 := F 15 (by decide)
  exact ⟨(F 27 (by decide)).trans g1, (F 29 (by decide)).trans g2, (F 31 (by decide)).trans g3, (rC_fr f5 f6).trans g4, RO_fr f6 g5, (congrFun (rC_fr f14 f15) 0).trans g6, RO_fr f15 g7, h8.trans g8, h9.trans g9, h10.trans g10⟩
theorem VC.fr {w w' : WS} {V : Nat → List Int} (h : VC w V) (h1 : w' 8 = w 8) (h2 : w' 9 = w 9) : VC w' V := ⟨(rC_fr h1 h2).trans h.1, RO_fr h2 h.2⟩
theorem tkC.fr {w w' : WS} {T : List Tk} (h : tkC w T) (h0 : w' 50 3 = w 50 3) (h1 : w' 51 = w 51) (h2 : w' 52 = w 52) (h3 : w' 53 = w 53) : tkC w' T := ⟨h0.trans h.1, fun k hk x hx => by rw [h1, h2, h3]; exact h.2 k hk x hx⟩
/-- only the matcher's pattern, cursor and rest have changed -/
theorem BC.fld {E : EV} {w w' : WS} {C : List Ch} {T : List Tk} {b : Int} {V : Nat → List Int} {s : Int} (h : BC E w C T b V s) (F : Fr [39] w w') (h8 : w' 39 8 = w 39 8) (h9 : w' 39 9 = w 39 9) (h10 : w' 39 10 = w 39 10) (h11 : w' 39 11 = w 39 11) (h12 : w' 39 12 = w 39 12) : BC E w' C T b V s := by
  obtain ⟨g1, g2, g3, g4, ⟨g5, g6⟩, g7, g8⟩ := h
  have e : ∀ c, c ≠ 39 → w' c = w c := fun c hc => F c (by simpa using hc)
  refine ⟨g1.fr (F.sub (by decide)) h8 h9 h10, h12.trans g2, h11.trans g3, g4.fr (e 8 (by omega)) (e 9 (by omega)), ⟨by rw [e 44 (by omega)]; exact g5, ?_⟩, g7.fr (by rw [e 50 (by omega)]) (e 51 (by omega)) (e 52 (by omega)) (e 53 (by omega)), by rw [e 40 (by omega)]; exact g8⟩
  refine g6.mono (NA.same (by rw [e 40 (by omega)]) (e 41 (by omega)) (e 42 (by omega)) (e 43 (by omega))) (fun k _ => ?_)
  rw [e 45 (by omega), e 46 (by omega), e 47 (by omega), e 49 (by omega)]
  exact ⟨rfl, rfl, rfl, rfl⟩
theorem chC.fld {w w' : WS} {K : List Nd} {r : Int} (h : chC w K r) (F : Fr [39] w w') : chC w' K r := h.mono (NA.same (by rw [F 40 (by simp)]) (F 41 (by simp)) (F 42 (by simp)) (F 43 (by simp)))
/-- a turn of the class's loop -/
def GoT (w : WS) (a : Int) (w' : WS) (a' : Int) (k : Nat) : Prop := ∀ m t : Nat, t + k ≤ 9999999 → f_X2_seek_5 (m + k) a t w = f_X2_seek_5 m a' ((t + k : Nat) : Int) w'
theorem GoT.rf (w : WS) (a : Int) : GoT w a w a 0 := fun _ _ _ => rfl
theorem GoT.tr {w w1 w2 : WS} {a a1 a2 : Int} {k k1 : Nat} (h : GoT w a w1 a1 k) (h1 : GoT w1 a1 w2 a2 k1) : GoT w a w2 a2 (k + k1) := fun m t ht => by
  have e := h (m + k1) t (by omega)
  rw [show m + k1 + k = m + (k + k1) from by omega] at e
  rw [e, h1 m (t + k) (by omega), Nat.add_assoc]
theorem goes_4 {w w' : WS} {v : Int} (h : f_X2_begin w = some (v, w')) : GoT w 4 w' v 1 := fun m t ht => by
  rw [f_X2_seek_5_s]
  refine (if_pos (by first | (simp (disch := omega) only [wr_eq] <;> omega) | omega)).trans ((if_pos rfl).trans ?_)
  rw [h]
  rfl
theorem goes_5 {w w1 w' : WS} {v v1 : Int} (h1 : f_X2_endOfSingle w = some (v1, w1)) (h : f_X2_goTo v1 w1 = some (v, w')) : GoT w 5 w' v 1 := fun m t ht => by
  rw [f_X2_seek_5_s]
  refine (if_pos (by first | (simp (disch := omega) only [wr_eq] <;> omega) | omega)).trans ((if_neg (by decide)).trans ((if_pos rfl).trans ?_))
  rw [h1, ob_some, h]
  rfl
theorem goes_6 {w w' : WS} {v : Int} (h : f_X2_balance w = some (v, w')) : GoT w 6 w' v 1 := fun m t ht => by
  rw [f_X2_seek_5_s]
  refine (if_pos (by first | (simp (disch := omega) only [wr_eq] <;> omega) | omega)).trans ((if_neg (by decide)).trans ((if_neg (by decide)).trans ((if_pos rfl).trans ?_)))
  rw [h]
  rfl
theorem goes_7 {w w' : WS} {v : Int} (h : f_X2_addChoice w = some (v, w')) : GoT w 7 w' 8 1 := fun m t ht => by
  rw [f_X2_seek_5_s]
  refine (if_pos (by first | (simp (disch := omega) only [wr_eq] <;> omega) | omega)).trans ((if_neg (by decide)).trans ((if_neg (by decide)).trans ((if_neg (by decide)).trans ((if_pos rfl).trans ?_))))
  rw [h]
  rfl
theorem goes_8 {w w' : WS} {v : Int} (h : f_X2_goOn w = some (v, w')) : GoT w 8 w' v 1 := fun m t ht => by
  rw [f_X2_seek_5_s]
  refine (if_pos (by first | (simp (disch := omega) only [wr_eq] <;> omega) | omega)).trans ((if_neg (by decide)).trans ((if_neg (by decide)).trans ((if_neg (by decide)).trans ((if_neg (by decide)).trans ((if_pos rfl).trans ?_)))))
  rw [h]
  rfl
theorem goes_9 {w w' : WS} {v : Int} (h : f_X2_goBack w = some (v, w')) : GoT w 9 w' v 1 := fun m t ht => by
  rw [f_X2_seek_5_s]
  refine (if_pos (by first | (simp (disch := omega) only [wr_eq] <;> omega) | omega)).trans ((if_neg (by decide)).trans ((if_neg (by decide)).trans ((if_neg (by decide)).trans ((if_neg (by decide)).trans ((if_neg (by decide)).trans ((if_pos rfl).trans ?_))))))
  rw [h]
  rfl
/-- a node more -/
def nodeW (w : WS) : WS := up (psh w 40 (w 39 13) (w 39 14) (w 39 15)) 39 15 (w 40 3)
theorem c_addNode {w : WS} (h : 0 ≤ w 40 3 ∧ w 40 3 < 6000) : f_X2_addNode w = some (0, nodeW w) := by
  unfold f_X2_addNode nodeW
  rw [f_push (i := 40) (n := 6000) rfl rfl rfl (by omega) h, ob_some, psh_count]
  congr 3
  omega
theorem nodeW_fr (w : WS) : Fr [39, 40, 41, 42, 43] w (nodeW w) := ((psh_fr w 40 _ _ _).sub (by simp)).up (by simp)
theorem nodeW_39 (w : WS) {k : Nat} (h : k ≠ 15) : nodeW w 39 k = w 39 k := by
  unfold nodeW
  rw [up_slot _ _ _ _ h, psh_fr w 40 _ _ _ 39 (by simp)]
theorem nodeW_15 (w : WS) : nodeW w 39 15 = w 40 3 := up_same _ _ _ _
theorem nodeW_n (w : WS) : nodeW w 40 3 = w 40 3 + 1 := by
  unfold nodeW
  rw [up_row _ _ _ (by omega), psh_count]
theorem nodeW_na (w : WS) : NA w (nodeW w) := by
  refine ⟨by rw [nodeW_n]; omega, fun k hk => ?_⟩
  have := psh_old w 40 (w 39 13) (w 39 14) (w 39 15) hk
  unfold nodeW
  rw [up_row _ _ _ (by omega), up_row _ _ _ (by omega), up_row _ _ _ (by omega)]
  exact this
theorem nodeW_ch {w : WS} {K : List Nd} (h : chC w K (w 39 15)) (hn : 0 ≤ w 40 3) : chC (nodeW w) ((w 39 13, w 39 14) :: K) (w 40 3) := by
  have := psh_new w 40 (w 39 13) (w 39 14) (w 39 15)
  refine ⟨hn, by rw [nodeW_n]; omega, ?_, ?_, ?_⟩
  · unfold nodeW
    rw [up_row _ _ _ (by omega)]
    exact this.1
  · unfold nodeW
    rw [up_row _ _ _ (by omega)]
    exact this.2.1
  · have e : nodeW w 43 (w 40 3).toNat = w 39 15 := by
      unfold nodeW
      rw [up_row _ _ _ (by omega)]
      exact this.2.2
    rw [e]
    exact h.mono (nodeW_na w)
theorem BC.node {E : EV} {w : WS} {C : List Ch} {T : List Tk} {b : Int} {V : Nat → List Int} {s : Int} (h : BC E w C T b V s) : BC E (nodeW w) C T b V s := by
  obtain ⟨g1, g2, g3, g4, ⟨g5, g6⟩, g7, g8⟩ := h
  have e : ∀ c, c ≠ 39 → c ≠ 40 → c ≠ 41 → c ≠ 42 → c ≠ 43 → nodeW w c = w c := fun c h1 h2 h3 h4 h5 => nodeW_fr w c (by simp [h1, h2, h3, h4, h5])
  refine ⟨g1.fr ((nodeW_fr w).sub (by decide)) (nodeW_39 w (by omega)) (nodeW_39 w (by omega)) (nodeW_39 w (by omega)), (nodeW_39 w (by omega)).trans g2, (nodeW_39 w (by omega)).trans g3, g4.fr (e 8 (by omega) (by omega) (by omega) (by omega) (by omega)) (e 9 (by omega) (by omega) (by omega) (by omega) (by omega)), ⟨by rw [e 44 (by omega) (by omega) (by omega) (by omega) (by omega)]; exact g5, ?_⟩, ?_, by rw [nodeW_n]; omega⟩
  · refine g6.mono (nodeW_na w) (fun k _ => ?_)
    rw [e 45 (by omega) (by omega) (by omega) (by omega) (by omega), e 46 (by omega) (by omega) (by omega) (by omega) (by omega), e 47 (by omega) (by omega) (by omega) (by omega) (by omega), e 49 (by omega) (by omega) (by omega) (by omega) (by omega)]
    exact ⟨rfl, rfl, rfl, rfl⟩
  · exact g7.fr (by rw [e 50 (by omega) (by omega) (by omega) (by omega) (by omega)]) (e 51 (by omega) (by omega) (by omega) (by omega) (by omega)) (e 52 (by omega) (by omega) (by omega) (by omega) (by omega)) (e 53 (by omega) (by omega) (by omega) (by omega) (by omega))
/-- a choice more -/
def choW (w : WS) : WS := psh (up w 49 (w 44 3).toNat (w 50 3)) 44 (w 39 13) (w 39 14) (w 39 15)
theorem c_addChoice {w : WS} (h : 0 ≤ w 44 3 ∧ w 44 3 < 6000) : f_X2_addChoice w = some (0, choW w) := by
  unfold f_X2_addChoice choW
  have e : ∀ c, c ≠ 49 → (up w 49 (w 44 3).toNat (w 50 3)) c = w c := fun c hc => up_row _ _ _ hc
  rw [f_put (i := 48) (n := 6000) rfl (by omega) h, ob_some, f_push (i := 44) (n := 6000) rfl rfl rfl (by omega) (by rw [e 44 (by omega)]; exact h), ob_some, e 39 (by omega)]
theorem choW_fr (w : WS) : Fr [44, 45, 46, 47, 49] w (choW w) := by
  refine (Fr.rf.up (by simp)).tr ((psh_fr _ 44 _ _ _).sub (by simp))
theorem choW_n (w : WS) : choW w 44 3 = w 44 3 + 1 := by
  unfold choW
  rw [psh_count, up_row _ _ _ (by omega)]
theorem choW_cho {w : WS} {C : List Ch} {K : List Nd} (h : w 44 3 = C.length) (hc : choC w C) (hk : chC w K (w 39 15)) (n : Nat) (hn : w 50 3 = n) : choC (choW w) ((w 39 13, w 39 14, K, n) :: C) := by
  have hN : NA w (choW w) := NA.same (by rw [choW_fr w 40 (by simp)]) (choW_fr w 41 (by simp)) (choW_fr w 42 (by simp)) (choW_fr w 43 (by simp))
  have e44 : (up w 49 (w 44 3).toNat (w 50 3)) 44 3 = w 44 3 := by rw [up_row _ _ _ (by omega)]
  have ht : (w 44 3).toNat = C.length := by omega
  have new := psh_new (up w 49 (w 44 3).toNat (w 50 3)) 44 (w 39 13) (w 39 14) (w 39 15)
  rw [e44, ht] at new
  have n49 : choW w 49 C.length = n := by
    unfold choW
    rw [psh_fr _ 44 _ _ _ 49 (by simp), ht, up_same, hn]
  have n45 : choW w 45 C.length = w 39 13 := by unfold choW; rw [ht]; exact new.1
  have n46 : choW w 46 C.length = w 39 14 := by unfold choW; rw [ht]; exact new.2.1
  have n47 : choW w 47 C.length = w 39 15 := by unfold choW; rw [ht]; exact new.2.2
  refine ⟨n45, n46, by rw [n47]; exact hk.mono hN, n49, hc.mono hN (fun k hk => ?_)⟩
  have old := psh_old (up w 49 (w 44 3).toNat (w 50 3)) 44 (w 39 13) (w 39 14) (w 39 15) (k := k) (by rw [e44]; omega)
  have e45 : ∀ c, c ≠ 49 → (up w 49 (w 44 3).toNat (w 50 3)) c = w c := fun c hc => up_row _ _ _ hc
  rw [e45 45 (by omega), e45 46 (by omega), e45 47 (by omega)] at old
  refine ⟨old.1, old.2.1, old.2.2, ?_⟩
  unfold choW
  rw [psh_fr _ 44 _ _ _ 49 (by simp), up_slot _ _ _ _ (by omega)]
theorem BC.cho {E : EV} {w : WS} {C : List Ch} {T : List Tk} {b : Int} {V : Nat → List Int} {s : Int} {K : List Nd} (h : BC E w C T b V s) (hk : chC w K (w 39 15)) : BC E (choW w) ((w 39 13, w 39 14, K, T.length) :: C) T b V s ∧ chC (choW w) K (w 39 15) := by
  obtain ⟨g1, g2, g3, g4, ⟨g5, g6⟩, g7, g8⟩ := h
  have F := choW_fr w
  have e39 := F 39 (by simp)
  refine ⟨⟨g1.fr (F.sub (by decide)) (by rw [e39]) (by rw [e39]) (by rw [e39]), by rw [e39]; exact g2, by rw [e39]; exact g3, g4.fr (F 8 (by simp)) (F 9 (by simp)), ⟨by rw [choW_n, List.length_cons]; omega, choW_cho g5 g6 hk T.length g7.1⟩, g7.fr (by rw [F 50 (by simp)]) (F 51 (by simp)) (F 52 (by simp)) (F 53 (by simp)), by rw [F 40 (by simp)]; exact g8⟩, hk.mono (NA.same (by rw [F 40 (by simp)]) (F 41 (by simp)) (F 42 (by simp)) (F 43 (by simp)))⟩
