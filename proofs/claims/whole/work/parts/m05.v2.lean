/-! fields, arrays, calls, ends *)-/
theorem fs_get {ad : Nat → Nat} {w : WS} {i k n : Nat} (h : k < n) : ((List.range n).map (fvl ad w i))[k]? = some (fvl ad w i k) := by
  rw [List.getElem?_map, List.getElem?_range h]
  rfl
theorem ce_obj {cA : Nat → ClassId} {ad : Nat → Nat} {w : WS} {i c : Nat} (h : ck i = .inl c) : ce cA ad w i = .inr (c, (List.range (nfl c)).map (fvl ad w i)) := by unfold ce; rw [h]
theorem ce_arr {cA : Nat → ClassId} {ad : Nat → Nat} {w : WS} {i t n : Nat} (h : ck i = .inr (t, n)) (ht : t < 3) : ce cA ad w i = .inl (cA t, n, .inl (fun k => Int32.ofInt (w i k))) := by unfold ce; rw [h]; show Sum.inl (cA t, n, arv t _) = _; rw [arv_i ht]
theorem WL_arL {cA : Nat → ClassId} {ad : Nat → Nat} {w : WS} {i n : Nat} (hi : i < NC) (h : ck i = .inr (3, n)) : (WL cA ad w)[i]? = some (ad i, .inl (cA 3, n, .inr (.inl (fun k => Int64.ofInt (w i k))))) := by rw [WL_get hi]; unfold ce; rw [h]; rfl
theorem WL_arD {cA : Nat → ClassId} {ad : Nat → Nat} {w : WS} {i n : Nat} (hi : i < NC) (h : ck i = .inr (4, n)) : (WL cA ad w)[i]? = some (ad i, .inl (cA 4, n, .inr (.inr (.inr (.inl (fun k => UInt64.ofNat (w i k).toNat)))))) := by rw [WL_get hi]; unfold ce; rw [h]; rfl
theorem WL_obj {cA : Nat → ClassId} {ad : Nat → Nat} {w : WS} {i c : Nat} (hi : i < NC) (h : ck i = .inl c) : (WL cA ad w)[i]? = some (ad i, .inr (c, (List.range (nfl c)).map (fvl ad w i))) := by rw [WL_get hi, ce_obj h]
theorem WL_arr {cA : Nat → ClassId} {ad : Nat → Nat} {w : WS} {i t n : Nat} (hi : i < NC) (h : ck i = .inr (t, n)) (ht : t < 3) : (WL cA ad w)[i]? = some (ad i, .inl (cA t, n, .inl (fun k => Int32.ofInt (w i k)))) := by rw [WL_get hi, ce_arr h ht]
theorem FAd_mono {ad : Nat → Nat} {a b : Nat} (h : a ≤ b) (q : Nat) (hq : FAd ad b q) : FAd ad a q := hq.imp id (fun z => Nat.le_trans h z)

theorem V_geti {G : GG} {E : EE} {cc : ByteArray} {own : String} {ret : Option FieldType} {R : Room} {nL : Nat} (X : Cx G E cc own ret R nL) {k n pc : Nat} {lv : List (Nat × Value)} {st : List Value} {w : WS} {i c index N : Nat} {C : String} {T : u_T} (hi : i < NC ∧ ck i = .inl c) (hcl : vwCl[c]? = some (C, T, N)) (hnf : nfl c = N) (hin : ∀ w ∈ u_ws C T N, w ∈ TT) (kf : Nat) (hk : kf < N) (hlink : Cond.fieldLink own index (T kf).1 (T kf).2.1 (T kf).2.2.1 ∈ TT) (hrf : rf i kf = none) (hd : decode cc pc = .ok (.getfield index, 3)) (kk : VV G E k n (pc + 3) lv (vi (w i kf) :: st) w) : VV G E k n pc lv (gr G i :: st) w := by
  obtain ⟨p, e, R', s, m, args, below, meth, c, Q, nL'⟩ := E
  obtain ⟨hx, hb, hml, hown, hts, hr, hlk, hK, hI, hN, rfl, rfl⟩ := X
  intro H locs ls hP hS hl
  refine va_get (v := vi (w i kf)) hx hb hts hin hown hK hP i (WL_obj hi.1 hi.2) hcl kf hk (hts _ hlink) (fun _ h => h) ?_ hd (kk H locs ls hP hS hl)
  rw [fs_get (by rw [hnf]; exact hk)]
  unfold fvl
  rw [hrf]
  all_goals rfl
theorem V_getr {G : GG} {E : EE} {cc : ByteArray} {own : String} {ret : Option FieldType} {R : Room} {nL : Nat} (X : Cx G E cc own ret R nL) {k n pc : Nat} {lv : List (Nat × Value)} {st : List Value} {w : WS} {i c index N : Nat} {C : String} {T : u_T} (hi : i < NC ∧ ck i = .inl c) (hcl : vwCl[c]? = some (C, T, N)) (hnf : nfl c = N) (hin : ∀ w ∈ u_ws C T N, w ∈ TT) (kf : Nat) (hk : kf < N) (hlink : Cond.fieldLink own index (T kf).1 (T kf).2.1 (T kf).2.2.1 ∈ TT) {j : Nat} (hrf : rf i kf = some (.inl j)) (hd : decode cc pc = .ok (.getfield index, 3)) (kk : VV G E k n (pc + 3) lv (gr G j :: st) w) : VV G E k n pc lv (gr G i :: st) w := by
  obtain ⟨p, e, R', s, m, args, below, meth, c, Q, nL'⟩ := E
  obtain ⟨hx, hb, hml, hown, hts, hr, hlk, hK, hI, hN, rfl, rfl⟩ := X
  intro H locs ls hP hS hl
  refine va_get (v := gr G j) hx hb hts hin hown hK hP i (WL_obj hi.1 hi.2) hcl kf hk (hts _ hlink) (fun _ h => h) ?_ hd (kk H locs ls hP hS hl)
  rw [fs_get (by rw [hnf]; exact hk)]
  unfold fvl
  rw [hrf]
  all_goals rfl
theorem V_getc {G : GG} {E : EE} {cc : ByteArray} {own : String} {ret : Option FieldType} {R : Room} {nL : Nat} (X : Cx G E cc own ret R nL) {k n pc : Nat} {lv : List (Nat × Value)} {st : List Value} {w : WS} {i c index N : Nat} {C : String} {T : u_T} (hi : i < NC ∧ ck i = .inl c) (hcl : vwCl[c]? = some (C, T, N)) (hnf : nfl c = N) (hin : ∀ w ∈ u_ws C T N, w ∈ TT) (kf : Nat) (hk : kf < N) (hlink : Cond.fieldLink own index (T kf).1 (T kf).2.1 (T kf).2.2.1 ∈ TT) {a : Int} (hrf : rf i kf = some (.inr a)) (hd : decode cc pc = .ok (.getfield index, 3)) (kk : VV G E k n (pc + 3) lv (vi a :: st) w) : VV G E k n pc lv (gr G i :: st) w := by
  obtain ⟨p, e, R', s, m, args, below, meth, c, Q, nL'⟩ := E
  obtain ⟨hx, hb, hml, hown, hts, hr, hlk, hK, hI, hN, rfl, rfl⟩ := X
  intro H locs ls hP hS hl
  refine va_get (v := vi a) hx hb hts hin hown hK hP i (WL_obj hi.1 hi.2) hcl kf hk (hts _ hlink) (fun _ h => h) ?_ hd (kk H locs ls hP hS hl)
  rw [fs_get (by rw [hnf]; exact hk)]
  unfold fvl
  rw [hrf]
  all_goals rfl
theorem V_puti {G : GG} {E : EE} {cc : ByteArray} {own : String} {ret : Option FieldType} {R : Room} {nL : Nat} (X : Cx G E cc own ret R nL) {k n pc : Nat} {lv : List (Nat × Value)} {st : List Value} {w : WS} {i c index N : Nat} {C : String} {T : u_T} (hi : i < NC ∧ ck i = .inl c) (hcl : vwCl[c]? = some (C, T, N)) (hnf : nfl c = N) (hin : ∀ w ∈ u_ws C T N, w ∈ TT) (kf : Nat) (hk : kf < N) (hlink : Cond.fieldLink own index (T kf).1 (T kf).2.1 (T kf).2.2.1 ∈ TT) (ty0 : Nat → FieldType) (hty : ∀ k, k < N → parseFieldDescriptor (T k).2.2.1 = some (ty0 k)) (hnm : ∀ a, a < N → ∀ b, b < N → a ≠ b → (T a).2.1 ≠ (T b).2.1) (hfin : (T kf).2.2.2 = false) (htk : parseFieldDescriptor (T kf).2.2.1 = some .int) {a : Int} (hrf : rf i kf = none) (hd : decode cc pc = .ok (.putfield index, 3)) (kk : VV G E k n (pc + 3) lv st (up w i kf a)) : VV G E k n pc lv (vi a :: gr G i :: st) w := by
  obtain ⟨p, e, R', s, m, args, below, meth, c, Q, nL'⟩ := E
  obtain ⟨hx, hb, hml, hown, hts, hr, hlk, hK, hI, hN, rfl, rfl⟩ := X
  intro H locs ls hP hS hl
  refine va_put hx hb hts hin ty0 hty hnm hown hK hP (D_of hI) hS i (WL_obj hi.1 hi.2) hcl kf hk (hts _ hlink) (fun _ h => h) hfin htk (rfl) (rfl) (by rw [List.length_map, List.length_range, hnf]; exact hk) hd (fun H1 locs1 hP1 _ hS1 => ?_)
  have e := WL_put (cA := G.2.2.1) (ad := G.2.2.2) (w := w) (a := a) hi.1 hi.2 hrf (by rw [hnf]; exact hk)
  rw [e] at hP1
  exact kk H1 locs1 ls hP1 hS1 hl
theorem V_putz {G : GG} {E : EE} {cc : ByteArray} {own : String} {ret : Option FieldType} {R : Room} {nL : Nat} (X : Cx G E cc own ret R nL) {k n pc : Nat} {lv : List (Nat × Value)} {st : List Value} {w : WS} {i c index N : Nat} {C : String} {T : u_T} (hi : i < NC ∧ ck i = .inl c) (hcl : vwCl[c]? = some (C, T, N)) (hnf : nfl c = N) (hin : ∀ w ∈ u_ws C T N, w ∈ TT) (kf : Nat) (hk : kf < N) (hlink : Cond.fieldLink own index (T kf).1 (T kf).2.1 (T kf).2.2.1 ∈ TT) (ty0 : Nat → FieldType) (hty : ∀ k, k < N → parseFieldDescriptor (T k).2.2.1 = some (ty0 k)) (hnm : ∀ a, a < N → ∀ b, b < N → a ≠ b → (T a).2.1 ≠ (T b).2.1) (hfin : (T kf).2.2.2 = false) (htk : parseFieldDescriptor (T kf).2.2.1 = some .boolean) {a : Int} (hz : a = 0 ∨ a = 1) (hrf : rf i kf = none) (hd : decode cc pc = .ok (.putfield index, 3)) (kk : VV G E k n (pc + 3) lv st (up w i kf a)) : VV G E k n pc lv (vi a :: gr G i :: st) w := by
  obtain ⟨p, e, R', s, m, args, below, meth, c, Q, nL'⟩ := E
  obtain ⟨hx, hb, hml, hown, hts, hr, hlk, hK, hI, hN, rfl, rfl⟩ := X
  intro H locs ls hP hS hl
  refine va_put hx hb hts hin ty0 hty hnm hown hK hP (D_of hI) hS i (WL_obj hi.1 hi.2) hcl kf hk (hts _ hlink) (fun _ h => h) hfin htk (by rcases hz with rfl | rfl <;> rfl) (by rcases hz with rfl | rfl <;> rfl) (by rw [List.length_map, List.length_range, hnf]; exact hk) hd (fun H1 locs1 hP1 _ hS1 => ?_)
  have e := WL_put (cA := G.2.2.1) (ad := G.2.2.2) (w := w) (a := a) hi.1 hi.2 hrf (by rw [hnf]; exact hk)
  rw [e] at hP1
  exact kk H1 locs1 ls hP1 hS1 hl
theorem V_getiN {G : GG} {E : EE} {cc : ByteArray} {own : String} {ret : Option FieldType} {R : Room} {nL : Nat} (X : Cx G E cc own ret R nL) {k n pc : Nat} {lv : List (Nat × Value)} {st : List Value} {w : WS} {i c index N : Nat} {C : String} {T : u_T} {host : String} (hi : i < NC ∧ ck i = .inl c) (hcl : vwCl[c]? = some (C, T, N)) (hnf : nfl c = N) (hin : ∀ w ∈ u_ws C T N, w ∈ TT) (kf : Nat) (hk : kf < N) (hlink : Cond.fieldLinkNest own index (T kf).1 (T kf).2.1 (T kf).2.2.1 host ∈ NT) (hrf : rf i kf = none) (hd : decode cc pc = .ok (.getfield index, 3)) (kk : VV G E k n (pc + 3) lv (vi (w i kf) :: st) w) : VV G E k n pc lv (gr G i :: st) w := by
  obtain ⟨p, e, R', s, m, args, below, meth, c, Q, nL'⟩ := E
  obtain ⟨hx, hb, hml, hown, hts, hr, hlk, hK, hI, hN, rfl, rfl⟩ := X
  intro H locs ls hP hS hl
  refine va_getN (v := vi (w i kf)) hx hb hts hin hown hK hP i (WL_obj hi.1 hi.2) hcl kf hk (va_Nw.use rfl (hN _ hlink)) (fun _ h => h) ?_ hd (kk H locs ls hP hS hl)
  rw [fs_get (by rw [hnf]; exact hk)]
  unfold fvl
  rw [hrf]
  all_goals rfl
theorem V_getrN {G : GG} {E : EE} {cc : ByteArray} {own : String} {ret : Option FieldType} {R : Room} {nL : Nat} (X : Cx G E cc own ret R nL) {k n pc : Nat} {lv : List (Nat × Value)} {st : List Value} {w : WS} {i c index N : Nat} {C : String} {T : u_T} {host : String} (hi : i < NC ∧ ck i = .inl c) (hcl : vwCl[c]? = some (C, T, N)) (hnf : nfl c = N) (hin : ∀ w ∈ u_ws C T N, w ∈ TT) (kf : Nat) (hk : kf < N) (hlink : Cond.fieldLinkNest own index (T kf).1 (T kf).2.1 (T kf).2.2.1 host ∈ NT) {j : Nat} (hrf : rf i kf = some (.inl j)) (hd : decode cc pc = .ok (.getfield index, 3)) (kk : VV G E k n (pc + 3) lv (gr G j :: st) w) : VV G E k n pc lv (gr G i :: st) w := by
  obtain ⟨p, e, R', s, m, args, below, meth, c, Q, nL'⟩ := E
  obtain ⟨hx, hb, hml, hown, hts, hr, hlk, hK, hI, hN, rfl, rfl⟩ := X
  intro H locs ls hP hS hl
  refine va_getN (v := gr G j) hx hb hts hin hown hK hP i (WL_obj hi.1 hi.2) hcl kf hk (va_Nw.use rfl (hN _ hlink)) (fun _ h => h) ?_ hd (kk H locs ls hP hS hl)
  rw [fs_get (by rw [hnf]; exact hk)]
  unfold fvl
  rw [hrf]
  all_goals rfl
theorem V_getcN {G : GG} {E : EE} {cc : ByteArray} {own : String} {ret : Option FieldType} {R : Room} {nL : Nat} (X : Cx G E cc own ret R nL) {k n pc : Nat} {lv : List (Nat × Value)} {st : List Value} {w : WS} {i c index N : Nat} {C : String} {T : u_T} {host : String} (hi : i < NC ∧ ck i = .inl c) (hcl : vwCl[c]? = some (C, T, N)) (hnf : nfl c = N) (hin : ∀ w ∈ u_ws C T N, w ∈ TT) (kf : Nat) (hk : kf < N) (hlink : Cond.fieldLinkNest own index (T kf).1 (T kf).2.1 (T kf).2.2.1 host ∈ NT) {a : Int} (hrf : rf i kf = some (.inr a)) (hd : decode cc pc = .ok (.getfield index, 3)) (kk : VV G E k n (pc + 3) lv (vi a :: st) w) : VV G E k n pc lv (gr G i :: st) w := by
  obtain ⟨p, e, R', s, m, args, below, meth, c, Q, nL'⟩ := E
  obtain ⟨hx, hb, hml, hown, hts, hr, hlk, hK, hI, hN, rfl, rfl⟩ := X
  intro H locs ls hP hS hl
  refine va_getN (v := vi a) hx hb hts hin hown hK hP i (WL_obj hi.1 hi.2) hcl kf hk (va_Nw.use rfl (hN _ hlink)) (fun _ h => h) ?_ hd (kk H locs ls hP hS hl)
  rw [fs_get (by rw [hnf]; exact hk)]
  unfold fvl
  rw [hrf]
  all_goals rfl
theorem V_putiN {G : GG} {E : EE} {cc : ByteArray} {own : String} {ret : Option FieldType} {R : Room} {nL : Nat} (X : Cx G E cc own ret R nL) {k n pc : Nat} {lv : List (Nat × Value)} {st : List Value} {w : WS} {i c index N : Nat} {C : String} {T : u_T} {host : String} (hi : i < NC ∧ ck i = .inl c) (hcl : vwCl[c]? = some (C, T, N)) (hnf : nfl c = N) (hin : ∀ w ∈ u_ws C T N, w ∈ TT) (kf : Nat) (hk : kf < N) (hlink : Cond.fieldLinkNest own index (T kf).1 (T kf).2.1 (T kf).2.2.1 host ∈ NT) (ty0 : Nat → FieldType) (hty : ∀ k, k < N → parseFieldDescriptor (T k).2.2.1 = some (ty0 k)) (hnm : ∀ a, a < N → ∀ b, b < N → a ≠ b → (T a).2.1 ≠ (T b).2.1) (hfin : (T kf).2.2.2 = false) (htk : parseFieldDescriptor (T kf).2.2.1 = some .int) {a : Int} (hrf : rf i kf = none) (hd : decode cc pc = .ok (.putfield index, 3)) (kk : VV G E k n (pc + 3) lv st (up w i kf a)) : VV G E k n pc lv (vi a :: gr G i :: st) w := by
  obtain ⟨p, e, R', s, m, args, below, meth, c, Q, nL'⟩ := E
  obtain ⟨hx, hb, hml, hown, hts, hr, hlk, hK, hI, hN, rfl, rfl⟩ := X
  intro H locs ls hP hS hl
  refine va_putN hx hb hts hin ty0 hty hnm hown hK hP (D_of hI) hS i (WL_obj hi.1 hi.2) hcl kf hk (va_Nw.use rfl (hN _ hlink)) (fun _ h => h) hfin htk (rfl) (rfl) (by rw [List.length_map, List.length_range, hnf]; exact hk) hd (fun H1 locs1 hP1 _ hS1 => ?_)
  have e := WL_put (cA := G.2.2.1) (ad := G.2.2.2) (w := w) (a := a) hi.1 hi.2 hrf (by rw [hnf]; exact hk)
  rw [e] at hP1
  exact kk H1 locs1 ls hP1 hS1 hl
theorem V_putzN {G : GG} {E : EE} {cc : ByteArray} {own : String} {ret : Option FieldType} {R : Room} {nL : Nat} (X : Cx G E cc own ret R nL) {k n pc : Nat} {lv : List (Nat × Value)} {st : List Value} {w : WS} {i c index N : Nat} {C : String} {T : u_T} {host : String} (hi : i < NC ∧ ck i = .inl c) (hcl : vwCl[c]? = some (C, T, N)) (hnf : nfl c = N) (hin : ∀ w ∈ u_ws C T N, w ∈ TT) (kf : Nat) (hk : kf < N) (hlink : Cond.fieldLinkNest own index (T kf).1 (T kf).2.1 (T kf).2.2.1 host ∈ NT) (ty0 : Nat → FieldType) (hty : ∀ k, k < N → parseFieldDescriptor (T k).2.2.1 = some (ty0 k)) (hnm : ∀ a, a < N → ∀ b, b < N → a ≠ b → (T a).2.1 ≠ (T b).2.1) (hfin : (T kf).2.2.2 = false) (htk : parseFieldDescriptor (T kf).2.2.1 = some .boolean) {a : Int} (hz : a = 0 ∨ a = 1) (hrf : rf i kf = none) (hd : decode cc pc = .ok (.putfield index, 3)) (kk : VV G E k n (pc + 3) lv st (up w i kf a)) : VV G E k n pc lv (vi a :: gr G i :: st) w := by
  obtain ⟨p, e, R', s, m, args, below, meth, c, Q, nL'⟩ := E
  obtain ⟨hx, hb, hml, hown, hts, hr, hlk, hK, hI, hN, rfl, rfl⟩ := X
  intro H locs ls hP hS hl
  refine va_putN hx hb hts hin ty0 hty hnm hown hK hP (D_of hI) hS i (WL_obj hi.1 hi.2) hcl kf hk (va_Nw.use rfl (hN _ hlink)) (fun _ h => h) hfin htk (by rcases hz with rfl | rfl <;> rfl) (by rcases hz with rfl | rfl <;> rfl) (by rw [List.length_map, List.length_range, hnf]; exact hk) hd (fun H1 locs1 hP1 _ hS1 => ?_)
  have e := WL_put (cA := G.2.2.1) (ad := G.2.2.2) (w := w) (a := a) hi.1 hi.2 hrf (by rw [hnf]; exact hk)
  rw [e] at hP1
  exact kk H1 locs1 ls hP1 hS1 hl
theorem V_iald {G : GG} {E : EE} {cc : ByteArray} {own : String} {ret : Option FieldType} {R : Room} {nL : Nat} (X : Cx G E cc own ret R nL) {k n pc : Nat} {lv : List (Nat × Value)} {st : List Value} {w : WS} {j n0 : Nat} {a : Int} {ρ : Type} {A : Option ρ} {r : ρ} (hj : j < NC ∧ ck j = .inr (0, n0)) (hd : decode cc pc = .ok (.iaload, 1)) (hf : (if 0 ≤ wr a ∧ wr a < (n0 : Int) then A else none) = some r) (kk : A = some r → VV G E k n (pc + 1) lv (vi (w j (wr a).toNat) :: st) w) : VV G E k n pc lv (vi a :: gr G j :: st) w := by
  obtain ⟨p, e, R', s, m, args, below, meth, c, Q, nL'⟩ := E
  obtain ⟨hx, hb, hml, hown, hts, hr, hlk, hK, hI, hN, rfl, rfl⟩ := X
  intro H locs ls hP hS hl
  obtain ⟨h, hf⟩ := ite_n hf
  refine va_iald hx hb hK hP j 0 (WL_arr hj.1 hj.2 (by decide)) rfl (in_of h) hd ?_
  rw [cl_of]
  exact kk hf H locs ls hP hS hl
theorem V_cald {G : GG} {E : EE} {cc : ByteArray} {own : String} {ret : Option FieldType} {R : Room} {nL : Nat} (X : Cx G E cc own ret R nL) {k n pc : Nat} {lv : List (Nat × Value)} {st : List Value} {w : WS} {j n0 : Nat} {a : Int} {ρ : Type} {A : Option ρ} {r : ρ} (hj : j < NC ∧ ck j = .inr (1, n0)) (hd : decode cc pc = .ok (.caload, 1)) (hf : (if 0 ≤ wr a ∧ wr a < (n0 : Int) then A else none) = some r) (kk : A = some r → VV G E k n (pc + 1) lv (vi (w j (wr a).toNat) :: st) w) : VV G E k n pc lv (vi a :: gr G j :: st) w := by
  obtain ⟨p, e, R', s, m, args, below, meth, c, Q, nL'⟩ := E
  obtain ⟨hx, hb, hml, hown, hts, hr, hlk, hK, hI, hN, rfl, rfl⟩ := X
  intro H locs ls hP hS hl
  obtain ⟨h, hf⟩ := ite_n hf
  refine va_cald hx hb hK hP j 1 (WL_arr hj.1 hj.2 (by decide)) rfl (in_of h) hd ?_
  rw [cl_of]
  exact kk hf H locs ls hP hS hl
theorem V_zald {G : GG} {E : EE} {cc : ByteArray} {own : String} {ret : Option FieldType} {R : Room} {nL : Nat} (X : Cx G E cc own ret R nL) {k n pc : Nat} {lv : List (Nat × Value)} {st : List Value} {w : WS} {j n0 : Nat} {a : Int} {ρ : Type} {A : Option ρ} {r : ρ} (hj : j < NC ∧ ck j = .inr (2, n0)) (hd : decode cc pc = .ok (.baload, 1)) (hf : (if 0 ≤ wr a ∧ wr a < (n0 : Int) then A else none) = some r) (kk : A = some r → VV G E k n (pc + 1) lv (vi (w j (wr a).toNat) :: st) w) : VV G E k n pc lv (vi a :: gr G j :: st) w := by
  obtain ⟨p, e, R', s, m, args, below, meth, c, Q, nL'⟩ := E
  obtain ⟨hx, hb, hml, hown, hts, hr, hlk, hK, hI, hN, rfl, rfl⟩ := X
  intro H locs ls hP hS hl
  obtain ⟨h, hf⟩ := ite_n hf
  refine va_zald hx hb hK hP j 2 (WL_arr hj.1 hj.2 (by decide)) rfl (in_of h) hd ?_
  rw [cl_of]
  exact kk hf H locs ls hP hS hl
theorem V_iast {G : GG} {E : EE} {cc : ByteArray} {own : String} {ret : Option FieldType} {R : Room} {nL : Nat} (X : Cx G E cc own ret R nL) {k n pc : Nat} {lv : List (Nat × Value)} {st : List Value} {w : WS} {j n0 : Nat} {a x : Int} {ρ : Type} {A : Option ρ} {r : ρ} (hj : j < NC ∧ ck j = .inr (0, n0)) (hd : decode cc pc = .ok (.iastore, 1)) (hf : (if 0 ≤ wr a ∧ wr a < (n0 : Int) then A else none) = some r) (kk : A = some r → VV G E k n (pc + 1) lv st (up w j (wr a).toNat (x))) : VV G E k n pc lv (vi x :: vi a :: gr G j :: st) w := by
  obtain ⟨p, e, R', s, m, args, below, meth, c, Q, nL'⟩ := E
  obtain ⟨hx, hb, hml, hown, hts, hr, hlk, hK, hI, hN, rfl, rfl⟩ := X
  intro H locs ls hP hS hl
  obtain ⟨h, hf⟩ := ite_n hf
  refine va_iast hx hb hK hP (D_of hI) hS j 0 (WL_arr hj.1 hj.2 (by decide)) rfl (in_of h) hd (fun H1 locs1 hP1 _ hS1 => ?_)
  rw [WL_ast (a := x) (k := (wr a).toNat) hj.1 hj.2 (by decide) (by
    rw [cl_of])] at hP1
  exact kk hf H1 locs1 ls hP1 hS1 hl
theorem V_cast {G : GG} {E : EE} {cc : ByteArray} {own : String} {ret : Option FieldType} {R : Room} {nL : Nat} (X : Cx G E cc own ret R nL) {k n pc : Nat} {lv : List (Nat × Value)} {st : List Value} {w : WS} {j n0 : Nat} {a x : Int} {ρ : Type} {A : Option ρ} {r : ρ} (hj : j < NC ∧ ck j = .inr (1, n0)) (hd : decode cc pc = .ok (.castore, 1)) (hf : (if 0 ≤ wr a ∧ wr a < (n0 : Int) then A else none) = some r) (kk : A = some r → VV G E k n (pc + 1) lv st (up w j (wr a).toNat (nC x))) : VV G E k n pc lv (vi x :: vi a :: gr G j :: st) w := by
  obtain ⟨p, e, R', s, m, args, below, meth, c, Q, nL'⟩ := E
  obtain ⟨hx, hb, hml, hown, hts, hr, hlk, hK, hI, hN, rfl, rfl⟩ := X
  intro H locs ls hP hS hl
  obtain ⟨h, hf⟩ := ite_n hf
  refine va_cast hx hb hK hP (D_of hI) hS j 1 (WL_arr hj.1 hj.2 (by decide)) rfl (in_of h) hd (fun H1 locs1 hP1 _ hS1 => ?_)
  rw [WL_ast (a := nC x) (k := (wr a).toNat) hj.1 hj.2 (by decide) (by
    rw [cl_of]
    rw [cn_of])] at hP1
  exact kk hf H1 locs1 ls hP1 hS1 hl
theorem V_zast {G : GG} {E : EE} {cc : ByteArray} {own : String} {ret : Option FieldType} {R : Room} {nL : Nat} (X : Cx G E cc own ret R nL) {k n pc : Nat} {lv : List (Nat × Value)} {st : List Value} {w : WS} {j n0 : Nat} {a x : Int} {ρ : Type} {A : Option ρ} {r : ρ} (hj : j < NC ∧ ck j = .inr (2, n0)) (hd : decode cc pc = .ok (.bastore, 1)) (hf : (if 0 ≤ wr a ∧ wr a < (n0 : Int) then A else none) = some r) (kk : A = some r → VV G E k n (pc + 1) lv st (up w j (wr a).toNat (nZ x))) : VV G E k n pc lv (vi x :: vi a :: gr G j :: st) w := by
  obtain ⟨p, e, R', s, m, args, below, meth, c, Q, nL'⟩ := E
  obtain ⟨hx, hb, hml, hown, hts, hr, hlk, hK, hI, hN, rfl, rfl⟩ := X
  intro H locs ls hP hS hl
  obtain ⟨h, hf⟩ := ite_n hf
  refine va_zast hx hb hK hP (D_of hI) hS j 2 (WL_arr hj.1 hj.2 (by decide)) rfl (in_of h) hd (fun H1 locs1 hP1 _ hS1 => ?_)
  rw [WL_ast (a := nZ x) (k := (wr a).toNat) hj.1 hj.2 (by decide) (by
    rw [cl_of]
    rw [zn_of])] at hP1
  exact kk hf H1 locs1 ls hP1 hS1 hl
theorem V_alen {G : GG} {E : EE} {cc : ByteArray} {own : String} {ret : Option FieldType} {R : Room} {nL : Nat} (X : Cx G E cc own ret R nL) {k n pc : Nat} {lv : List (Nat × Value)} {st : List Value} {w : WS} {j t n0 : Nat} (hj : j < NC ∧ ck j = .inr (t, n0)) (ht : t < 3) (hd : decode cc pc = .ok (.arraylength, 1)) (kk : VV G E k n (pc + 1) lv (vi (n0 : Int) :: st) w) : VV G E k n pc lv (gr G j :: st) w := by
  obtain ⟨p, e, R', s, m, args, below, meth, c, Q, nL'⟩ := E
  obtain ⟨hx, hb, hml, hown, hts, hr, hlk, hK, hI, hN, rfl, rfl⟩ := X
  intro H locs ls hP hS hl
  have e : Int32.ofNat n0 = Int32.ofInt (n0 : Int) := nI_ofInt n0
  match t, ht with
  | 0, _ => exact va_alen hx hb hK hP j 0 (WL_arr hj.1 hj.2 (by decide)) rfl e hd (kk H locs ls hP hS hl)
  | 1, _ => exact va_alen hx hb hK hP j 1 (WL_arr hj.1 hj.2 (by decide)) rfl e hd (kk H locs ls hP hS hl)
  | 2, _ => exact va_alen hx hb hK hP j 2 (WL_arr hj.1 hj.2 (by decide)) rfl e hd (kk H locs ls hP hS hl)
def vd (a : Int) : Value := .double (UInt64.ofNat a.toNat)
def vf (a : Int) : Value := .float (UInt32.ofNat a.toNat)
theorem V_lald {G : GG} {E : EE} {cc : ByteArray} {own : String} {ret : Option FieldType} {R : Room} {nL : Nat} (X : Cx G E cc own ret R nL) {k n pc : Nat} {lv : List (Nat × Value)} {st : List Value} {w : WS} {j n0 : Nat} {a : Int} {ρ : Type} {A : Option ρ} {r : ρ} (hj : j < NC ∧ ck j = .inr (3, n0)) (hd : decode cc pc = .ok (.laload, 1)) (hf : (if 0 ≤ wr a ∧ wr a < (n0 : Int) then A else none) = some r) (kk : A = some r → VV G E k n (pc + 1) lv (vl (w j (wr a).toNat) :: st) w) : VV G E k n pc lv (vi a :: gr G j :: st) w := by
  obtain ⟨p, e, R', s, m, args, below, meth, c, Q, nL'⟩ := E
  obtain ⟨hx, hb, hml, hown, hts, hr, hlk, hK, hI, hN, rfl, rfl⟩ := X
  intro H locs ls hP hS hl
  obtain ⟨h, hf⟩ := ite_n hf
  refine va_lald hx hb hK hP j 3 (WL_arL hj.1 hj.2) rfl (in_of h) hd ?_
  rw [cl_of]
  exact kk hf H locs ls hP hS hl
theorem V_dald {G : GG} {E : EE} {cc : ByteArray} {own : String} {ret : Option FieldType} {R : Room} {nL : Nat} (X : Cx G E cc own ret R nL) {k n pc : Nat} {lv : List (Nat × Value)} {st : List Value} {w : WS} {j n0 : Nat} {a : Int} {ρ : Type} {A : Option ρ} {r : ρ} (hj : j < NC ∧ ck j = .inr (4, n0)) (hd : decode cc pc = .ok (.daload, 1)) (hf : (if 0 ≤ wr a ∧ wr a < (n0 : Int) then A else none) = some r) (kk : A = some r → VV G E k n (pc + 1) lv (vd (w j (wr a).toNat) :: st) w) : VV G E k n pc lv (vi a :: gr G j :: st) w := by
  obtain ⟨p, e, R', s, m, args, below, meth, c, Q, nL'⟩ := E
  obtain ⟨hx, hb, hml, hown, hts, hr, hlk, hK, hI, hN, rfl, rfl⟩ := X
  intro H locs ls hP hS hl
  obtain ⟨h, hf⟩ := ite_n hf
  refine va_dald hx hb hK hP j 4 (WL_arD hj.1 hj.2) rfl (in_of h) hd ?_
  rw [cl_of]
  exact kk hf H locs ls hP hS hl
theorem V_last {G : GG} {E : EE} {cc : ByteArray} {own : String} {ret : Option FieldType} {R : Room} {nL : Nat} (X : Cx G E cc own ret R nL) {k n pc : Nat} {lv : List (Nat × Value)} {st : List Value} {w : WS} {j n0 : Nat} {a x : Int} {ρ : Type} {A : Option ρ} {r : ρ} (hj : j < NC ∧ ck j = .inr (3, n0)) (hd : decode cc pc = .ok (.lastore, 1)) (hf : (if 0 ≤ wr a ∧ wr a < (n0 : Int) then A else none) = some r) (kk : A = some r → VV G E k n (pc + 1) lv st (up w j (wr a).toNat x)) : VV G E k n pc lv (vl x :: vi a :: gr G j :: st) w := by
  obtain ⟨p, e, R', s, m, args, below, meth, c, Q, nL'⟩ := E
  obtain ⟨hx, hb, hml, hown, hts, hr, hlk, hK, hI, hN, rfl, rfl⟩ := X
  intro H locs ls hP hS hl
  obtain ⟨h, hf⟩ := ite_n hf
  refine va_last hx hb hK hP (D_of hI) hS j 3 (WL_arL hj.1 hj.2) rfl (in_of h) hd (fun H1 locs1 hP1 _ hS1 => ?_)
  have e : (WL G.2.2.1 G.2.2.2 w).set j (G.2.2.2 j, .inl (G.2.2.1 3, n0, .inr (.inl (vp_updL (fun k => Int64.ofInt (w j k)) (Int32.ofInt a).toNatClampNeg (Int64.ofInt x))))) = WL G.2.2.1 G.2.2.2 (up w j (wr a).toNat x) := by
    refine WL_set hj.1 ?_ (fun i hi => ce_ne hi)
    unfold ce
    rw [hj.2, cl_of]
    show Sum.inl (_, _, Sum.inr (Sum.inl _)) = Sum.inl (_, _, Sum.inr (Sum.inl _))
    congr 5
    funext i
    unfold vp_updL up
    by_cases hi : i = (wr a).toNat
    · simp [hi]
    · simp [hi]
  rw [e] at hP1
  exact kk hf H1 locs1 ls hP1 hS1 hl
theorem V_dast {G : GG} {E : EE} {cc : ByteArray} {own : String} {ret : Option FieldType} {R : Room} {nL : Nat} (X : Cx G E cc own ret R nL) {k n pc : Nat} {lv : List (Nat × Value)} {st : List Value} {w : WS} {j n0 : Nat} {a x : Int} {ρ : Type} {A : Option ρ} {r : ρ} (hj : j < NC ∧ ck j = .inr (4, n0)) (hd : decode cc pc = .ok (.dastore, 1)) (hf : (if 0 ≤ wr a ∧ wr a < (n0 : Int) then A else none) = some r) (kk : A = some r → VV G E k n (pc + 1) lv st (up w j (wr a).toNat x)) : VV G E k n pc lv (vd x :: vi a :: gr G j :: st) w := by
  obtain ⟨p, e, R', s, m, args, below, meth, c, Q, nL'⟩ := E
  obtain ⟨hx, hb, hml, hown, hts, hr, hlk, hK, hI, hN, rfl, rfl⟩ := X
  intro H locs ls hP hS hl
  obtain ⟨h, hf⟩ := ite_n hf
  refine va_dast hx hb hK hP (D_of hI) hS j 4 (WL_arD hj.1 hj.2) rfl (in_of h) hd (fun H1 locs1 hP1 _ hS1 => ?_)
  have e : (WL G.2.2.1 G.2.2.2 w).set j (G.2.2.2 j, .inl (G.2.2.1 4, n0, .inr (.inr (.inr (.inl (vf_upd (fun k => UInt64.ofNat (w j k).toNat) (Int32.ofInt a).toNatClampNeg (UInt64.ofNat x.toNat))))))) = WL G.2.2.1 G.2.2.2 (up w j (wr a).toNat x) := by
    refine WL_set hj.1 ?_ (fun i hi => ce_ne hi)
    unfold ce
    rw [hj.2, cl_of]
    show Sum.inl (_, _, Sum.inr (Sum.inr (Sum.inr (Sum.inl _)))) = Sum.inl (_, _, Sum.inr (Sum.inr (Sum.inr (Sum.inl _))))
    congr 7
    funext i
    unfold vf_upd up
    by_cases hi : i = (wr a).toNat
    · simp [hi]
    · simp [hi]
  rw [e] at hP1
  exact kk hf H1 locs1 ls hP1 hS1 hl
theorem off_neg {a o d x t : Int} {r : List (Int × Int)} (h : ¬ a = x) (h2 : Op.lookupswitch.offset r d x = t) : Op.lookupswitch.offset ((a, o) :: r) d x = t := by rw [Op.lookupswitch.offset_cons, if_neg h]; exact h2
theorem off_pos {a o d x : Int} {r : List (Int × Int)} (h : a = x) : Op.lookupswitch.offset ((a, o) :: r) d x = o := by rw [Op.lookupswitch.offset_cons, if_pos h]
theorem ite_c {c : Prop} [Decidable c] {α : Type} {A B r : α} {P : Prop} (hf : (if c then A else B) = r) (kt : c → A = r → P) (kf : ¬ c → B = r → P) : P := by
  by_cases h : c
  · exact kt h (ite_t h hf)
  · exact kf h (ite_f h hf)
theorem V_lookup {G : GG} {E : EE} {cc : ByteArray} {own : String} {ret : Option FieldType} {R : Room} {nL : Nat} (X : Cx G E cc own ret R nL) {k n pc : Nat} {lv : List (Nat × Value)} {st : List Value} {w : WS} {dflt : Int} {ps : Array (Int × Int)} {len : Nat} {a off : Int} {tgt : Nat} (hd : decode cc pc = .ok (.lookupswitch dflt ps, len)) (hp : (ps.toList.zip (ps.toList.drop 1)).all (fun (a, next) => a.1 < next.1) = true) (ho : Op.lookupswitch.offset ps.toList dflt (wr a) = off) (ht : (pc : Int) + off = (tgt : Int)) (kk : VV G E k n tgt lv st w) : VV G E k n pc lv (vi a :: st) w := by
  obtain ⟨p, e, R', s, m, args, below, meth, c, Q, nL'⟩ := E
  obtain ⟨hx, hb, hml, hown, hts, hr, hlk, hK, hI, hN, rfl, rfl⟩ := X
  intro H locs ls hP hS hl
  exact lv_lookup hx hb hd hp (by rw [wr_toInt]; exact ho) ht (kk H locs ls hP hS hl)
theorem V_tin {G : GG} {E : EE} {cc : ByteArray} {own : String} {ret : Option FieldType} {R : Room} {nL : Nat} (X : Cx G E cc own ret R nL) {k n pc : Nat} {lv : List (Nat × Value)} {st : List Value} {w : WS} {dflt lo hi : Int} {offs : Array Int} {len : Nat} {a off : Int} {tgt : Nat} (hd : decode cc pc = .ok (.tableswitch dflt lo hi offs, len)) (x : Int) (hxa : x = wr a) (h1 : lo ≤ x ∧ x ≤ hi) (ho : offs[(x - lo).toNat]? = some off) (ht : (pc : Int) + off = (tgt : Int)) (kk : VV G E k n tgt lv st w) : VV G E k n pc lv (vi a :: st) w := by
  obtain ⟨p, e, R', s, m, args, below, meth, c, Q, nL'⟩ := E
  obtain ⟨hx, hb, hml, hown, hts, hr, hlk, hK, hI, hN, rfl, rfl⟩ := X
  intro H locs ls hP hS hl
  exact lv_tableIn hx hb hd (by rw [wr_toInt, ← hxa]; exact Int.not_lt.mpr h1.1) (by rw [wr_toInt, ← hxa]; exact Int.not_lt.mpr h1.2) (by rw [wr_toInt, ← hxa]; exact ho) ht (kk H locs ls hP hS hl)
theorem V_tout {G : GG} {E : EE} {cc : ByteArray} {own : String} {ret : Option FieldType} {R : Room} {nL : Nat} (X : Cx G E cc own ret R nL) {k n pc : Nat} {lv : List (Nat × Value)} {st : List Value} {w : WS} {dflt lo hi : Int} {offs : Array Int} {len : Nat} {a : Int} {tgt : Nat} (hd : decode cc pc = .ok (.tableswitch dflt lo hi offs, len)) (h1 : wr a < lo ∨ hi < wr a) (ht : (pc : Int) + dflt = (tgt : Int)) (kk : VV G E k n tgt lv st w) : VV G E k n pc lv (vi a :: st) w := by
  obtain ⟨p, e, R', s, m, args, below, meth, c, Q, nL'⟩ := E
  obtain ⟨hx, hb, hml, hown, hts, hr, hlk, hK, hI, hN, rfl, rfl⟩ := X
  intro H locs ls hP hS hl
  exact lv_tableOut hx hb hd (by rw [wr_toInt]; exact h1) ht (kk H locs ls hP hS hl)
theorem lc_val (a b : Int) : lg_cmp (Int64.ofInt a) (Int64.ofInt b) = if wl b < wl a then 1 else if wl a = wl b then 0 else -1 := by
  unfold lg_cmp
  simp only [gt_iff_lt, lt_of64, eq_of64]
theorem lc_lt (a b : Int) : lg_cmp (Int64.ofInt a) (Int64.ofInt b) < 0 ↔ wl a < wl b := by
  rw [lc_val]; split
  · rename_i h; exact ⟨fun q => absurd q (by decide), fun q => absurd q (by omega)⟩
  · split
    · rename_i h; exact ⟨fun q => absurd q (by decide), fun q => absurd q (by omega)⟩
    · exact ⟨fun q => by omega, fun q => by decide⟩
theorem lc_gt (a b : Int) : 0 < lg_cmp (Int64.ofInt a) (Int64.ofInt b) ↔ wl b < wl a := by
  rw [lc_val]; split
  · rename_i h; exact ⟨fun q => h, fun q => by decide⟩
  · split
    · rename_i h; exact ⟨fun q => absurd q (by decide), fun q => absurd q (by omega)⟩
    · rename_i h _; exact ⟨fun q => absurd q (by decide), fun q => absurd q h⟩
theorem lc_eq (a b : Int) : lg_cmp (Int64.ofInt a) (Int64.ofInt b) = 0 ↔ wl a = wl b := by
  rw [lc_val]; split
  · rename_i h; exact ⟨fun q => absurd q (by decide), fun q => absurd q (by omega)⟩
  · split
    · rename_i h; exact ⟨fun q => h, fun q => rfl⟩
    · rename_i h; exact ⟨fun q => absurd q (by decide), fun q => absurd q h⟩
theorem lc_ge (a b : Int) : 0 ≤ lg_cmp (Int64.ofInt a) (Int64.ofInt b) ↔ ¬ wl a < wl b := by
  rw [← lc_lt, Int32.not_lt]
theorem lc_le (a b : Int) : lg_cmp (Int64.ofInt a) (Int64.ofInt b) ≤ 0 ↔ ¬ wl b < wl a := by
  rw [← lc_gt, Int32.not_lt]
theorem V_lcmp_lt {G : GG} {E : EE} {cc : ByteArray} {own : String} {ret : Option FieldType} {R : Room} {nL : Nat} (X : Cx G E cc own ret R nL) {k n pc : Nat} {lv : List (Nat × Value)} {st : List Value} {w : WS} {a b : Int} {off : Int} {tgt pc2 : Nat} {α : Type} {A B r : α} (hd0 : decode cc pc = .ok (.lcmp, 1)) (hpc : pc + 1 = pc2) (hd : decode cc pc2 = .ok (.ifCond .lt off, 3)) (ht : (pc2 : Int) + off = (tgt : Int)) (hf : (if wl a < wl b then A else B) = r) (kt : A = r → VV G E k n tgt lv st w) (kf : B = r → VV G E k n (pc2 + 3) lv st w) : VV G E k n pc lv (vl b :: vl a :: st) w := by
  obtain ⟨p, e, R', s, m, args, below, meth, c, Q, nL'⟩ := E
  obtain ⟨hx, hb, hml, hown, hts, hr, hlk, hK, hI, hN, rfl, rfl⟩ := X
  intro H locs ls hP hS hl
  subst hpc
  refine W.lcmp hx hb hd0 ?_
  refine lv_if_lt hx hb hd ht (fun h => ?_) (fun h => ?_)
  · exact kt (ite_t ((lc_lt a b).mp h) hf) H locs ls hP hS hl
  · exact kf (ite_f (fun q => h ((lc_lt a b).mpr q)) hf) H locs ls hP hS hl
theorem V_lcmp_ge {G : GG} {E : EE} {cc : ByteArray} {own : String} {ret : Option FieldType} {R : Room} {nL : Nat} (X : Cx G E cc own ret R nL) {k n pc : Nat} {lv : List (Nat × Value)} {st : List Value} {w : WS} {a b : Int} {off : Int} {tgt pc2 : Nat} {α : Type} {A B r : α} (hd0 : decode cc pc = .ok (.lcmp, 1)) (hpc : pc + 1 = pc2) (hd : decode cc pc2 = .ok (.ifCond .ge off, 3)) (ht : (pc2 : Int) + off = (tgt : Int)) (hf : (if wl a < wl b then A else B) = r) (kt : A = r → VV G E k n (pc2 + 3) lv st w) (kf : B = r → VV G E k n tgt lv st w) : VV G E k n pc lv (vl b :: vl a :: st) w := by
  obtain ⟨p, e, R', s, m, args, below, meth, c, Q, nL'⟩ := E
  obtain ⟨hx, hb, hml, hown, hts, hr, hlk, hK, hI, hN, rfl, rfl⟩ := X
  intro H locs ls hP hS hl
  subst hpc
  refine W.lcmp hx hb hd0 ?_
  refine lv_if_ge hx hb hd ht (fun h => ?_) (fun h => ?_)
  · exact kf (ite_f (fun q => (lc_ge a b).mp h q) hf) H locs ls hP hS hl
  · exact kt (ite_t (Classical.not_not.mp (fun q => h ((lc_ge a b).mpr q))) hf) H locs ls hP hS hl
theorem V_lcmp_gt {G : GG} {E : EE} {cc : ByteArray} {own : String} {ret : Option FieldType} {R : Room} {nL : Nat} (X : Cx G E cc own ret R nL) {k n pc : Nat} {lv : List (Nat × Value)} {st : List Value} {w : WS} {a b : Int} {off : Int} {tgt pc2 : Nat} {α : Type} {A B r : α} (hd0 : decode cc pc = .ok (.lcmp, 1)) (hpc : pc + 1 = pc2) (hd : decode cc pc2 = .ok (.ifCond .gt off, 3)) (ht : (pc2 : Int) + off = (tgt : Int)) (hf : (if wl b < wl a then A else B) = r) (kt : A = r → VV G E k n tgt lv st w) (kf : B = r → VV G E k n (pc2 + 3) lv st w) : VV G E k n pc lv (vl b :: vl a :: st) w := by
  obtain ⟨p, e, R', s, m, args, below, meth, c, Q, nL'⟩ := E
  obtain ⟨hx, hb, hml, hown, hts, hr, hlk, hK, hI, hN, rfl, rfl⟩ := X
  intro H locs ls hP hS hl
  subst hpc
  refine W.lcmp hx hb hd0 ?_
  refine lv_if_gt hx hb hd ht (fun h => ?_) (fun h => ?_)
  · exact kt (ite_t ((lc_gt a b).mp h) hf) H locs ls hP hS hl
  · exact kf (ite_f (fun q => h ((lc_gt a b).mpr q)) hf) H locs ls hP hS hl
theorem V_lcmp_le {G : GG} {E : EE} {cc : ByteArray} {own : String} {ret : Option FieldType} {R : Room} {nL : Nat} (X : Cx G E cc own ret R nL) {k n pc : Nat} {lv : List (Nat × Value)} {st : List Value} {w : WS} {a b : Int} {off : Int} {tgt pc2 : Nat} {α : Type} {A B r : α} (hd0 : decode cc pc = .ok (.lcmp, 1)) (hpc : pc + 1 = pc2) (hd : decode cc pc2 = .ok (.ifCond .le off, 3)) (ht : (pc2 : Int) + off = (tgt : Int)) (hf : (if wl b < wl a then A else B) = r) (kt : A = r → VV G E k n (pc2 + 3) lv st w) (kf : B = r → VV G E k n tgt lv st w) : VV G E k n pc lv (vl b :: vl a :: st) w := by
  obtain ⟨p, e, R', s, m, args, below, meth, c, Q, nL'⟩ := E
  obtain ⟨hx, hb, hml, hown, hts, hr, hlk, hK, hI, hN, rfl, rfl⟩ := X
  intro H locs ls hP hS hl
  subst hpc
  refine W.lcmp hx hb hd0 ?_
  refine lv_if_le hx hb hd ht (fun h => ?_) (fun h => ?_)
  · exact kf (ite_f (fun q => (lc_le a b).mp h q) hf) H locs ls hP hS hl
  · exact kt (ite_t (Classical.not_not.mp (fun q => h ((lc_le a b).mpr q))) hf) H locs ls hP hS hl
theorem V_lcmp_eq {G : GG} {E : EE} {cc : ByteArray} {own : String} {ret : Option FieldType} {R : Room} {nL : Nat} (X : Cx G E cc own ret R nL) {k n pc : Nat} {lv : List (Nat × Value)} {st : List Value} {w : WS} {a b : Int} {off : Int} {tgt pc2 : Nat} {α : Type} {A B r : α} (hd0 : decode cc pc = .ok (.lcmp, 1)) (hpc : pc + 1 = pc2) (hd : decode cc pc2 = .ok (.ifCond .eq off, 3)) (ht : (pc2 : Int) + off = (tgt : Int)) (hf : (if wl a = wl b then A else B) = r) (kt : A = r → VV G E k n tgt lv st w) (kf : B = r → VV G E k n (pc2 + 3) lv st w) : VV G E k n pc lv (vl b :: vl a :: st) w := by
  obtain ⟨p, e, R', s, m, args, below, meth, c, Q, nL'⟩ := E
  obtain ⟨hx, hb, hml, hown, hts, hr, hlk, hK, hI, hN, rfl, rfl⟩ := X
  intro H locs ls hP hS hl
  subst hpc
  refine W.lcmp hx hb hd0 ?_
  refine lv_if_eq hx hb hd ht (fun h => ?_) (fun h => ?_)
  · exact kt (ite_t ((lc_eq a b).mp h) hf) H locs ls hP hS hl
  · exact kf (ite_f (fun q => h ((lc_eq a b).mpr q)) hf) H locs ls hP hS hl
theorem V_lcmp_ne {G : GG} {E : EE} {cc : ByteArray} {own : String} {ret : Option FieldType} {R : Room} {nL : Nat} (X : Cx G E cc own ret R nL) {k n pc : Nat} {lv : List (Nat × Value)} {st : List Value} {w : WS} {a b : Int} {off : Int} {tgt pc2 : Nat} {α : Type} {A B r : α} (hd0 : decode cc pc = .ok (.lcmp, 1)) (hpc : pc + 1 = pc2) (hd : decode cc pc2 = .ok (.ifCond .ne off, 3)) (ht : (pc2 : Int) + off = (tgt : Int)) (hf : (if wl a = wl b then A else B) = r) (kt : A = r → VV G E k n (pc2 + 3) lv st w) (kf : B = r → VV G E k n tgt lv st w) : VV G E k n pc lv (vl b :: vl a :: st) w := by
  obtain ⟨p, e, R', s, m, args, below, meth, c, Q, nL'⟩ := E
  obtain ⟨hx, hb, hml, hown, hts, hr, hlk, hK, hI, hN, rfl, rfl⟩ := X
  intro H locs ls hP hS hl
  subst hpc
  refine W.lcmp hx hb hd0 ?_
  refine lv_if_ne hx hb hd ht (fun h => ?_) (fun h => ?_)
  · exact kf (ite_f (fun q => h ((lc_eq a b).mpr q)) hf) H locs ls hP hS hl
  · exact kt (ite_t ((lc_eq a b).mp h) hf) H locs ls hP hS hl
def isNest : Cond → Bool
  | .fieldLinkNest .. => true
  | .methodLinkNest .. => true
  | .castable .. => true
  | .declares _ => true
  | _ => false
theorem NT_ot : ∀ w ∈ NT, w.onTables = true := fun w hw => List.all_eq_true.mp (show NT.all Cond.onTables = true from rfl) w hw
theorem NW_warm {s U : State} (hW : s.WarmedH U.vm) (h : NW s) : NW U := by
  intro w hw
  have h2 := h w hw
  have hn : isNest w = true := List.all_eq_true.mp (show NT.all isNest = true from rfl) w hw
  cases w <;> first | (exact va_Nw.warmF hW h2) | (exact va_Nw.warmM hW h2) | (exact va_Nw.warmC hW h2) | (exact va_Nw.warmD hW h2) | (cases hn)
theorem NW_same {u U : State} (hv : u.vm = U.vm) (h : NW u) : NW U := by
  intro w hw
  have h2 := h w hw
  have hn : isNest w = true := List.all_eq_true.mp (show NT.all isNest = true from rfl) w hw
  cases w <;> first | (exact va_Nw.same rfl hv h2) | (cases hn)
theorem PW_blind {G : GG} {As : List Value} {sz : Nat} {w : WS} : FrameBlind (va_Pc As (PW G sz w)) := by
  intro a U g mk h
  obtain ⟨h0, h1, h2, h3, h4, h5⟩ := h
  exact ⟨h0, h1, h2, va_K.moved (u := U) (U := U.calling g mk a) (Vm.Alike.refl U.vm) h3, h4, NW_same (u := U) (U := U.calling g mk a) rfl h5⟩
theorem PW_call {G : GG} {s : State} {H : Heap} {w : WS} (hP : va_P G.2.1 vwCl (WL G.2.2.1 G.2.2.2 w) H) (hK : va_K G.2.1 vwCl (tyL G.2.2.1) s) (hI : InjA G.2.2.2) (hN : NW s) {U : State} (hU : U.heap = H) (hW : s.WarmedH U.vm) : PW G H.size w U := ⟨by rw [hU], by rw [hU]; exact hP, va_K.moved hW.alike hK, hI, NW_warm hW hN⟩
def QI (G : GG) (q : Int × WS) (sz : Nat) : Array Value → State → Outcome → State → Prop := va_Qi (fun r (_ : Unit) => r = Int32.ofInt q.1) (fun _ t => BW G q.2 t) (FAd G.2.2.2 sz)
def QL (G : GG) (q : Int × WS) (sz : Nat) : Array Value → State → Outcome → State → Prop := va_Ql (fun r (_ : Unit) => r = Int64.ofInt q.1) (fun _ t => BW G q.2 t) (FAd G.2.2.2 sz)
def QV (G : GG) (q : Int × WS) (sz : Nat) : Array Value → State → Outcome → State → Prop := va_Qv (fun (_ : Unit) => True) (fun _ t => BW G q.2 t) (FAd G.2.2.2 sz)
theorem good_ws {y : MethodName} {bytes : ByteArray} {maxL : Nat} {ret : Option FieldType} (h : Cond.code y bytes maxL ret ∈ TT) : GoodIn TT (.code y bytes maxL ret :: TT) := by
  intro w hw
  rcases List.mem_cons.mp hw with rfl | hw
  · exact ⟨h, good_of_word (TT_good _ h)⟩
  · exact ⟨hw, good_of_word (TT_good _ hw)⟩
def MI (G : GG) (y : MethodName) (bytes : ByteArray) (maxL : Nat) (ret : Option FieldType) (rm : Room) (As : List Value) (w : WS) (q : Int × WS) : Prop := ∀ sz : Nat, Met G.1 y (.code y bytes maxL ret :: TT) rm (va_Pc As (PW G sz w)) (QI G q sz) 0 0 (FAd G.2.2.2 sz)
def EndI (G : GG) (E : EE) (q : Int × WS) : Prop := match E with
  | (p, e, R, s, m, args, below, meth, c, Q, nL) => Q = MQ below (QI G q s.heap.size) args s 0 0 (FAd G.2.2.2 s.heap.size)
theorem MI_of {G : GG} {y : MethodName} {bytes : ByteArray} {maxL : Nat} {ret : Option FieldType} {rm : Room} {As : List Value} {w : WS} {q : Int × WS} (hy : plainName y.cls = true) (hlen : (lg_sl As).length ≤ maxL) (body : ∀ E : EE, Cx G E bytes y.cls ret rm maxL → EndI G E q → VV G E 0 0 0 (lv_args 0 As) [] w) : MI G y bytes maxL ret rm As w q := by
  intro sz
  refine Met.ofW (cc := bytes) (maxL := maxL) (ret := ret) hy rfl ?_
  intro p e s m args below meth c s₁ B hml hv
  obtain ⟨rfl, hsz, hP, hK, hI, hN⟩ := hv
  subst hsz
  have hts := atoms_spec (ws := .code y bytes maxL ret :: TT) B.pre
  rw [lg_entry_eq]
  have hl := lv_entry As (n := maxL) hlen
  exact body (p, e, rm, s, m, As.toArray, below, meth, c, _, maxL) ⟨B.exec, B.bytes, hml, findClass_of_methodNamed B.named, fun w hw => hts w (List.mem_cons_of_mem _ hw), B.returns, B.notSynchronized, hK, hI, hN, rfl, rfl⟩ rfl s.heap [] _ hP va_S.rf hl
def ML (G : GG) (y : MethodName) (bytes : ByteArray) (maxL : Nat) (ret : Option FieldType) (rm : Room) (As : List Value) (w : WS) (q : Int × WS) : Prop := ∀ sz : Nat, Met G.1 y (.code y bytes maxL ret :: TT) rm (va_Pc As (PW G sz w)) (QL G q sz) 0 0 (FAd G.2.2.2 sz)
def EndL (G : GG) (E : EE) (q : Int × WS) : Prop := match E with
  | (p, e, R, s, m, args, below, meth, c, Q, nL) => Q = MQ below (QL G q s.heap.size) args s 0 0 (FAd G.2.2.2 s.heap.size)
theorem ML_of {G : GG} {y : MethodName} {bytes : ByteArray} {maxL : Nat} {ret : Option FieldType} {rm : Room} {As : List Value} {w : WS} {q : Int × WS} (hy : plainName y.cls = true) (hlen : (lg_sl As).length ≤ maxL) (body : ∀ E : EE, Cx G E bytes y.cls ret rm maxL → EndL G E q → VV G E 0 0 0 (lv_args 0 As) [] w) : ML G y bytes maxL ret rm As w q := by
  intro sz
  refine Met.ofW (cc := bytes) (maxL := maxL) (ret := ret) hy rfl ?_
  intro p e s m args below meth c s₁ B hml hv
  obtain ⟨rfl, hsz, hP, hK, hI, hN⟩ := hv
  subst hsz
  have hts := atoms_spec (ws := .code y bytes maxL ret :: TT) B.pre
  rw [lg_entry_eq]
  have hl := lv_entry As (n := maxL) hlen
  exact body (p, e, rm, s, m, As.toArray, below, meth, c, _, maxL) ⟨B.exec, B.bytes, hml, findClass_of_methodNamed B.named, fun w hw => hts w (List.mem_cons_of_mem _ hw), B.returns, B.notSynchronized, hK, hI, hN, rfl, rfl⟩ rfl s.heap [] _ hP va_S.rf hl
def MV (G : GG) (y : MethodName) (bytes : ByteArray) (maxL : Nat) (ret : Option FieldType) (rm : Room) (As : List Value) (w : WS) (q : Int × WS) : Prop := ∀ sz : Nat, Met G.1 y (.code y bytes maxL ret :: TT) rm (va_Pc As (PW G sz w)) (QV G q sz) 0 0 (FAd G.2.2.2 sz)
def EndV (G : GG) (E : EE) (q : Int × WS) : Prop := match E with
  | (p, e, R, s, m, args, below, meth, c, Q, nL) => Q = MQ below (QV G q s.heap.size) args s 0 0 (FAd G.2.2.2 s.heap.size)
theorem MV_of {G : GG} {y : MethodName} {bytes : ByteArray} {maxL : Nat} {ret : Option FieldType} {rm : Room} {As : List Value} {w : WS} {q : Int × WS} (hy : plainName y.cls = true) (hlen : (lg_sl As).length ≤ maxL) (body : ∀ E : EE, Cx G E bytes y.cls ret rm maxL → EndV G E q → VV G E 0 0 0 (lv_args 0 As) [] w) : MV G y bytes maxL ret rm As w q := by
  intro sz
  refine Met.ofW (cc := bytes) (maxL := maxL) (ret := ret) hy rfl ?_
  intro p e s m args below meth c s₁ B hml hv
  obtain ⟨rfl, hsz, hP, hK, hI, hN⟩ := hv
  subst hsz
  have hts := atoms_spec (ws := .code y bytes maxL ret :: TT) B.pre
  rw [lg_entry_eq]
  have hl := lv_entry As (n := maxL) hlen
  exact body (p, e, rm, s, m, As.toArray, below, meth, c, _, maxL) ⟨B.exec, B.bytes, hml, findClass_of_methodNamed B.named, fun w hw => hts w (List.mem_cons_of_mem _ hw), B.returns, B.notSynchronized, hK, hI, hN, rfl, rfl⟩ rfl s.heap [] _ hP va_S.rf hl
theorem V_iret {G : GG} {E : EE} {cc : ByteArray} {own : String} {R : Room} {nL : Nat} (X : Cx G E cc own (some .int) R nL) {q : Int × WS} (hE : EndI G E q) {pc : Nat} {lv : List (Nat × Value)} {w : WS} {a : Int} (hd : decode cc pc = .ok (.ireturn, 1)) (hf : some (a, w) = some q) : VV G E 0 0 pc lv [vi a] w := by
  obtain ⟨p, e, R', s, m, args, below, meth, c, Q, nL'⟩ := E
  obtain ⟨hx, hb, hml, hown, hts, hr, hlk, hK, hI, hN, rfl, rfl⟩ := X
  intro H locs ls hP hS hl
  cases hf
  have hE : Q = _ := hE
  subst hE
  exact W.iret hx hb hr (fun t ht hW => ⟨⟨_, (), rfl, rfl, by show va_P _ _ _ _; rw [ht]; exact hP⟩, hS.F ht⟩) hS.2.2 hd hlk
theorem V_zret {G : GG} {E : EE} {cc : ByteArray} {own : String} {R : Room} {nL : Nat} (X : Cx G E cc own (some .boolean) R nL) {q : Int × WS} (hE : EndI G E q) {pc : Nat} {lv : List (Nat × Value)} {w : WS} {a : Int} (hd : decode cc pc = .ok (.ireturn, 1)) (hz : a = 0 ∨ a = 1) (hf : some (a, w) = some q) : VV G E 0 0 pc lv [vi a] w := by
  obtain ⟨p, e, R', s, m, args, below, meth, c, Q, nL'⟩ := E
  obtain ⟨hx, hb, hml, hown, hts, hr, hlk, hK, hI, hN, rfl, rfl⟩ := X
  intro H locs ls hP hS hl
  cases hf
  have hE : Q = _ := hE
  subst hE
  exact W.zret hx hb hr (by rcases hz with rfl | rfl <;> rfl) (fun t ht hW => ⟨⟨_, (), rfl, rfl, by show va_P _ _ _ _; rw [ht]; exact hP⟩, hS.F ht⟩) hS.2.2 hd hlk
theorem V_cret {G : GG} {E : EE} {cc : ByteArray} {own : String} {R : Room} {nL : Nat} (X : Cx G E cc own (some .char) R nL) {q : Int × WS} (hE : EndI G E q) {pc : Nat} {lv : List (Nat × Value)} {w : WS} {a : Int} (hd : decode cc pc = .ok (.ireturn, 1)) (hz : 0 ≤ a ∧ a < 65536) (hf : some (a, w) = some q) : VV G E 0 0 pc lv [vi a] w := by
  obtain ⟨p, e, R', s, m, args, below, meth, c, Q, nL'⟩ := E
  obtain ⟨hx, hb, hml, hown, hts, hr, hlk, hK, hI, hN, rfl, rfl⟩ := X
  intro H locs ls hP hS hl
  cases hf
  have hE : Q = _ := hE
  subst hE
  exact W.zret hx hb hr (by
    show Value.int (vp_nar .char (Int32.ofInt a)) = _
    rw [cn_of]
    unfold nC
    rw [Int.emod_eq_of_lt hz.1 hz.2]) (fun t ht hW => ⟨⟨_, (), rfl, rfl, by show va_P _ _ _ _; rw [ht]; exact hP⟩, hS.F ht⟩) hS.2.2 hd hlk
theorem V_lret {G : GG} {E : EE} {cc : ByteArray} {own : String} {R : Room} {nL : Nat} (X : Cx G E cc own (some .long) R nL) {q : Int × WS} (hE : EndL G E q) {pc : Nat} {lv : List (Nat × Value)} {w : WS} {a : Int} (hd : decode cc pc = .ok (.lreturn, 1)) (hf : some (a, w) = some q) : VV G E 0 0 pc lv [vl a] w := by
  obtain ⟨p, e, R', s, m, args, below, meth, c, Q, nL'⟩ := E
  obtain ⟨hx, hb, hml, hown, hts, hr, hlk, hK, hI, hN, rfl, rfl⟩ := X
  intro H locs ls hP hS hl
  cases hf
  have hE : Q = _ := hE
  subst hE
  exact W.lret hx hb hr (fun t ht hW => ⟨⟨_, (), rfl, rfl, by show va_P _ _ _ _; rw [ht]; exact hP⟩, hS.F ht⟩) hS.2.2 hd hlk
theorem V_vret {G : GG} {E : EE} {cc : ByteArray} {own : String} {R : Room} {nL : Nat} (X : Cx G E cc own none R nL) {q : Int × WS} (hE : EndV G E q) {pc : Nat} {lv : List (Nat × Value)} {w : WS} {a : Int} (hd : decode cc pc = .ok (.return_, 1)) (hf : some (a, w) = some q) : VV G E 0 0 pc lv [] w := by
  obtain ⟨p, e, R', s, m, args, below, meth, c, Q, nL'⟩ := E
  obtain ⟨hx, hb, hml, hown, hts, hr, hlk, hK, hI, hN, rfl, rfl⟩ := X
  intro H locs ls hP hS hl
  cases hf
  have hE : Q = _ := hE
  subst hE
  exact W.vret hx hb hr (fun t ht hW => ⟨⟨(), rfl, trivial, by show va_P _ _ _ _; rw [ht]; exact hP⟩, hS.F ht⟩) hS.2.2 hd hlk
theorem V_cVI {G : GG} {E : EE} {cc : ByteArray} {own : String} {ret : Option FieldType} {R : Room} {nL : Nat} (X : Cx G E cc own ret R nL) {k n pc : Nat} {lv : List (Nat × Value)} {w : WS} {i c : Nat} {C : String} {T : u_T} {N : Nat} {index maxL : Nat} {y : MethodName} {bytes : ByteArray} {ret9 : Option FieldType} {rm : Room} {ρ : Type} {F : Option (Int × WS)} {K : Int → WS → Option ρ} {r0 : ρ} (hf : ob F K = some r0) (As rest : List Value) (nA : Nat) (hM : ∀ q, F = some q → MI G y bytes maxL ret9 rm (gr G i :: As) w q) (hi : i < NC ∧ ck i = .inl c) (hcl : vwCl[c]? = some (C, T, N)) (hcode : Cond.code y bytes maxL ret9 ∈ TT) (hini : Cond.initialized y.cls ∈ TT) (hli : Cond.methodLink own index y ∈ TT) (hinst : Cond.instanceMethod y ∈ TT) (hsel : Cond.selects C y y ∈ TT) (hd : decode cc pc = .ok (.invokevirtual index, 3)) (hy : y.cls ≠ "java/lang/invoke/MethodHandle" ∧ y.cls ≠ "java/lang/invoke/VarHandle" ∧ (parseMethodDescriptor y.desc).map (fun d => d.parameters.length) = some nA) (hrc : rm.cells = 0 ∧ rm.slots = 0) (hR : rm.frames + 1 ≤ R.frames ∧ 8 + (maxL + 11) + rm.locals ≤ R.locals) (hn : As.length = nA) (hcat : (rest.map fun v => v.category).sum ≤ 8) (hroom : k ≤ R.cells ∧ n ≤ R.slots) (kk : ∀ (r : Int) (w1 : WS), K r w1 = some r0 → VV G E k n (pc + 3) lv (vi r :: rest) w1) : VV G E k n pc lv (As.reverse ++ gr G i :: rest) w := by
  obtain ⟨p, e, R', s, m, args, below, meth, c, Q, nL'⟩ := E
  obtain ⟨hx, hb, hml, hown, hts, hr, hlk, hK, hI, hN, rfl, rfl⟩ := X
  intro H locs ls hP hS hl
  obtain ⟨q9, hq, hf⟩ := obnd hf
  refine va_calli (va_runV (As := As) (rest := rest) ⟨hx, hb, hml, hown, hts⟩ (hM q9 hq H.size) ⟨callB_of nA hts (good_ws hcode) rfl hrc.1 hrc.2 (hts _ hini) (hts _ hli) hy hR, hts _ hinst, hts _ hsel⟩ ⟨PW_blind, va_recv hK hP hcl (WL_obj hi.1 hi.2), fun U hU hW => ⟨rfl, PW_call hP hK hI hN hU hW⟩⟩ rfl hn hl.1 rfl (lv_room hcat) hd ⟨hroom.1, hroom.2⟩) hS (fun q _ h => FAd_mono hS.1 q h) (fun q h => FAd_mono hS.1 q h) (fun r9 u9 t9 H1 locs1 ht hvm hw9 hB hz1 hk1 hS1 => ?_)
  obtain rfl := hw9
  have hP1 : va_P G.2.1 vwCl (WL G.2.2.1 G.2.2.2 q9.2) H1 := by rw [← ht]; exact hB
  exact kk q9.1 q9.2 hf H1 locs1 ls hP1 hS1 hl
theorem V_cSI {G : GG} {E : EE} {cc : ByteArray} {own : String} {ret : Option FieldType} {R : Room} {nL : Nat} (X : Cx G E cc own ret R nL) {k n pc : Nat} {lv : List (Nat × Value)} {w : WS} {index maxL : Nat} {y : MethodName} {bytes : ByteArray} {ret9 : Option FieldType} {rm : Room} {ρ : Type} {F : Option (Int × WS)} {K : Int → WS → Option ρ} {r0 : ρ} (hf : ob F K = some r0) (As rest : List Value) (nA : Nat) (hM : ∀ q, F = some q → MI G y bytes maxL ret9 rm As w q) (hcode : Cond.code y bytes maxL ret9 ∈ TT) (hini : Cond.initialized y.cls ∈ TT) (hli : Cond.methodLink own index y ∈ TT) (hst : Cond.static y ∈ TT) (hd : decode cc pc = .ok (.invokestatic index, 3)) (hy : y.cls ≠ "java/lang/invoke/MethodHandle" ∧ y.cls ≠ "java/lang/invoke/VarHandle" ∧ (parseMethodDescriptor y.desc).map (fun d => d.parameters.length) = some nA) (hrc : rm.cells = 0 ∧ rm.slots = 0) (hR : rm.frames + 1 ≤ R.frames ∧ 8 + (maxL + 11) + rm.locals ≤ R.locals) (hn : As.length = nA) (hcat : (rest.map fun v => v.category).sum ≤ 8) (hroom : k ≤ R.cells ∧ n ≤ R.slots) (kk : ∀ (r : Int) (w1 : WS), K r w1 = some r0 → VV G E k n (pc + 3) lv (vi r :: rest) w1) : VV G E k n pc lv (As.reverse ++ rest) w := by
  obtain ⟨p, e, R', s, m, args, below, meth, c, Q, nL'⟩ := E
  obtain ⟨hx, hb, hml, hown, hts, hr, hlk, hK, hI, hN, rfl, rfl⟩ := X
  intro H locs ls hP hS hl
  obtain ⟨q9, hq, hf⟩ := obnd hf
  refine va_calli (va_runS (As := As) (rest := rest) ⟨hx, hb, hml, hown, hts⟩ (hM q9 hq H.size) ⟨callB_of nA hts (good_ws hcode) rfl hrc.1 hrc.2 (hts _ hini) (hts _ hli) hy hR, hts _ hst⟩ ⟨PW_blind, fun U hU hW => ⟨rfl, PW_call hP hK hI hN hU hW⟩⟩ rfl hn hl.1 rfl (lv_room hcat) hd ⟨hroom.1, hroom.2⟩) hS (fun q _ h => FAd_mono hS.1 q h) (fun q h => FAd_mono hS.1 q h) (fun r9 u9 t9 H1 locs1 ht hvm hw9 hB hz1 hk1 hS1 => ?_)
  obtain rfl := hw9
  have hP1 : va_P G.2.1 vwCl (WL G.2.2.1 G.2.2.2 q9.2) H1 := by rw [← ht]; exact hB
  exact kk q9.1 q9.2 hf H1 locs1 ls hP1 hS1 hl
theorem V_cSNI {G : GG} {E : EE} {cc : ByteArray} {own : String} {ret : Option FieldType} {R : Room} {nL : Nat} (X : Cx G E cc own ret R nL) {k n pc : Nat} {lv : List (Nat × Value)} {w : WS} {host : String} {index maxL : Nat} {y : MethodName} {bytes : ByteArray} {ret9 : Option FieldType} {rm : Room} {ρ : Type} {F : Option (Int × WS)} {K : Int → WS → Option ρ} {r0 : ρ} (hf : ob F K = some r0) (As rest : List Value) (nA : Nat) (hM : ∀ q, F = some q → MI G y bytes maxL ret9 rm As w q) (hcode : Cond.code y bytes maxL ret9 ∈ TT) (hini : Cond.initialized y.cls ∈ TT) (hli : Cond.methodLinkNest own index y host ∈ NT) (hst : Cond.static y ∈ TT) (hd : decode cc pc = .ok (.invokestatic index, 3)) (hy : y.cls ≠ "java/lang/invoke/MethodHandle" ∧ y.cls ≠ "java/lang/invoke/VarHandle" ∧ (parseMethodDescriptor y.desc).map (fun d => d.parameters.length) = some nA) (hrc : rm.cells = 0 ∧ rm.slots = 0) (hR : rm.frames + 1 ≤ R.frames ∧ 8 + (maxL + 11) + rm.locals ≤ R.locals) (hn : As.length = nA) (hcat : (rest.map fun v => v.category).sum ≤ 8) (hroom : k ≤ R.cells ∧ n ≤ R.slots) (kk : ∀ (r : Int) (w1 : WS), K r w1 = some r0 → VV G E k n (pc + 3) lv (vi r :: rest) w1) : VV G E k n pc lv (As.reverse ++ rest) w := by
  obtain ⟨p, e, R', s, m, args, below, meth, c, Q, nL'⟩ := E
  obtain ⟨hx, hb, hml, hown, hts, hr, hlk, hK, hI, hN, rfl, rfl⟩ := X
  intro H locs ls hP hS hl
  obtain ⟨q9, hq, hf⟩ := obnd hf
  refine va_calli (va_runSN (As := As) (rest := rest) ⟨hx, hb, hml, hown, hts⟩ (hM q9 hq H.size) ⟨va_cnB nA hts (good_ws hcode) rfl hrc.1 hrc.2 (hN _ hli) (hts _ hini) hy hR, hts _ hst, trivial⟩ ⟨PW_blind, fun U hU hW => ⟨rfl, PW_call hP hK hI hN hU hW⟩⟩ rfl hn hl.1 rfl (lv_room hcat) hd ⟨hroom.1, hroom.2⟩) hS (fun q _ h => FAd_mono hS.1 q h) (fun q h => FAd_mono hS.1 q h) (fun r9 u9 t9 H1 locs1 ht hvm hw9 hB hz1 hk1 hS1 => ?_)
  obtain rfl := hw9
  have hP1 : va_P G.2.1 vwCl (WL G.2.2.1 G.2.2.2 q9.2) H1 := by rw [← ht]; exact hB
  exact kk q9.1 q9.2 hf H1 locs1 ls hP1 hS1 hl
theorem V_cVL {G : GG} {E : EE} {cc : ByteArray} {own : String} {ret : Option FieldType} {R : Room} {nL : Nat} (X : Cx G E cc own ret R nL) {k n pc : Nat} {lv : List (Nat × Value)} {w : WS} {i c : Nat} {C : String} {T : u_T} {N : Nat} {index maxL : Nat} {y : MethodName} {bytes : ByteArray} {ret9 : Option FieldType} {rm : Room} {ρ : Type} {F : Option (Int × WS)} {K : Int → WS → Option ρ} {r0 : ρ} (hf : ob F K = some r0) (As rest : List Value) (nA : Nat) (hM : ∀ q, F = some q → ML G y bytes maxL ret9 rm (gr G i :: As) w q) (hi : i < NC ∧ ck i = .inl c) (hcl : vwCl[c]? = some (C, T, N)) (hcode : Cond.code y bytes maxL ret9 ∈ TT) (hini : Cond.initialized y.cls ∈ TT) (hli : Cond.methodLink own index y ∈ TT) (hinst : Cond.instanceMethod y ∈ TT) (hsel : Cond.selects C y y ∈ TT) (hd : decode cc pc = .ok (.invokevirtual index, 3)) (hy : y.cls ≠ "java/lang/invoke/MethodHandle" ∧ y.cls ≠ "java/lang/invoke/VarHandle" ∧ (parseMethodDescriptor y.desc).map (fun d => d.parameters.length) = some nA) (hrc : rm.cells = 0 ∧ rm.slots = 0) (hR : rm.frames + 1 ≤ R.frames ∧ 8 + (maxL + 11) + rm.locals ≤ R.locals) (hn : As.length = nA) (hcat : (rest.map fun v => v.category).sum ≤ 8) (hroom : k ≤ R.cells ∧ n ≤ R.slots) (kk : ∀ (r : Int) (w1 : WS), K r w1 = some r0 → VV G E k n (pc + 3) lv (vl r :: rest) w1) : VV G E k n pc lv (As.reverse ++ gr G i :: rest) w := by
  obtain ⟨p, e, R', s, m, args, below, meth, c, Q, nL'⟩ := E
  obtain ⟨hx, hb, hml, hown, hts, hr, hlk, hK, hI, hN, rfl, rfl⟩ := X
  intro H locs ls hP hS hl
  obtain ⟨q9, hq, hf⟩ := obnd hf
  refine va_calll (va_runV (As := As) (rest := rest) ⟨hx, hb, hml, hown, hts⟩ (hM q9 hq H.size) ⟨callB_of nA hts (good_ws hcode) rfl hrc.1 hrc.2 (hts _ hini) (hts _ hli) hy hR, hts _ hinst, hts _ hsel⟩ ⟨PW_blind, va_recv hK hP hcl (WL_obj hi.1 hi.2), fun U hU hW => ⟨rfl, PW_call hP hK hI hN hU hW⟩⟩ rfl hn hl.1 rfl (lv_room hcat) hd ⟨hroom.1, hroom.2⟩) hS (fun q _ h => FAd_mono hS.1 q h) (fun q h => FAd_mono hS.1 q h) (fun r9 u9 t9 H1 locs1 ht hvm hw9 hB hz1 hk1 hS1 => ?_)
  obtain rfl := hw9
  have hP1 : va_P G.2.1 vwCl (WL G.2.2.1 G.2.2.2 q9.2) H1 := by rw [← ht]; exact hB
  exact kk q9.1 q9.2 hf H1 locs1 ls hP1 hS1 hl
theorem V_cSL {G : GG} {E : EE} {cc : ByteArray} {own : String} {ret : Option FieldType} {R : Room} {nL : Nat} (X : Cx G E cc own ret R nL) {k n pc : Nat} {lv : List (Nat × Value)} {w : WS} {index maxL : Nat} {y : MethodName} {bytes : ByteArray} {ret9 : Option FieldType} {rm : Room} {ρ : Type} {F : Option (Int × WS)} {K : Int → WS → Option ρ} {r0 : ρ} (hf : ob F K = some r0) (As rest : List Value) (nA : Nat) (hM : ∀ q, F = some q → ML G y bytes maxL ret9 rm As w q) (hcode : Cond.code y bytes maxL ret9 ∈ TT) (hini : Cond.initialized y.cls ∈ TT) (hli : Cond.methodLink own index y ∈ TT) (hst : Cond.static y ∈ TT) (hd : decode cc pc = .ok (.invokestatic index, 3)) (hy : y.cls ≠ "java/lang/invoke/MethodHandle" ∧ y.cls ≠ "java/lang/invoke/VarHandle" ∧ (parseMethodDescriptor y.desc).map (fun d => d.parameters.length) = some nA) (hrc : rm.cells = 0 ∧ rm.slots = 0) (hR : rm.frames + 1 ≤ R.frames ∧ 8 + (maxL + 11) + rm.locals ≤ R.locals) (hn : As.length = nA) (hcat : (rest.map fun v => v.category).sum ≤ 8) (hroom : k ≤ R.cells ∧ n ≤ R.slots) (kk : ∀ (r : Int) (w1 : WS), K r w1 = some r0 → VV G E k n (pc + 3) lv (vl r :: rest) w1) : VV G E k n pc lv (As.reverse ++ rest) w := by
  obtain ⟨p, e, R', s, m, args, below, meth, c, Q, nL'⟩ := E
  obtain ⟨hx, hb, hml, hown, hts, hr, hlk, hK, hI, hN, rfl, rfl⟩ := X
  intro H locs ls hP hS hl
  obtain ⟨q9, hq, hf⟩ := obnd hf
  refine va_calll (va_runS (As := As) (rest := rest) ⟨hx, hb, hml, hown, hts⟩ (hM q9 hq H.size) ⟨callB_of nA hts (good_ws hcode) rfl hrc.1 hrc.2 (hts _ hini) (hts _ hli) hy hR, hts _ hst⟩ ⟨PW_blind, fun U hU hW => ⟨rfl, PW_call hP hK hI hN hU hW⟩⟩ rfl hn hl.1 rfl (lv_room hcat) hd ⟨hroom.1, hroom.2⟩) hS (fun q _ h => FAd_mono hS.1 q h) (fun q h => FAd_mono hS.1 q h) (fun r9 u9 t9 H1 locs1 ht hvm hw9 hB hz1 hk1 hS1 => ?_)
  obtain rfl := hw9
  have hP1 : va_P G.2.1 vwCl (WL G.2.2.1 G.2.2.2 q9.2) H1 := by rw [← ht]; exact hB
  exact kk q9.1 q9.2 hf H1 locs1 ls hP1 hS1 hl
theorem V_cSNL {G : GG} {E : EE} {cc : ByteArray} {own : String} {ret : Option FieldType} {R : Room} {nL : Nat} (X : Cx G E cc own ret R nL) {k n pc : Nat} {lv : List (Nat × Value)} {w : WS} {host : String} {index maxL : Nat} {y : MethodName} {bytes : ByteArray} {ret9 : Option FieldType} {rm : Room} {ρ : Type} {F : Option (Int × WS)} {K : Int → WS → Option ρ} {r0 : ρ} (hf : ob F K = some r0) (As rest : List Value) (nA : Nat) (hM : ∀ q, F = some q → ML G y bytes maxL ret9 rm As w q) (hcode : Cond.code y bytes maxL ret9 ∈ TT) (hini : Cond.initialized y.cls ∈ TT) (hli : Cond.methodLinkNest own index y host ∈ NT) (hst : Cond.static y ∈ TT) (hd : decode cc pc = .ok (.invokestatic index, 3)) (hy : y.cls ≠ "java/lang/invoke/MethodHandle" ∧ y.cls ≠ "java/lang/invoke/VarHandle" ∧ (parseMethodDescriptor y.desc).map (fun d => d.parameters.length) = some nA) (hrc : rm.cells = 0 ∧ rm.slots = 0) (hR : rm.frames + 1 ≤ R.frames ∧ 8 + (maxL + 11) + rm.locals ≤ R.locals) (hn : As.length = nA) (hcat : (rest.map fun v => v.category).sum ≤ 8) (hroom : k ≤ R.cells ∧ n ≤ R.slots) (kk : ∀ (r : Int) (w1 : WS), K r w1 = some r0 → VV G E k n (pc + 3) lv (vl r :: rest) w1) : VV G E k n pc lv (As.reverse ++ rest) w := by
  obtain ⟨p, e, R', s, m, args, below, meth, c, Q, nL'⟩ := E
  obtain ⟨hx, hb, hml, hown, hts, hr, hlk, hK, hI, hN, rfl, rfl⟩ := X
  intro H locs ls hP hS hl
  obtain ⟨q9, hq, hf⟩ := obnd hf
  refine va_calll (va_runSN (As := As) (rest := rest) ⟨hx, hb, hml, hown, hts⟩ (hM q9 hq H.size) ⟨va_cnB nA hts (good_ws hcode) rfl hrc.1 hrc.2 (hN _ hli) (hts _ hini) hy hR, hts _ hst, trivial⟩ ⟨PW_blind, fun U hU hW => ⟨rfl, PW_call hP hK hI hN hU hW⟩⟩ rfl hn hl.1 rfl (lv_room hcat) hd ⟨hroom.1, hroom.2⟩) hS (fun q _ h => FAd_mono hS.1 q h) (fun q h => FAd_mono hS.1 q h) (fun r9 u9 t9 H1 locs1 ht hvm hw9 hB hz1 hk1 hS1 => ?_)
  obtain rfl := hw9
  have hP1 : va_P G.2.1 vwCl (WL G.2.2.1 G.2.2.2 q9.2) H1 := by rw [← ht]; exact hB
  exact kk q9.1 q9.2 hf H1 locs1 ls hP1 hS1 hl
theorem V_cVV {G : GG} {E : EE} {cc : ByteArray} {own : String} {ret : Option FieldType} {R : Room} {nL : Nat} (X : Cx G E cc own ret R nL) {k n pc : Nat} {lv : List (Nat × Value)} {w : WS} {i c : Nat} {C : String} {T : u_T} {N : Nat} {index maxL : Nat} {y : MethodName} {bytes : ByteArray} {ret9 : Option FieldType} {rm : Room} {ρ : Type} {F : Option (Int × WS)} {K : Int → WS → Option ρ} {r0 : ρ} (hf : ob F K = some r0) (As rest : List Value) (nA : Nat) (hM : ∀ q, F = some q → MV G y bytes maxL ret9 rm (gr G i :: As) w q) (hi : i < NC ∧ ck i = .inl c) (hcl : vwCl[c]? = some (C, T, N)) (hcode : Cond.code y bytes maxL ret9 ∈ TT) (hini : Cond.initialized y.cls ∈ TT) (hli : Cond.methodLink own index y ∈ TT) (hinst : Cond.instanceMethod y ∈ TT) (hsel : Cond.selects C y y ∈ TT) (hd : decode cc pc = .ok (.invokevirtual index, 3)) (hy : y.cls ≠ "java/lang/invoke/MethodHandle" ∧ y.cls ≠ "java/lang/invoke/VarHandle" ∧ (parseMethodDescriptor y.desc).map (fun d => d.parameters.length) = some nA) (hrc : rm.cells = 0 ∧ rm.slots = 0) (hR : rm.frames + 1 ≤ R.frames ∧ 8 + (maxL + 11) + rm.locals ≤ R.locals) (hn : As.length = nA) (hcat : (rest.map fun v => v.category).sum ≤ 8) (hroom : k ≤ R.cells ∧ n ≤ R.slots) (kk : ∀ (r : Int) (w1 : WS), K r w1 = some r0 → VV G E k n (pc + 3) lv (rest) w1) : VV G E k n pc lv (As.reverse ++ gr G i :: rest) w := by
  obtain ⟨p, e, R', s, m, args, below, meth, c, Q, nL'⟩ := E
  obtain ⟨hx, hb, hml, hown, hts, hr, hlk, hK, hI, hN, rfl, rfl⟩ := X
  intro H locs ls hP hS hl
  obtain ⟨q9, hq, hf⟩ := obnd hf
  refine va_callv (va_runV (As := As) (rest := rest) ⟨hx, hb, hml, hown, hts⟩ (hM q9 hq H.size) ⟨callB_of nA hts (good_ws hcode) rfl hrc.1 hrc.2 (hts _ hini) (hts _ hli) hy hR, hts _ hinst, hts _ hsel⟩ ⟨PW_blind, va_recv hK hP hcl (WL_obj hi.1 hi.2), fun U hU hW => ⟨rfl, PW_call hP hK hI hN hU hW⟩⟩ rfl hn hl.1 rfl (lv_room hcat) hd ⟨hroom.1, hroom.2⟩) hS (fun q _ h => FAd_mono hS.1 q h) (fun q h => FAd_mono hS.1 q h) (fun u9 t9 H1 locs1 ht hvm hw9 hB hz1 hk1 hS1 => ?_)
  skip
  have hP1 : va_P G.2.1 vwCl (WL G.2.2.1 G.2.2.2 q9.2) H1 := by rw [← ht]; exact hB
  exact kk q9.1 q9.2 hf H1 locs1 ls hP1 hS1 hl
theorem V_cSV {G : GG} {E : EE} {cc : ByteArray} {own : String} {ret : Option FieldType} {R : Room} {nL : Nat} (X : Cx G E cc own ret R nL) {k n pc : Nat} {lv : List (Nat × Value)} {w : WS} {index maxL : Nat} {y : MethodName} {bytes : ByteArray} {ret9 : Option FieldType} {rm : Room} {ρ : Type} {F : Option (Int × WS)} {K : Int → WS → Option ρ} {r0 : ρ} (hf : ob F K = some r0) (As rest : List Value) (nA : Nat) (hM : ∀ q, F = some q → MV G y bytes maxL ret9 rm As w q) (hcode : Cond.code y bytes maxL ret9 ∈ TT) (hini : Cond.initialized y.cls ∈ TT) (hli : Cond.methodLink own index y ∈ TT) (hst : Cond.static y ∈ TT) (hd : decode cc pc = .ok (.invokestatic index, 3)) (hy : y.cls ≠ "java/lang/invoke/MethodHandle" ∧ y.cls ≠ "java/lang/invoke/VarHandle" ∧ (parseMethodDescriptor y.desc).map (fun d => d.parameters.length) = some nA) (hrc : rm.cells = 0 ∧ rm.slots = 0) (hR : rm.frames + 1 ≤ R.frames ∧ 8 + (maxL + 11) + rm.locals ≤ R.locals) (hn : As.length = nA) (hcat : (rest.map fun v => v.category).sum ≤ 8) (hroom : k ≤ R.cells ∧ n ≤ R.slots) (kk : ∀ (r : Int) (w1 : WS), K r w1 = some r0 → VV G E k n (pc + 3) lv (rest) w1) : VV G E k n pc lv (As.reverse ++ rest) w := by
  obtain ⟨p, e, R', s, m, args, below, meth, c, Q, nL'⟩ := E
  obtain ⟨hx, hb, hml, hown, hts, hr, hlk, hK, hI, hN, rfl, rfl⟩ := X
  intro H locs ls hP hS hl
  obtain ⟨q9, hq, hf⟩ := obnd hf
  refine va_callv (va_runS (As := As) (rest := rest) ⟨hx, hb, hml, hown, hts⟩ (hM q9 hq H.size) ⟨callB_of nA hts (good_ws hcode) rfl hrc.1 hrc.2 (hts _ hini) (hts _ hli) hy hR, hts _ hst⟩ ⟨PW_blind, fun U hU hW => ⟨rfl, PW_call hP hK hI hN hU hW⟩⟩ rfl hn hl.1 rfl (lv_room hcat) hd ⟨hroom.1, hroom.2⟩) hS (fun q _ h => FAd_mono hS.1 q h) (fun q h => FAd_mono hS.1 q h) (fun u9 t9 H1 locs1 ht hvm hw9 hB hz1 hk1 hS1 => ?_)
  skip
  have hP1 : va_P G.2.1 vwCl (WL G.2.2.1 G.2.2.2 q9.2) H1 := by rw [← ht]; exact hB
  exact kk q9.1 q9.2 hf H1 locs1 ls hP1 hS1 hl
theorem V_cSNV {G : GG} {E : EE} {cc : ByteArray} {own : String} {ret : Option FieldType} {R : Room} {nL : Nat} (X : Cx G E cc own ret R nL) {k n pc : Nat} {lv : List (Nat × Value)} {w : WS} {host : String} {index maxL : Nat} {y : MethodName} {bytes : ByteArray} {ret9 : Option FieldType} {rm : Room} {ρ : Type} {F : Option (Int × WS)} {K : Int → WS → Option ρ} {r0 : ρ} (hf : ob F K = some r0) (As rest : List Value) (nA : Nat) (hM : ∀ q, F = some q → MV G y bytes maxL ret9 rm As w q) (hcode : Cond.code y bytes maxL ret9 ∈ TT) (hini : Cond.initialized y.cls ∈ TT) (hli : Cond.methodLinkNest own index y host ∈ NT) (hst : Cond.static y ∈ TT) (hd : decode cc pc = .ok (.invokestatic index, 3)) (hy : y.cls ≠ "java/lang/invoke/MethodHandle" ∧ y.cls ≠ "java/lang/invoke/VarHandle" ∧ (parseMethodDescriptor y.desc).map (fun d => d.parameters.length) = some nA) (hrc : rm.cells = 0 ∧ rm.slots = 0) (hR : rm.frames + 1 ≤ R.frames ∧ 8 + (maxL + 11) + rm.locals ≤ R.locals) (hn : As.length = nA) (hcat : (rest.map fun v => v.category).sum ≤ 8) (hroom : k ≤ R.cells ∧ n ≤ R.slots) (kk : ∀ (r : Int) (w1 : WS), K r w1 = some r0 → VV G E k n (pc + 3) lv (rest) w1) : VV G E k n pc lv (As.reverse ++ rest) w := by
  obtain ⟨p, e, R', s, m, args, below, meth, c, Q, nL'⟩ := E
  obtain ⟨hx, hb, hml, hown, hts, hr, hlk, hK, hI, hN, rfl, rfl⟩ := X
  intro H locs ls hP hS hl
  obtain ⟨q9, hq, hf⟩ := obnd hf
  refine va_callv (va_runSN (As := As) (rest := rest) ⟨hx, hb, hml, hown, hts⟩ (hM q9 hq H.size) ⟨va_cnB nA hts (good_ws hcode) rfl hrc.1 hrc.2 (hN _ hli) (hts _ hini) hy hR, hts _ hst, trivial⟩ ⟨PW_blind, fun U hU hW => ⟨rfl, PW_call hP hK hI hN hU hW⟩⟩ rfl hn hl.1 rfl (lv_room hcat) hd ⟨hroom.1, hroom.2⟩) hS (fun q _ h => FAd_mono hS.1 q h) (fun q h => FAd_mono hS.1 q h) (fun u9 t9 H1 locs1 ht hvm hw9 hB hz1 hk1 hS1 => ?_)
  skip
  have hP1 : va_P G.2.1 vwCl (WL G.2.2.1 G.2.2.2 q9.2) H1 := by rw [← ht]; exact hB
  exact kk q9.1 q9.2 hf H1 locs1 ls hP1 hS1 hl
