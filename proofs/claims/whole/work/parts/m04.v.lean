/-! THE WALK OVER A WORLD: the heap is hidden behind a function of cells and slots *)-/
abbrev GG : Type := Launch × va_G × (Nat → ClassId) × (Nat → Nat)
abbrev EE : Type := Program × Env × Room × State × MethodId × Array Value × List Frame × Method × Code × (State → Prop) × Nat
def gr (G : GG) (i : Nat) : Value := .ref (G.2.2.2 i)
def vi (a : Int) : Value := .int (Int32.ofInt a)
def vl (a : Int) : Value := .long (Int64.ofInt a)
def fvl (ad : Nat → Nat) (w : WS) (i k : Nat) : Value := match rf i k with
  | some (.inl j) => .ref (ad j)
  | some (.inr c) => vi c
  | none => vi (w i k)
def nfl (c : Nat) : Nat := match vwCl[c]? with
  | some q => q.2.2
  | none => 0
/-- an array's contents: of ints and what is kept so, of longs (3), of doubles' bits (4) -/
def arv (t : Nat) (f : Nat → Int) : (Nat → Int32) ⊕ (Nat → Int64) ⊕ (Nat → UInt32) ⊕ (Nat → UInt64) ⊕ (Nat → Option Nat) := match t with
  | 3 => .inr (.inl (fun k => Int64.ofInt (f k)))
  | 4 => .inr (.inr (.inr (.inl (fun k => UInt64.ofNat (f k).toNat))))
  | _ => .inl (fun k => Int32.ofInt (f k))
theorem arv_i {t : Nat} {f : Nat → Int} (h : t < 3) : arv t f = .inl (fun k => Int32.ofInt (f k)) := match t, h with
  | 0, _ => rfl
  | 1, _ => rfl
  | 2, _ => rfl
def ce (cA : Nat → ClassId) (ad : Nat → Nat) (w : WS) (i : Nat) : va_E := match ck i with
  | .inl c => .inr (c, (List.range (nfl c)).map (fvl ad w i))
  | .inr q => .inl (cA q.1, q.2, arv q.1 (w i))
def WL (cA : Nat → ClassId) (ad : Nat → Nat) (w : WS) : va_W := (List.range NC).map fun i => (ad i, ce cA ad w i)
def tyL (cA : Nat → ClassId) : List (ClassId × FieldType) := [(cA 0, .int), (cA 1, .char), (cA 2, .boolean), (cA 3, .long), (cA 4, .double)]
def InjA (ad : Nat → Nat) : Prop := ∀ i j, i < NC → j < NC → ad i = ad j → i = j
def FAd (ad : Nat → Nat) (sz : Nat) : Nat → Prop := fun q => (∃ i, i < NC ∧ q = ad i) ∨ sz ≤ q
def NW (U : State) : Prop := ∀ w ∈ NT, va_Nw w U
def PW (G : GG) (sz : Nat) (w : WS) (U : State) : Prop := U.heap.size = sz ∧ va_P G.2.1 vwCl (WL G.2.2.1 G.2.2.2 w) U.heap ∧ va_K G.2.1 vwCl (tyL G.2.2.1) U ∧ InjA G.2.2.2 ∧ NW U
def BW (G : GG) (w : WS) (t : State) : Prop := va_P G.2.1 vwCl (WL G.2.2.1 G.2.2.2 w) t.heap
def VV (G : GG) (E : EE) (k n pc : Nat) (lv : List (Nat × Value)) (st : List Value) (w : WS) : Prop := match E with
  | (p, e, R, s, m, args, below, meth, c, Q, nL) => ∀ (H : Heap) (locs : List Loc) (ls : Array Slot), va_P G.2.1 vwCl (WL G.2.2.1 G.2.2.2 w) H → va_S (FAd G.2.2.2 s.heap.size) s.heap H locs → lv_has ls nL lv → W p G.1 e R s m args below meth c H locs k n Q (F0 m pc ls st)
def Cx (G : GG) (E : EE) (cc : ByteArray) (own : String) (ret : Option FieldType) (R : Room) (nL : Nat) : Prop := match E with
  | (p, e, R', s, m, args, below, meth, c, Q, nL') => p.tables.exec = Jvm.exec ∧ c.code = cc ∧ c.maxLocals = nL ∧ s.vm.findClass own = some m.cls ∧ (∀ w ∈ TT, w.before args s = true) ∧ meth.sig.returnType = ret ∧ meth.locks = false ∧ va_K G.2.1 vwCl (tyL G.2.2.1) s ∧ InjA G.2.2.2 ∧ NW s ∧ R' = R ∧ nL' = nL
theorem WL_get {cA : Nat → ClassId} {ad : Nat → Nat} {w : WS} {i : Nat} (h : i < NC) : (WL cA ad w)[i]? = some (ad i, ce cA ad w i) := by
  unfold WL
  rw [List.getElem?_map, List.getElem?_range h]
  rfl
theorem WL_at {cA : Nat → ClassId} {ad : Nat → Nat} {w : WS} {i : Nat} {q : Nat × va_E} (h : (WL cA ad w)[i]? = some q) : i < NC ∧ q = (ad i, ce cA ad w i) := by
  have hl := (List.getElem?_eq_some_iff.mp h).1
  have hi : i < NC := by simpa [WL] using hl
  rw [WL_get hi] at h
  exact ⟨hi, (Option.some.inj h).symm⟩
theorem D_of {cA : Nat → ClassId} {ad : Nat → Nat} {w : WS} {sz : Nat} (h : InjA ad) : va_D (FAd ad sz) (WL cA ad w) := by
  refine ⟨fun i j p q hi hj hpq => ?_, fun k q hk => ?_⟩
  · obtain ⟨h1, rfl⟩ := WL_at hi
    obtain ⟨h2, rfl⟩ := WL_at hj
    exact h i j h1 h2 hpq
  · obtain ⟨h1, rfl⟩ := WL_at hk
    exact Or.inl ⟨k, h1, rfl⟩
theorem WL_set {cA : Nat → ClassId} {ad : Nat → Nat} {w w' : WS} {i : Nat} {e : va_E} (hi : i < NC) (he : ce cA ad w' i = e) (ho : ∀ j, j ≠ i → ce cA ad w' j = ce cA ad w j) : (WL cA ad w).set i (ad i, e) = WL cA ad w' := by
  apply List.ext_getElem?
  intro j
  by_cases hj : j < NC
  · by_cases hji : j = i
    · subst hji
      rw [WL_get hj, he]
      exact List.getElem?_set_self (by simpa [WL] using hj)
    · rw [List.getElem?_set_ne (Ne.symm hji), WL_get hj, WL_get hj, ho j hji]
  · have h1 : ¬ j < ((WL cA ad w).set i (ad i, e)).length := by simpa [WL] using hj
    have h2 : ¬ j < (WL cA ad w').length := by simpa [WL] using hj
    rw [List.getElem?_eq_none (Nat.not_lt.mp h1), List.getElem?_eq_none (Nat.not_lt.mp h2)]
theorem ce_ne {cA : Nat → ClassId} {ad : Nat → Nat} {w : WS} {i k : Nat} {a : Int} {j : Nat} (h : j ≠ i) : ce cA ad (up w i k a) j = ce cA ad w j := by
  unfold ce
  have e : fvl ad (up w i k a) j = fvl ad w j := by
    funext x
    unfold fvl
    rw [up_cell w k x a h]
  rw [e, up_row w k a h]
theorem WL_put {cA : Nat → ClassId} {ad : Nat → Nat} {w : WS} {i c k : Nat} {a : Int} (hi : i < NC) (hc : ck i = .inl c) (hr : rf i k = none) (hk : k < nfl c) : (WL cA ad w).set i (ad i, .inr (c, ((List.range (nfl c)).map (fvl ad w i)).set k (vi a))) = WL cA ad (up w i k a) := by
  refine WL_set hi ?_ (fun j hj => ce_ne hj)
  unfold ce
  rw [hc]
  show Sum.inr (c, List.map _ _) = Sum.inr (c, _)
  congr 2
  apply List.ext_getElem?
  intro j
  by_cases hjk : j = k
  · subst hjk
    rw [List.getElem?_set_self (by simpa using hk), List.getElem?_map, List.getElem?_range hk]
    show some (fvl ad (up w i j a) i j) = _
    unfold fvl
    rw [hr]
    simp [up_same]
  · rw [List.getElem?_set_ne (Ne.symm hjk), List.getElem?_map, List.getElem?_map]
    by_cases hj : j < nfl c
    · rw [List.getElem?_range hj]
      show some (fvl ad (up w i k a) i j) = some (fvl ad w i j)
      unfold fvl
      rw [up_slot w i i a hjk]
    · rw [List.getElem?_eq_none (by simpa using hj)]
      rfl
theorem WL_ast {cA : Nat → ClassId} {ad : Nat → Nat} {w : WS} {i t n k : Nat} {a : Int} {f : Nat → Int32} (hi : i < NC) (hc : ck i = .inr (t, n)) (ht : t < 3) (hf : f = upd (fun j => Int32.ofInt (w i j)) k (Int32.ofInt a)) : (WL cA ad w).set i (ad i, .inl (cA t, n, .inl f)) = WL cA ad (up w i k a) := by
  refine WL_set hi ?_ (fun j hj => ce_ne hj)
  unfold ce
  rw [hc, hf]
  show Sum.inl (cA t, n, arv t _) = Sum.inl (cA t, n, Sum.inl _)
  rw [arv_i ht]
  congr 4
  funext j
  unfold upd up
  by_cases hj : j = k
  · simp [hj]
  · simp [hj]
theorem ofInt_wr (a : Int) : Int32.ofInt (wr a) = Int32.ofInt a := by
  apply Int32.toInt_inj.mp
  rw [Int32.toInt_ofInt, Int32.toInt_ofInt]
  exact wr_wr a
theorem wr_toInt (a : Int) : (Int32.ofInt a).toInt = wr a := by rw [Int32.toInt_ofInt]; rfl
theorem lt_of32 (a b : Int) : Int32.ofInt a < Int32.ofInt b ↔ wr a < wr b := by rw [Int32.lt_iff_toInt_lt, wr_toInt, wr_toInt]
theorem le_of32 (a b : Int) : Int32.ofInt a ≤ Int32.ofInt b ↔ wr a ≤ wr b := by rw [Int32.le_iff_toInt_le, wr_toInt, wr_toInt]
theorem eq_of32 (a b : Int) : Int32.ofInt a = Int32.ofInt b ↔ wr a = wr b := by rw [← Int32.toInt_inj, wr_toInt, wr_toInt]
theorem wl_toInt (a : Int) : (Int64.ofInt a).toInt = wl a := by rw [Int64.toInt_ofInt]; rfl
theorem lt_of64 (a b : Int) : Int64.ofInt a < Int64.ofInt b ↔ wl a < wl b := by rw [Int64.lt_iff_toInt_lt, wl_toInt, wl_toInt]
theorem eq_of64 (a b : Int) : Int64.ofInt a = Int64.ofInt b ↔ wl a = wl b := by rw [← Int64.toInt_inj, wl_toInt, wl_toInt]
theorem in_of {a : Int} {n : Nat} (h : 0 ≤ wr a ∧ wr a < n) : vp_in (Int32.ofInt a) n := by rw [vp_in_iff, wr_toInt]; exact h
theorem cl_of (a : Int) : (Int32.ofInt a).toNatClampNeg = (wr a).toNat := by rw [← wr_toInt]; rfl
/-- locals: what is listed -/
def lget (lv : List (Nat × Value)) (i : Nat) : Option Value := match lv with
  | [] => none
  | q :: l => bif q.1 == i then some q.2 else lget l i
def lset (lv : List (Nat × Value)) (i : Nat) (v : Value) : List (Nat × Value) := (i, v) :: lv.filter (fun q => !(q.1 == i) && !(q.1 + 1 == i && q.2.category == 2))
def lsetL (lv : List (Nat × Value)) (i : Nat) (v : Value) : List (Nat × Value) := (i, v) :: lv.filter (fun q => !(q.1 == i) && (!(q.1 == i + 1) && !(q.1 + 1 == i && q.2.category == 2)))
def lpick (lv : List (Nat × Value)) (ks : List Nat) : List (Nat × Value) := match ks with
  | [] => []
  | i :: l => match lget lv i with
    | some v => (i, v) :: lpick lv l
    | none => lpick lv l
theorem lget_mem {lv : List (Nat × Value)} {i : Nat} {v : Value} (h : lget lv i = some v) : (i, v) ∈ lv := by
  induction lv with
  | nil => cases h
  | cons q l ih =>
    unfold lget at h
    cases hq : q.1 == i with
    | true =>
      rw [hq] at h
      cases h
      have e : q.1 = i := by simpa using hq
      subst e
      exact List.mem_cons_self
    | false =>
      rw [hq] at h
      exact List.mem_cons_of_mem _ (ih h)
theorem lat {ls : Array Slot} {nL : Nat} {lv : List (Nat × Value)} {i : Nat} {v : Value} (h : lv_has ls nL lv) (hk : lget lv i = some v) : ls[i]? = some (.val v) := h.2.2 (i, v) (lget_mem hk)
theorem lpick_has {ls : Array Slot} {nL : Nat} {lv : List (Nat × Value)} (h : lv_has ls nL lv) (ks : List Nat) : lv_has ls nL (lpick lv ks) := by
  refine ⟨h.1, h.2.1, ?_⟩
  induction ks with
  | nil => intro q hq; cases hq
  | cons i l ih =>
    intro q hq
    unfold lpick at hq
    cases hg : lget lv i with
    | none => rw [hg] at hq; exact ih q hq
    | some v =>
      rw [hg] at hq
      rcases List.mem_cons.mp hq with rfl | hq
      · exact lat h hg
      · exact ih q hq
theorem ite_t {c : Prop} [Decidable c] {α : Type} {a b r : α} (h : c) (hf : (if c then a else b) = r) : a = r := by rw [if_pos h] at hf; exact hf
theorem ite_f {c : Prop} [Decidable c] {α : Type} {a b r : α} (h : ¬ c) (hf : (if c then a else b) = r) : b = r := by rw [if_neg h] at hf; exact hf
theorem ite_n {c : Prop} [Decidable c] {α : Type} {a : Option α} {r : α} (hf : (if c then a else none) = some r) : c ∧ a = some r := by
  by_cases h : c
  · rw [if_pos h] at hf; exact ⟨h, hf⟩
  · rw [if_neg h] at hf; cases hf
theorem bnd {α β : Type} {x : Option α} {f : α → Option β} {r : β} (h : x.bind f = some r) : ∃ q, x = some q ∧ f q = some r := Option.bind_eq_some_iff.mp h
theorem V_cut {G : GG} {E : EE} {k n pc : Nat} {lv lv' : List (Nat × Value)} {st : List Value} {w : WS} (ks : List Nat) (h : lpick lv ks = lv') (kk : VV G E k n pc lv' st w) : VV G E k n pc lv st w := by
  obtain ⟨p, e, R, s, m, args, below, meth, c, Q, nL⟩ := E
  intro H locs ls hP hS hl
  exact kk H locs ls hP hS (h ▸ lpick_has hl ks)

theorem wr0 : wr 0 = 0 := wr_eq (by decide)
theorem of0 : Int32.ofInt 0 = 0 := rfl
theorem lt_of32z (a : Int) : Int32.ofInt a < 0 ↔ wr a < 0 := by have h := lt_of32 a 0; rwa [wr0, of0] at h
theorem gt_of32z (a : Int) : 0 < Int32.ofInt a ↔ 0 < wr a := by have h := lt_of32 0 a; rwa [wr0, of0] at h
theorem le_of32z (a : Int) : Int32.ofInt a ≤ 0 ↔ wr a ≤ 0 := by have h := le_of32 a 0; rwa [wr0, of0] at h
theorem ge_of32z (a : Int) : 0 ≤ Int32.ofInt a ↔ 0 ≤ wr a := by have h := le_of32 0 a; rwa [wr0, of0] at h
theorem eq_of32z (a : Int) : Int32.ofInt a = 0 ↔ wr a = 0 := by have h := eq_of32 a 0; rwa [wr0, of0] at h
theorem bvn (a : Int) : (Int32.ofInt a).toBitVec.toNat = (a % 4294967296).toNat := by
  show (BitVec.ofInt 32 a).toNat = _
  rw [BitVec.toNat_ofInt]
  rfl
theorem nI_ofInt (n : Nat) : nI n = Int32.ofInt (n : Int) := by
  unfold nI
  exact (Int32.ofInt_eq_ofNat).symm
theorem c_LT (a b : Int) (h : Int32.ofInt a < Int32.ofInt b) : wr a < wr b := (lt_of32 a b).mp h
theorem c_TL (a b : Int) (h : wr a < wr b) : Int32.ofInt a < Int32.ofInt b := (lt_of32 a b).mpr h
theorem c_GT (a b : Int) (h : Int32.ofInt b < Int32.ofInt a) : wr b < wr a := (lt_of32 b a).mp h
theorem c_TG (a b : Int) (h : wr b < wr a) : Int32.ofInt b < Int32.ofInt a := (lt_of32 b a).mpr h
theorem c_EQ (a b : Int) (h : Int32.ofInt a = Int32.ofInt b) : wr a = wr b := (eq_of32 a b).mp h
theorem c_QE (a b : Int) (h : wr a = wr b) : Int32.ofInt a = Int32.ofInt b := (eq_of32 a b).mpr h
theorem c_GE (a b : Int) (h : Int32.ofInt b ≤ Int32.ofInt a) (q : wr a < wr b) : False := absurd q (Int.not_lt.mpr ((le_of32 b a).mp h))
theorem c_NGE (a b : Int) (h : ¬ Int32.ofInt b ≤ Int32.ofInt a) : wr a < wr b := Int.not_le.mp (fun q => h ((le_of32 b a).mpr q))
theorem c_LE (a b : Int) (h : Int32.ofInt a ≤ Int32.ofInt b) (q : wr b < wr a) : False := absurd q (Int.not_lt.mpr ((le_of32 a b).mp h))
theorem c_NLE (a b : Int) (h : ¬ Int32.ofInt a ≤ Int32.ofInt b) : wr b < wr a := Int.not_le.mp (fun q => h ((le_of32 a b).mpr q))
theorem c_NNE (a b : Int) (h : Int32.ofInt a = Int32.ofInt b) : wr a = wr b := (eq_of32 a b).mp h
theorem c_LTz (a : Int) (h : Int32.ofInt a < (0 : Int32)) : wr a < 0 := (lt_of32z a).mp h
theorem c_TLz (a : Int) (h : wr a < 0) : Int32.ofInt a < (0 : Int32) := (lt_of32z a).mpr h
theorem c_GTz (a : Int) (h : (0 : Int32) < Int32.ofInt a) : 0 < wr a := (gt_of32z a).mp h
theorem c_TGz (a : Int) (h : 0 < wr a) : (0 : Int32) < Int32.ofInt a := (gt_of32z a).mpr h
theorem c_EQz (a : Int) (h : Int32.ofInt a = (0 : Int32)) : wr a = 0 := (eq_of32z a).mp h
theorem c_QEz (a : Int) (h : wr a = 0) : Int32.ofInt a = (0 : Int32) := (eq_of32z a).mpr h
theorem c_GEz (a : Int) (h : (0 : Int32) ≤ Int32.ofInt a) (q : wr a < 0) : False := absurd q (Int.not_lt.mpr ((ge_of32z a).mp h))
theorem c_NGEz (a : Int) (h : ¬ (0 : Int32) ≤ Int32.ofInt a) : wr a < 0 := Int.not_le.mp (fun q => h ((ge_of32z a).mpr q))
theorem c_LEz (a : Int) (h : Int32.ofInt a ≤ (0 : Int32)) (q : 0 < wr a) : False := absurd q (Int.not_lt.mpr ((le_of32z a).mp h))
theorem c_NLEz (a : Int) (h : ¬ Int32.ofInt a ≤ (0 : Int32)) : 0 < wr a := Int.not_le.mp (fun q => h ((le_of32z a).mpr q))
theorem c_NNEz (a : Int) (h : Int32.ofInt a = (0 : Int32)) : wr a = 0 := (eq_of32z a).mp h
theorem l2i_of (a : Int) : (Int64.ofInt a).toInt32 = Int32.ofInt a := by
  apply Int32.toInt_inj.mp
  rw [Int64.toInt_toInt32, wr_toInt, wl_toInt]
  unfold wl wr
  rw [Int.bmod_bmod_of_dvd]
  decide
theorem i2c_of (a : Int) : ((Int32.ofInt a).toUInt32 % 65536).toInt32 = Int32.ofInt (nC a) := by
  rw [pk_char, bvn, nI_ofInt]
  congr 1
  unfold nC
  omega
theorem zn_of (a : Int) : vp_nar .boolean (Int32.ofInt a) = Int32.ofInt (nZ a) := by
  show Int32.ofInt a &&& 1 = _
  rw [pk_and _ 1 (by decide), bvn, nI_ofInt]
  congr 1
  unfold nZ
  omega
theorem cn_of (a : Int) : vp_nar .char (Int32.ofInt a) = Int32.ofInt (nC a) := by
  rw [vp_nar_char, ← i2c_of]
  congr 1
theorem div32_of (a b : Int) : Int32.ofInt a / Int32.ofInt b = Int32.ofInt (Int.tdiv (wr a) (wr b)) := by
  apply Int32.toInt_inj.mp
  rw [Int32.toInt_div, wr_toInt, wr_toInt, wr_toInt]
  rfl
theorem div64_of (a b : Int) : Int64.ofInt a / Int64.ofInt b = Int64.ofInt (Int.tdiv (wl a) (wl b)) := by
  apply Int64.toInt_inj.mp
  rw [Int64.toInt_div, wl_toInt, wl_toInt, wl_toInt]
  rfl
theorem wr_of (a : Int) : Int32.ofInt a = Int32.ofInt (wr a) := (ofInt_wr a).symm
theorem ofInt_wl (a : Int) : Int64.ofInt (wl a) = Int64.ofInt a := by
  apply Int64.toInt_inj.mp
  rw [Int64.toInt_ofInt, Int64.toInt_ofInt]
  exact wl_eq (wl_rng a)
theorem rem32_of (a b : Int) : Int32.ofInt a - Int32.ofInt a / Int32.ofInt b * Int32.ofInt b = Int32.ofInt (Int.tmod (wr a) (wr b)) := by
  rw [div32_of, Int.tmod_def, Int32.ofInt_sub, Int32.ofInt_mul, ofInt_wr, ofInt_wr, Int32.mul_comm]
theorem rem64_of (a b : Int) : Int64.ofInt a - Int64.ofInt a / Int64.ofInt b * Int64.ofInt b = Int64.ofInt (Int.tmod (wl a) (wl b)) := by
  rw [div64_of, Int.tmod_def, Int64.ofInt_sub, Int64.ofInt_mul, ofInt_wl, ofInt_wl, Int64.mul_comm]

theorem V_iconst {G : GG} {E : EE} {cc : ByteArray} {own : String} {ret : Option FieldType} {R : Room} {nL : Nat} (X : Cx G E cc own ret R nL) {k n pc : Nat} {lv : List (Nat × Value)} {st : List Value} {w : WS} {a : Int} (hd : decode cc pc = .ok (.iconst a, 1)) (kk : VV G E k n (pc + 1) lv (vi a :: st) w) : VV G E k n pc lv st w := by
  obtain ⟨p, e, R', s, m, args, below, meth, c, Q, nL'⟩ := E
  obtain ⟨hx, hb, hml, hown, hts, hr, hlk, hK, hI, hN, rfl, rfl⟩ := X
  intro H locs ls hP hS hl
  exact lv_iconst hx hb hd rfl (kk H locs ls hP hS hl)
theorem V_bipush {G : GG} {E : EE} {cc : ByteArray} {own : String} {ret : Option FieldType} {R : Room} {nL : Nat} (X : Cx G E cc own ret R nL) {k n pc : Nat} {lv : List (Nat × Value)} {st : List Value} {w : WS} {a : Int} (hd : decode cc pc = .ok (.bipush a, 2)) (hv : (Int8.ofInt a).toInt32 = Int32.ofInt a) (kk : VV G E k n (pc + 2) lv (vi a :: st) w) : VV G E k n pc lv st w := by
  obtain ⟨p, e, R', s, m, args, below, meth, c, Q, nL'⟩ := E
  obtain ⟨hx, hb, hml, hown, hts, hr, hlk, hK, hI, hN, rfl, rfl⟩ := X
  intro H locs ls hP hS hl
  exact lv_bipush hx hb hd hv (kk H locs ls hP hS hl)
theorem V_sipush {G : GG} {E : EE} {cc : ByteArray} {own : String} {ret : Option FieldType} {R : Room} {nL : Nat} (X : Cx G E cc own ret R nL) {k n pc : Nat} {lv : List (Nat × Value)} {st : List Value} {w : WS} {a : Int} (hd : decode cc pc = .ok (.sipush a, 3)) (hv : (Int16.ofInt a).toInt32 = Int32.ofInt a) (kk : VV G E k n (pc + 3) lv (vi a :: st) w) : VV G E k n pc lv st w := by
  obtain ⟨p, e, R', s, m, args, below, meth, c, Q, nL'⟩ := E
  obtain ⟨hx, hb, hml, hown, hts, hr, hlk, hK, hI, hN, rfl, rfl⟩ := X
  intro H locs ls hP hS hl
  exact lv_sipush hx hb hd hv (kk H locs ls hP hS hl)
theorem V_lconst {G : GG} {E : EE} {cc : ByteArray} {own : String} {ret : Option FieldType} {R : Room} {nL : Nat} (X : Cx G E cc own ret R nL) {k n pc : Nat} {lv : List (Nat × Value)} {st : List Value} {w : WS} {f : Fin 2} {a : Int} (hd : decode cc pc = .ok (.lconst f, 1)) (hv : Int64.ofNat (f : Nat) = Int64.ofInt a) (kk : VV G E k n (pc + 1) lv (vl a :: st) w) : VV G E k n pc lv st w := by
  obtain ⟨p, e, R', s, m, args, below, meth, c, Q, nL'⟩ := E
  obtain ⟨hx, hb, hml, hown, hts, hr, hlk, hK, hI, hN, rfl, rfl⟩ := X
  intro H locs ls hP hS hl
  exact lv_lconst hx hb hd hv (kk H locs ls hP hS hl)
theorem V_ldc2 {G : GG} {E : EE} {cc : ByteArray} {own : String} {ret : Option FieldType} {R : Room} {nL : Nat} (X : Cx G E cc own ret R nL) {k n pc : Nat} {lv : List (Nat × Value)} {st : List Value} {w : WS} {index : Nat} {x : Int64} {a : Int} (hw : Cond.constantLong own index x ∈ TT) (hd : decode cc pc = .ok (.ldc2_w index, 3)) (hv : x = Int64.ofInt a) (kk : VV G E k n (pc + 3) lv (vl a :: st) w) : VV G E k n pc lv st w := by
  obtain ⟨p, e, R', s, m, args, below, meth, c, Q, nL'⟩ := E
  obtain ⟨hx, hb, hml, hown, hts, hr, hlk, hK, hI, hN, rfl, rfl⟩ := X
  intro H locs ls hP hS hl
  subst hv
  exact lv_ldc2 hx hb hown (hts _ hw) hd (kk H locs ls hP hS hl)
theorem V_ldc {G : GG} {E : EE} {cc : ByteArray} {own : String} {ret : Option FieldType} {R : Room} {nL : Nat} (X : Cx G E cc own ret R nL) {k n pc : Nat} {lv : List (Nat × Value)} {st : List Value} {w : WS} {index : Nat} {x : Int32} {a : Int} (hw : Cond.constant own index x ∈ TT) (hd : decode cc pc = .ok (.ldc index, 2)) (hv : x = Int32.ofInt a) (kk : VV G E k n (pc + 2) lv (vi a :: st) w) : VV G E k n pc lv st w := by
  obtain ⟨p, e, R', s, m, args, below, meth, c, Q, nL'⟩ := E
  obtain ⟨hx, hb, hml, hown, hts, hr, hlk, hK, hI, hN, rfl, rfl⟩ := X
  intro H locs ls hP hS hl
  subst hv
  exact lv_ldc hx hb hown (hts _ hw) hd (kk H locs ls hP hS hl)
theorem V_ldcw {G : GG} {E : EE} {cc : ByteArray} {own : String} {ret : Option FieldType} {R : Room} {nL : Nat} (X : Cx G E cc own ret R nL) {k n pc : Nat} {lv : List (Nat × Value)} {st : List Value} {w : WS} {index : Nat} {x : Int32} {a : Int} (hw : Cond.constant own index x ∈ TT) (hd : decode cc pc = .ok (.ldc_w index, 3)) (hv : x = Int32.ofInt a) (kk : VV G E k n (pc + 3) lv (vi a :: st) w) : VV G E k n pc lv st w := by
  obtain ⟨p, e, R', s, m, args, below, meth, c, Q, nL'⟩ := E
  obtain ⟨hx, hb, hml, hown, hts, hr, hlk, hK, hI, hN, rfl, rfl⟩ := X
  intro H locs ls hP hS hl
  subst hv
  exact lv_ldcw hx hb hown (hts _ hw) hd (kk H locs ls hP hS hl)
theorem V_iload_n {G : GG} {E : EE} {cc : ByteArray} {own : String} {ret : Option FieldType} {R : Room} {nL : Nat} (X : Cx G E cc own ret R nL) {k n pc : Nat} {lv : List (Nat × Value)} {st : List Value} {w : WS} {f : Fin 4} {i : Nat} {a : Int} (hd : decode cc pc = .ok (.iload_n f, 1)) (hi : (f : Nat) = i) (h : lget lv i = some (vi a)) (kk : VV G E k n (pc + 1) lv (vi a :: st) w) : VV G E k n pc lv st w := by
  obtain ⟨p, e, R', s, m, args, below, meth, c, Q, nL'⟩ := E
  obtain ⟨hx, hb, hml, hown, hts, hr, hlk, hK, hI, hN, rfl, rfl⟩ := X
  intro H locs ls hP hS hl
  exact lv_iload_n hx hb hd hi (lat hl h) (kk H locs ls hP hS hl)
theorem V_iload {G : GG} {E : EE} {cc : ByteArray} {own : String} {ret : Option FieldType} {R : Room} {nL : Nat} (X : Cx G E cc own ret R nL) {k n pc : Nat} {lv : List (Nat × Value)} {st : List Value} {w : WS} {i : Nat} {a : Int} (hd : decode cc pc = .ok (.iload i, 2)) (h : lget lv i = some (vi a)) (kk : VV G E k n (pc + 2) lv (vi a :: st) w) : VV G E k n pc lv st w := by
  obtain ⟨p, e, R', s, m, args, below, meth, c, Q, nL'⟩ := E
  obtain ⟨hx, hb, hml, hown, hts, hr, hlk, hK, hI, hN, rfl, rfl⟩ := X
  intro H locs ls hP hS hl
  exact lv_iload hx hb hd (lat hl h) (kk H locs ls hP hS hl)
theorem V_aload_n {G : GG} {E : EE} {cc : ByteArray} {own : String} {ret : Option FieldType} {R : Room} {nL : Nat} (X : Cx G E cc own ret R nL) {k n pc : Nat} {lv : List (Nat × Value)} {st : List Value} {w : WS} {f : Fin 4} {i : Nat} {a : Nat} (hd : decode cc pc = .ok (.aload_n f, 1)) (hi : (f : Nat) = i) (h : lget lv i = some (.ref a)) (kk : VV G E k n (pc + 1) lv (.ref a :: st) w) : VV G E k n pc lv st w := by
  obtain ⟨p, e, R', s, m, args, below, meth, c, Q, nL'⟩ := E
  obtain ⟨hx, hb, hml, hown, hts, hr, hlk, hK, hI, hN, rfl, rfl⟩ := X
  intro H locs ls hP hS hl
  exact lv_aload_n hx hb hd hi (lat hl h) (kk H locs ls hP hS hl)
theorem V_aload {G : GG} {E : EE} {cc : ByteArray} {own : String} {ret : Option FieldType} {R : Room} {nL : Nat} (X : Cx G E cc own ret R nL) {k n pc : Nat} {lv : List (Nat × Value)} {st : List Value} {w : WS} {i : Nat} {a : Nat} (hd : decode cc pc = .ok (.aload i, 2)) (h : lget lv i = some (.ref a)) (kk : VV G E k n (pc + 2) lv (.ref a :: st) w) : VV G E k n pc lv st w := by
  obtain ⟨p, e, R', s, m, args, below, meth, c, Q, nL'⟩ := E
  obtain ⟨hx, hb, hml, hown, hts, hr, hlk, hK, hI, hN, rfl, rfl⟩ := X
  intro H locs ls hP hS hl
  exact lv_aload hx hb hd (lat hl h) (kk H locs ls hP hS hl)
theorem V_lload_n {G : GG} {E : EE} {cc : ByteArray} {own : String} {ret : Option FieldType} {R : Room} {nL : Nat} (X : Cx G E cc own ret R nL) {k n pc : Nat} {lv : List (Nat × Value)} {st : List Value} {w : WS} {f : Fin 4} {i : Nat} {a : Int} (hd : decode cc pc = .ok (.lload_n f, 1)) (hi : (f : Nat) = i) (h : lget lv i = some (vl a)) (kk : VV G E k n (pc + 1) lv (vl a :: st) w) : VV G E k n pc lv st w := by
  obtain ⟨p, e, R', s, m, args, below, meth, c, Q, nL'⟩ := E
  obtain ⟨hx, hb, hml, hown, hts, hr, hlk, hK, hI, hN, rfl, rfl⟩ := X
  intro H locs ls hP hS hl
  exact lv_lload_n hx hb hd hi (lat hl h) (kk H locs ls hP hS hl)
theorem V_lload {G : GG} {E : EE} {cc : ByteArray} {own : String} {ret : Option FieldType} {R : Room} {nL : Nat} (X : Cx G E cc own ret R nL) {k n pc : Nat} {lv : List (Nat × Value)} {st : List Value} {w : WS} {i : Nat} {a : Int} (hd : decode cc pc = .ok (.lload i, 2)) (h : lget lv i = some (vl a)) (kk : VV G E k n (pc + 2) lv (vl a :: st) w) : VV G E k n pc lv st w := by
  obtain ⟨p, e, R', s, m, args, below, meth, c, Q, nL'⟩ := E
  obtain ⟨hx, hb, hml, hown, hts, hr, hlk, hK, hI, hN, rfl, rfl⟩ := X
  intro H locs ls hP hS hl
  exact lv_lload hx hb hd (lat hl h) (kk H locs ls hP hS hl)
theorem V_gload_n {G : GG} {E : EE} {cc : ByteArray} {own : String} {ret : Option FieldType} {R : Room} {nL : Nat} (X : Cx G E cc own ret R nL) {k n pc : Nat} {lv : List (Nat × Value)} {st : List Value} {w : WS} {f : Fin 4} {i j : Nat} (hd : decode cc pc = .ok (.aload_n f, 1)) (hi : (f : Nat) = i) (h : lget lv i = some (gr G j)) (kk : VV G E k n (pc + 1) lv (gr G j :: st) w) : VV G E k n pc lv st w := by
  obtain ⟨p, e, R', s, m, args, below, meth, c, Q, nL'⟩ := E
  obtain ⟨hx, hb, hml, hown, hts, hr, hlk, hK, hI, hN, rfl, rfl⟩ := X
  intro H locs ls hP hS hl
  exact lv_aload_n hx hb hd hi (lat hl h) (kk H locs ls hP hS hl)
theorem V_gload {G : GG} {E : EE} {cc : ByteArray} {own : String} {ret : Option FieldType} {R : Room} {nL : Nat} (X : Cx G E cc own ret R nL) {k n pc : Nat} {lv : List (Nat × Value)} {st : List Value} {w : WS} {i j : Nat} (hd : decode cc pc = .ok (.aload i, 2)) (h : lget lv i = some (gr G j)) (kk : VV G E k n (pc + 2) lv (gr G j :: st) w) : VV G E k n pc lv st w := by
  obtain ⟨p, e, R', s, m, args, below, meth, c, Q, nL'⟩ := E
  obtain ⟨hx, hb, hml, hown, hts, hr, hlk, hK, hI, hN, rfl, rfl⟩ := X
  intro H locs ls hP hS hl
  exact lv_aload hx hb hd (lat hl h) (kk H locs ls hP hS hl)
theorem V_istore_n {G : GG} {E : EE} {cc : ByteArray} {own : String} {ret : Option FieldType} {R : Room} {nL : Nat} (X : Cx G E cc own ret R nL) {k n pc : Nat} {lv : List (Nat × Value)} {st : List Value} {w : WS} {f : Fin 4} {i : Nat} {a : Int} (hd : decode cc pc = .ok (.istore_n f, 1)) (hi : (f : Nat) = i) (hn : i < nL) (kk : VV G E k n (pc + 1) (lset lv i (vi a)) st w) : VV G E k n pc lv (vi a :: st) w := by
  obtain ⟨p, e, R', s, m, args, below, meth, c, Q, nL'⟩ := E
  obtain ⟨hx, hb, hml, hown, hts, hr, hlk, hK, hI, hN, rfl, rfl⟩ := X
  intro H locs ls hP hS hl
  exact lv_istore_n hx hb hd hi hl hn rfl (fun ls hl => kk H locs ls hP hS hl)
theorem V_istore {G : GG} {E : EE} {cc : ByteArray} {own : String} {ret : Option FieldType} {R : Room} {nL : Nat} (X : Cx G E cc own ret R nL) {k n pc : Nat} {lv : List (Nat × Value)} {st : List Value} {w : WS} {i : Nat} {a : Int} (hd : decode cc pc = .ok (.istore i, 2)) (hn : i < nL) (kk : VV G E k n (pc + 2) (lset lv i (vi a)) st w) : VV G E k n pc lv (vi a :: st) w := by
  obtain ⟨p, e, R', s, m, args, below, meth, c, Q, nL'⟩ := E
  obtain ⟨hx, hb, hml, hown, hts, hr, hlk, hK, hI, hN, rfl, rfl⟩ := X
  intro H locs ls hP hS hl
  exact lv_istore hx hb hd hl hn rfl (fun ls hl => kk H locs ls hP hS hl)
theorem V_astore_n {G : GG} {E : EE} {cc : ByteArray} {own : String} {ret : Option FieldType} {R : Room} {nL : Nat} (X : Cx G E cc own ret R nL) {k n pc : Nat} {lv : List (Nat × Value)} {st : List Value} {w : WS} {f : Fin 4} {i : Nat} {a : Nat} (hd : decode cc pc = .ok (.astore_n f, 1)) (hi : (f : Nat) = i) (hn : i < nL) (kk : VV G E k n (pc + 1) (lset lv i (.ref a)) st w) : VV G E k n pc lv (.ref a :: st) w := by
  obtain ⟨p, e, R', s, m, args, below, meth, c, Q, nL'⟩ := E
  obtain ⟨hx, hb, hml, hown, hts, hr, hlk, hK, hI, hN, rfl, rfl⟩ := X
  intro H locs ls hP hS hl
  exact lv_astore_n hx hb hd hi hl hn rfl (fun ls hl => kk H locs ls hP hS hl)
theorem V_astore {G : GG} {E : EE} {cc : ByteArray} {own : String} {ret : Option FieldType} {R : Room} {nL : Nat} (X : Cx G E cc own ret R nL) {k n pc : Nat} {lv : List (Nat × Value)} {st : List Value} {w : WS} {i : Nat} {a : Nat} (hd : decode cc pc = .ok (.astore i, 2)) (hn : i < nL) (kk : VV G E k n (pc + 2) (lset lv i (.ref a)) st w) : VV G E k n pc lv (.ref a :: st) w := by
  obtain ⟨p, e, R', s, m, args, below, meth, c, Q, nL'⟩ := E
  obtain ⟨hx, hb, hml, hown, hts, hr, hlk, hK, hI, hN, rfl, rfl⟩ := X
  intro H locs ls hP hS hl
  exact lv_astore hx hb hd hl hn rfl (fun ls hl => kk H locs ls hP hS hl)
theorem V_gstore_n {G : GG} {E : EE} {cc : ByteArray} {own : String} {ret : Option FieldType} {R : Room} {nL : Nat} (X : Cx G E cc own ret R nL) {k n pc : Nat} {lv : List (Nat × Value)} {st : List Value} {w : WS} {f : Fin 4} {i j : Nat} (hd : decode cc pc = .ok (.astore_n f, 1)) (hi : (f : Nat) = i) (hn : i < nL) (kk : VV G E k n (pc + 1) (lset lv i (gr G j)) st w) : VV G E k n pc lv (gr G j :: st) w := by
  obtain ⟨p, e, R', s, m, args, below, meth, c, Q, nL'⟩ := E
  obtain ⟨hx, hb, hml, hown, hts, hr, hlk, hK, hI, hN, rfl, rfl⟩ := X
  intro H locs ls hP hS hl
  exact lv_astore_n hx hb hd hi hl hn rfl (fun ls hl => kk H locs ls hP hS hl)
theorem V_gstore {G : GG} {E : EE} {cc : ByteArray} {own : String} {ret : Option FieldType} {R : Room} {nL : Nat} (X : Cx G E cc own ret R nL) {k n pc : Nat} {lv : List (Nat × Value)} {st : List Value} {w : WS} {i j : Nat} (hd : decode cc pc = .ok (.astore i, 2)) (hn : i < nL) (kk : VV G E k n (pc + 2) (lset lv i (gr G j)) st w) : VV G E k n pc lv (gr G j :: st) w := by
  obtain ⟨p, e, R', s, m, args, below, meth, c, Q, nL'⟩ := E
  obtain ⟨hx, hb, hml, hown, hts, hr, hlk, hK, hI, hN, rfl, rfl⟩ := X
  intro H locs ls hP hS hl
  exact lv_astore hx hb hd hl hn rfl (fun ls hl => kk H locs ls hP hS hl)
theorem V_lstore_n {G : GG} {E : EE} {cc : ByteArray} {own : String} {ret : Option FieldType} {R : Room} {nL : Nat} (X : Cx G E cc own ret R nL) {k n pc : Nat} {lv : List (Nat × Value)} {st : List Value} {w : WS} {f : Fin 4} {i : Nat} {a : Int} (hd : decode cc pc = .ok (.lstore_n f, 1)) (hi : (f : Nat) = i) (hn : i + 1 < nL) (kk : VV G E k n (pc + 1) (lsetL lv i (vl a)) st w) : VV G E k n pc lv (vl a :: st) w := by
  obtain ⟨p, e, R', s, m, args, below, meth, c, Q, nL'⟩ := E
  obtain ⟨hx, hb, hml, hown, hts, hr, hlk, hK, hI, hN, rfl, rfl⟩ := X
  intro H locs ls hP hS hl
  exact lv_lstore_n hx hb hd hi hl hn rfl (fun ls hl => kk H locs ls hP hS hl)
theorem V_lstore {G : GG} {E : EE} {cc : ByteArray} {own : String} {ret : Option FieldType} {R : Room} {nL : Nat} (X : Cx G E cc own ret R nL) {k n pc : Nat} {lv : List (Nat × Value)} {st : List Value} {w : WS} {i : Nat} {a : Int} (hd : decode cc pc = .ok (.lstore i, 2)) (hn : i + 1 < nL) (kk : VV G E k n (pc + 2) (lsetL lv i (vl a)) st w) : VV G E k n pc lv (vl a :: st) w := by
  obtain ⟨p, e, R', s, m, args, below, meth, c, Q, nL'⟩ := E
  obtain ⟨hx, hb, hml, hown, hts, hr, hlk, hK, hI, hN, rfl, rfl⟩ := X
  intro H locs ls hP hS hl
  exact lv_lstore hx hb hd hl hn rfl (fun ls hl => kk H locs ls hP hS hl)
theorem lget_at {lv : List (Nat × Value)} {i : Nat} {v : Value} (h : lget lv i = some v) : ∃ j : Nat, lv[j]? = some (i, v) := List.getElem?_of_mem (lget_mem h)
theorem V_iinc {G : GG} {E : EE} {cc : ByteArray} {own : String} {ret : Option FieldType} {R : Room} {nL : Nat} (X : Cx G E cc own ret R nL) {k n pc : Nat} {lv : List (Nat × Value)} {st : List Value} {w : WS} {i : Nat} {a d : Int} (hd : decode cc pc = .ok (.iinc i d, 3)) (h : lget lv i = some (vi a)) (hn : i < nL) (kk : VV G E k n (pc + 3) (lset lv i (vi (a + d))) st w) : VV G E k n pc lv st w := by
  obtain ⟨p, e, R', s, m, args, below, meth, c, Q, nL'⟩ := E
  obtain ⟨hx, hb, hml, hown, hts, hr, hlk, hK, hI, hN, rfl, rfl⟩ := X
  intro H locs ls hP hS hl
  obtain ⟨j, hj⟩ := lget_at h
  exact lv_iinc hx hb hd hl hj (Int32.ofInt_add a d).symm hn rfl (fun ls hl => kk H locs ls hP hS hl)
theorem V_iadd {G : GG} {E : EE} {cc : ByteArray} {own : String} {ret : Option FieldType} {R : Room} {nL : Nat} (X : Cx G E cc own ret R nL) {k n pc : Nat} {lv : List (Nat × Value)} {st : List Value} {w : WS} {a b : Int} (hd : decode cc pc = .ok (.iadd, 1)) (kk : VV G E k n (pc + 1) lv (vi (a + b) :: st) w) : VV G E k n pc lv (vi b :: vi a :: st) w := by
  obtain ⟨p, e, R', s, m, args, below, meth, c, Q, nL'⟩ := E
  obtain ⟨hx, hb, hml, hown, hts, hr, hlk, hK, hI, hN, rfl, rfl⟩ := X
  intro H locs ls hP hS hl
  refine lv_iadd hx hb hd ?_
  rw [← Int32.ofInt_add]
  exact kk H locs ls hP hS hl
theorem V_isub {G : GG} {E : EE} {cc : ByteArray} {own : String} {ret : Option FieldType} {R : Room} {nL : Nat} (X : Cx G E cc own ret R nL) {k n pc : Nat} {lv : List (Nat × Value)} {st : List Value} {w : WS} {a b : Int} (hd : decode cc pc = .ok (.isub, 1)) (kk : VV G E k n (pc + 1) lv (vi (a - b) :: st) w) : VV G E k n pc lv (vi b :: vi a :: st) w := by
  obtain ⟨p, e, R', s, m, args, below, meth, c, Q, nL'⟩ := E
  obtain ⟨hx, hb, hml, hown, hts, hr, hlk, hK, hI, hN, rfl, rfl⟩ := X
  intro H locs ls hP hS hl
  refine lv_isub hx hb hd ?_
  rw [← Int32.ofInt_sub]
  exact kk H locs ls hP hS hl
theorem V_imul {G : GG} {E : EE} {cc : ByteArray} {own : String} {ret : Option FieldType} {R : Room} {nL : Nat} (X : Cx G E cc own ret R nL) {k n pc : Nat} {lv : List (Nat × Value)} {st : List Value} {w : WS} {a b : Int} (hd : decode cc pc = .ok (.imul, 1)) (kk : VV G E k n (pc + 1) lv (vi (a * b) :: st) w) : VV G E k n pc lv (vi b :: vi a :: st) w := by
  obtain ⟨p, e, R', s, m, args, below, meth, c, Q, nL'⟩ := E
  obtain ⟨hx, hb, hml, hown, hts, hr, hlk, hK, hI, hN, rfl, rfl⟩ := X
  intro H locs ls hP hS hl
  refine lv_imul hx hb hd ?_
  rw [← Int32.ofInt_mul]
  exact kk H locs ls hP hS hl
theorem V_ladd {G : GG} {E : EE} {cc : ByteArray} {own : String} {ret : Option FieldType} {R : Room} {nL : Nat} (X : Cx G E cc own ret R nL) {k n pc : Nat} {lv : List (Nat × Value)} {st : List Value} {w : WS} {a b : Int} (hd : decode cc pc = .ok (.ladd, 1)) (kk : VV G E k n (pc + 1) lv (vl (a + b) :: st) w) : VV G E k n pc lv (vl b :: vl a :: st) w := by
  obtain ⟨p, e, R', s, m, args, below, meth, c, Q, nL'⟩ := E
  obtain ⟨hx, hb, hml, hown, hts, hr, hlk, hK, hI, hN, rfl, rfl⟩ := X
  intro H locs ls hP hS hl
  refine lv_ladd hx hb hd ?_
  rw [← Int64.ofInt_add]
  exact kk H locs ls hP hS hl
theorem V_lsub {G : GG} {E : EE} {cc : ByteArray} {own : String} {ret : Option FieldType} {R : Room} {nL : Nat} (X : Cx G E cc own ret R nL) {k n pc : Nat} {lv : List (Nat × Value)} {st : List Value} {w : WS} {a b : Int} (hd : decode cc pc = .ok (.lsub, 1)) (kk : VV G E k n (pc + 1) lv (vl (a - b) :: st) w) : VV G E k n pc lv (vl b :: vl a :: st) w := by
  obtain ⟨p, e, R', s, m, args, below, meth, c, Q, nL'⟩ := E
  obtain ⟨hx, hb, hml, hown, hts, hr, hlk, hK, hI, hN, rfl, rfl⟩ := X
  intro H locs ls hP hS hl
  refine lv_lsub hx hb hd ?_
  rw [← Int64.ofInt_sub]
  exact kk H locs ls hP hS hl
theorem V_lmul {G : GG} {E : EE} {cc : ByteArray} {own : String} {ret : Option FieldType} {R : Room} {nL : Nat} (X : Cx G E cc own ret R nL) {k n pc : Nat} {lv : List (Nat × Value)} {st : List Value} {w : WS} {a b : Int} (hd : decode cc pc = .ok (.lmul, 1)) (kk : VV G E k n (pc + 1) lv (vl (a * b) :: st) w) : VV G E k n pc lv (vl b :: vl a :: st) w := by
  obtain ⟨p, e, R', s, m, args, below, meth, c, Q, nL'⟩ := E
  obtain ⟨hx, hb, hml, hown, hts, hr, hlk, hK, hI, hN, rfl, rfl⟩ := X
  intro H locs ls hP hS hl
  refine lv_lmul hx hb hd ?_
  rw [← Int64.ofInt_mul]
  exact kk H locs ls hP hS hl
theorem V_lneg {G : GG} {E : EE} {cc : ByteArray} {own : String} {ret : Option FieldType} {R : Room} {nL : Nat} (X : Cx G E cc own ret R nL) {k n pc : Nat} {lv : List (Nat × Value)} {st : List Value} {w : WS} {a : Int} (hd : decode cc pc = .ok (.lneg, 1)) (kk : VV G E k n (pc + 1) lv (vl (-a) :: st) w) : VV G E k n pc lv (vl a :: st) w := by
  obtain ⟨p, e, R', s, m, args, below, meth, c, Q, nL'⟩ := E
  obtain ⟨hx, hb, hml, hown, hts, hr, hlk, hK, hI, hN, rfl, rfl⟩ := X
  intro H locs ls hP hS hl
  refine lv_lneg hx hb hd ?_
  rw [← Int64.ofInt_neg]
  exact kk H locs ls hP hS hl
theorem V_i2l {G : GG} {E : EE} {cc : ByteArray} {own : String} {ret : Option FieldType} {R : Room} {nL : Nat} (X : Cx G E cc own ret R nL) {k n pc : Nat} {lv : List (Nat × Value)} {st : List Value} {w : WS} {a : Int} (hd : decode cc pc = .ok (.i2l, 1)) (kk : VV G E k n (pc + 1) lv (vl (wr a) :: st) w) : VV G E k n pc lv (vi a :: st) w := by
  obtain ⟨p, e, R', s, m, args, below, meth, c, Q, nL'⟩ := E
  obtain ⟨hx, hb, hml, hown, hts, hr, hlk, hK, hI, hN, rfl, rfl⟩ := X
  intro H locs ls hP hS hl
  refine lv_i2l (v := Int64.ofInt (wr a)) hx hb hd ?_ (kk H locs ls hP hS hl)
  apply Int64.toInt_inj.mp
  rw [Int32.toInt_toInt64, wr_toInt, wl_toInt, wl_wr]
theorem V_l2i {G : GG} {E : EE} {cc : ByteArray} {own : String} {ret : Option FieldType} {R : Room} {nL : Nat} (X : Cx G E cc own ret R nL) {k n pc : Nat} {lv : List (Nat × Value)} {st : List Value} {w : WS} {a : Int} (hd : decode cc pc = .ok (.l2i, 1)) (kk : VV G E k n (pc + 1) lv (vi a :: st) w) : VV G E k n pc lv (vl a :: st) w := by
  obtain ⟨p, e, R', s, m, args, below, meth, c, Q, nL'⟩ := E
  obtain ⟨hx, hb, hml, hown, hts, hr, hlk, hK, hI, hN, rfl, rfl⟩ := X
  intro H locs ls hP hS hl
  refine lv_l2i (v := Int32.ofInt a) hx hb hd ?_ (kk H locs ls hP hS hl)
  exact l2i_of a
theorem V_i2c {G : GG} {E : EE} {cc : ByteArray} {own : String} {ret : Option FieldType} {R : Room} {nL : Nat} (X : Cx G E cc own ret R nL) {k n pc : Nat} {lv : List (Nat × Value)} {st : List Value} {w : WS} {a : Int} (hd : decode cc pc = .ok (.i2c, 1)) (kk : VV G E k n (pc + 1) lv (vi (nC a) :: st) w) : VV G E k n pc lv (vi a :: st) w := by
  obtain ⟨p, e, R', s, m, args, below, meth, c, Q, nL'⟩ := E
  obtain ⟨hx, hb, hml, hown, hts, hr, hlk, hK, hI, hN, rfl, rfl⟩ := X
  intro H locs ls hP hS hl
  refine lv_i2c (v := Int32.ofInt (nC a)) hx hb hd ?_ (kk H locs ls hP hS hl)
  exact i2c_of a
theorem V_dup {G : GG} {E : EE} {cc : ByteArray} {own : String} {ret : Option FieldType} {R : Room} {nL : Nat} (X : Cx G E cc own ret R nL) {k n pc : Nat} {lv : List (Nat × Value)} {st : List Value} {w : WS} {v : Value} (hd : decode cc pc = .ok (.dup, 1)) (hv : v.category = 1) (kk : VV G E k n (pc + 1) lv (v :: v :: st) w) : VV G E k n pc lv (v :: st) w := by
  obtain ⟨p, e, R', s, m, args, below, meth, c, Q, nL'⟩ := E
  obtain ⟨hx, hb, hml, hown, hts, hr, hlk, hK, hI, hN, rfl, rfl⟩ := X
  intro H locs ls hP hS hl
  exact lv_dup hx hb hd hv (kk H locs ls hP hS hl)
theorem V_dup2 {G : GG} {E : EE} {cc : ByteArray} {own : String} {ret : Option FieldType} {R : Room} {nL : Nat} (X : Cx G E cc own ret R nL) {k n pc : Nat} {lv : List (Nat × Value)} {st : List Value} {w : WS} {v u : Value} (hd : decode cc pc = .ok (.dup2, 1)) (hv : v.category = 1) (hu : u.category = 1) (kk : VV G E k n (pc + 1) lv (v :: u :: v :: u :: st) w) : VV G E k n pc lv (v :: u :: st) w := by
  obtain ⟨p, e, R', s, m, args, below, meth, c, Q, nL'⟩ := E
  obtain ⟨hx, hb, hml, hown, hts, hr, hlk, hK, hI, hN, rfl, rfl⟩ := X
  intro H locs ls hP hS hl
  exact lv_dup2_11 hx hb hd hv hu (kk H locs ls hP hS hl)
theorem V_pop {G : GG} {E : EE} {cc : ByteArray} {own : String} {ret : Option FieldType} {R : Room} {nL : Nat} (X : Cx G E cc own ret R nL) {k n pc : Nat} {lv : List (Nat × Value)} {st : List Value} {w : WS} {v : Value} (hd : decode cc pc = .ok (.pop, 1)) (hv : v.category = 1) (kk : VV G E k n (pc + 1) lv st w) : VV G E k n pc lv (v :: st) w := by
  obtain ⟨p, e, R', s, m, args, below, meth, c, Q, nL'⟩ := E
  obtain ⟨hx, hb, hml, hown, hts, hr, hlk, hK, hI, hN, rfl, rfl⟩ := X
  intro H locs ls hP hS hl
  exact lv_pop hx hb hd hv (kk H locs ls hP hS hl)
theorem V_goto {G : GG} {E : EE} {cc : ByteArray} {own : String} {ret : Option FieldType} {R : Room} {nL : Nat} (X : Cx G E cc own ret R nL) {k n pc : Nat} {lv : List (Nat × Value)} {st : List Value} {w : WS} {off : Int} {tgt : Nat} (hd : decode cc pc = .ok (.goto off, 3)) (ht : (pc : Int) + off = (tgt : Int)) (kk : VV G E k n tgt lv st w) : VV G E k n pc lv st w := by
  obtain ⟨p, e, R', s, m, args, below, meth, c, Q, nL'⟩ := E
  obtain ⟨hx, hb, hml, hown, hts, hr, hlk, hK, hI, hN, rfl, rfl⟩ := X
  intro H locs ls hP hS hl
  exact lv_goto hx hb hd ht (kk H locs ls hP hS hl)
theorem V_idiv {G : GG} {E : EE} {cc : ByteArray} {own : String} {ret : Option FieldType} {R : Room} {nL : Nat} (X : Cx G E cc own ret R nL) {k n pc : Nat} {lv : List (Nat × Value)} {st : List Value} {w : WS} {a b : Int} (hd : decode cc pc = .ok (.idiv, 1)) (hne : ¬ wr b = 0) (kk : VV G E k n (pc + 1) lv (vi (Int.tdiv (wr a) (wr b)) :: st) w) : VV G E k n pc lv (vi b :: vi a :: st) w := by
  obtain ⟨p, e, R', s, m, args, below, meth, c, Q, nL'⟩ := E
  obtain ⟨hx, hb, hml, hown, hts, hr, hlk, hK, hI, hN, rfl, rfl⟩ := X
  intro H locs ls hP hS hl
  refine lv_idiv hx hb hd (fun h => hne (by rw [← wr_toInt, h]; rfl)) ?_
  rw [div32_of]
  exact kk H locs ls hP hS hl
theorem V_ldiv {G : GG} {E : EE} {cc : ByteArray} {own : String} {ret : Option FieldType} {R : Room} {nL : Nat} (X : Cx G E cc own ret R nL) {k n pc : Nat} {lv : List (Nat × Value)} {st : List Value} {w : WS} {a b : Int} (hd : decode cc pc = .ok (.ldiv, 1)) (hne : ¬ wl b = 0) (kk : VV G E k n (pc + 1) lv (vl (Int.tdiv (wl a) (wl b)) :: st) w) : VV G E k n pc lv (vl b :: vl a :: st) w := by
  obtain ⟨p, e, R', s, m, args, below, meth, c, Q, nL'⟩ := E
  obtain ⟨hx, hb, hml, hown, hts, hr, hlk, hK, hI, hN, rfl, rfl⟩ := X
  intro H locs ls hP hS hl
  refine lv_ldiv hx hb hd (fun h => hne (by rw [← wl_toInt, h]; rfl)) ?_
  rw [div64_of]
  exact kk H locs ls hP hS hl
theorem V_irem {G : GG} {E : EE} {cc : ByteArray} {own : String} {ret : Option FieldType} {R : Room} {nL : Nat} (X : Cx G E cc own ret R nL) {k n pc : Nat} {lv : List (Nat × Value)} {st : List Value} {w : WS} {a b : Int} (hd : decode cc pc = .ok (.irem, 1)) (hne : ¬ wr b = 0) (kk : VV G E k n (pc + 1) lv (vi (Int.tmod (wr a) (wr b)) :: st) w) : VV G E k n pc lv (vi b :: vi a :: st) w := by
  obtain ⟨p, e, R', s, m, args, below, meth, c, Q, nL'⟩ := E
  obtain ⟨hx, hb, hml, hown, hts, hr, hlk, hK, hI, hN, rfl, rfl⟩ := X
  intro H locs ls hP hS hl
  refine lv_irem hx hb hd (fun h => hne (by rw [← wr_toInt, h]; rfl)) ?_
  rw [rem32_of]
  exact kk H locs ls hP hS hl
theorem V_lrem {G : GG} {E : EE} {cc : ByteArray} {own : String} {ret : Option FieldType} {R : Room} {nL : Nat} (X : Cx G E cc own ret R nL) {k n pc : Nat} {lv : List (Nat × Value)} {st : List Value} {w : WS} {a b : Int} (hd : decode cc pc = .ok (.lrem, 1)) (hne : ¬ wl b = 0) (kk : VV G E k n (pc + 1) lv (vl (Int.tmod (wl a) (wl b)) :: st) w) : VV G E k n pc lv (vl b :: vl a :: st) w := by
  obtain ⟨p, e, R', s, m, args, below, meth, c, Q, nL'⟩ := E
  obtain ⟨hx, hb, hml, hown, hts, hr, hlk, hK, hI, hN, rfl, rfl⟩ := X
  intro H locs ls hP hS hl
  refine lv_lrem hx hb hd (fun h => hne (by rw [← wl_toInt, h]; rfl)) ?_
  rw [rem64_of]
  exact kk H locs ls hP hS hl
theorem V_icmp_lt {G : GG} {E : EE} {cc : ByteArray} {own : String} {ret : Option FieldType} {R : Room} {nL : Nat} (X : Cx G E cc own ret R nL) {k n pc : Nat} {lv : List (Nat × Value)} {st : List Value} {w : WS} {a b : Int} {off : Int} {tgt : Nat} {α : Type} {A B r : α} (hd : decode cc pc = .ok (.if_icmp .lt off, 3)) (ht : (pc : Int) + off = (tgt : Int)) (hf : (if wr a < wr b then A else B) = r) (kt : A = r → VV G E k n tgt lv st w) (kf : B = r → VV G E k n (pc + 3) lv st w) : VV G E k n pc lv (vi b :: vi a :: st) w := by
  obtain ⟨p, e, R', s, m, args, below, meth, c, Q, nL'⟩ := E
  obtain ⟨hx, hb, hml, hown, hts, hr, hlk, hK, hI, hN, rfl, rfl⟩ := X
  intro H locs ls hP hS hl
  refine lv_icmp_lt hx hb hd ht (fun h => ?_) (fun h => ?_)
  · exact kt (ite_t (c_LT a b h) hf) H locs ls hP hS hl
  · exact kf (ite_f (fun q => h (c_TL a b q)) hf) H locs ls hP hS hl
theorem V_if_lt {G : GG} {E : EE} {cc : ByteArray} {own : String} {ret : Option FieldType} {R : Room} {nL : Nat} (X : Cx G E cc own ret R nL) {k n pc : Nat} {lv : List (Nat × Value)} {st : List Value} {w : WS} {a : Int} {off : Int} {tgt : Nat} {α : Type} {A B r : α} (hd : decode cc pc = .ok (.ifCond .lt off, 3)) (ht : (pc : Int) + off = (tgt : Int)) (hf : (if wr a < 0 then A else B) = r) (kt : A = r → VV G E k n tgt lv st w) (kf : B = r → VV G E k n (pc + 3) lv st w) : VV G E k n pc lv (vi a :: st) w := by
  obtain ⟨p, e, R', s, m, args, below, meth, c, Q, nL'⟩ := E
  obtain ⟨hx, hb, hml, hown, hts, hr, hlk, hK, hI, hN, rfl, rfl⟩ := X
  intro H locs ls hP hS hl
  refine lv_if_lt hx hb hd ht (fun h => ?_) (fun h => ?_)
  · exact kt (ite_t (c_LTz a h) hf) H locs ls hP hS hl
  · exact kf (ite_f (fun q => h (c_TLz a q)) hf) H locs ls hP hS hl
theorem V_icmp_ge {G : GG} {E : EE} {cc : ByteArray} {own : String} {ret : Option FieldType} {R : Room} {nL : Nat} (X : Cx G E cc own ret R nL) {k n pc : Nat} {lv : List (Nat × Value)} {st : List Value} {w : WS} {a b : Int} {off : Int} {tgt : Nat} {α : Type} {A B r : α} (hd : decode cc pc = .ok (.if_icmp .ge off, 3)) (ht : (pc : Int) + off = (tgt : Int)) (hf : (if wr a < wr b then A else B) = r) (kt : A = r → VV G E k n (pc + 3) lv st w) (kf : B = r → VV G E k n tgt lv st w) : VV G E k n pc lv (vi b :: vi a :: st) w := by
  obtain ⟨p, e, R', s, m, args, below, meth, c, Q, nL'⟩ := E
  obtain ⟨hx, hb, hml, hown, hts, hr, hlk, hK, hI, hN, rfl, rfl⟩ := X
  intro H locs ls hP hS hl
  refine lv_icmp_ge hx hb hd ht (fun h => ?_) (fun h => ?_)
  · exact kf (ite_f (fun q => c_GE a b h q) hf) H locs ls hP hS hl
  · exact kt (ite_t (c_NGE a b h) hf) H locs ls hP hS hl
theorem V_if_ge {G : GG} {E : EE} {cc : ByteArray} {own : String} {ret : Option FieldType} {R : Room} {nL : Nat} (X : Cx G E cc own ret R nL) {k n pc : Nat} {lv : List (Nat × Value)} {st : List Value} {w : WS} {a : Int} {off : Int} {tgt : Nat} {α : Type} {A B r : α} (hd : decode cc pc = .ok (.ifCond .ge off, 3)) (ht : (pc : Int) + off = (tgt : Int)) (hf : (if wr a < 0 then A else B) = r) (kt : A = r → VV G E k n (pc + 3) lv st w) (kf : B = r → VV G E k n tgt lv st w) : VV G E k n pc lv (vi a :: st) w := by
  obtain ⟨p, e, R', s, m, args, below, meth, c, Q, nL'⟩ := E
  obtain ⟨hx, hb, hml, hown, hts, hr, hlk, hK, hI, hN, rfl, rfl⟩ := X
  intro H locs ls hP hS hl
  refine lv_if_ge hx hb hd ht (fun h => ?_) (fun h => ?_)
  · exact kf (ite_f (fun q => c_GEz a h q) hf) H locs ls hP hS hl
  · exact kt (ite_t (c_NGEz a h) hf) H locs ls hP hS hl
theorem V_icmp_gt {G : GG} {E : EE} {cc : ByteArray} {own : String} {ret : Option FieldType} {R : Room} {nL : Nat} (X : Cx G E cc own ret R nL) {k n pc : Nat} {lv : List (Nat × Value)} {st : List Value} {w : WS} {a b : Int} {off : Int} {tgt : Nat} {α : Type} {A B r : α} (hd : decode cc pc = .ok (.if_icmp .gt off, 3)) (ht : (pc : Int) + off = (tgt : Int)) (hf : (if wr b < wr a then A else B) = r) (kt : A = r → VV G E k n tgt lv st w) (kf : B = r → VV G E k n (pc + 3) lv st w) : VV G E k n pc lv (vi b :: vi a :: st) w := by
  obtain ⟨p, e, R', s, m, args, below, meth, c, Q, nL'⟩ := E
  obtain ⟨hx, hb, hml, hown, hts, hr, hlk, hK, hI, hN, rfl, rfl⟩ := X
  intro H locs ls hP hS hl
  refine lv_icmp_gt hx hb hd ht (fun h => ?_) (fun h => ?_)
  · exact kt (ite_t (c_GT a b h) hf) H locs ls hP hS hl
  · exact kf (ite_f (fun q => h (c_TG a b q)) hf) H locs ls hP hS hl
theorem V_if_gt {G : GG} {E : EE} {cc : ByteArray} {own : String} {ret : Option FieldType} {R : Room} {nL : Nat} (X : Cx G E cc own ret R nL) {k n pc : Nat} {lv : List (Nat × Value)} {st : List Value} {w : WS} {a : Int} {off : Int} {tgt : Nat} {α : Type} {A B r : α} (hd : decode cc pc = .ok (.ifCond .gt off, 3)) (ht : (pc : Int) + off = (tgt : Int)) (hf : (if 0 < wr a then A else B) = r) (kt : A = r → VV G E k n tgt lv st w) (kf : B = r → VV G E k n (pc + 3) lv st w) : VV G E k n pc lv (vi a :: st) w := by
  obtain ⟨p, e, R', s, m, args, below, meth, c, Q, nL'⟩ := E
  obtain ⟨hx, hb, hml, hown, hts, hr, hlk, hK, hI, hN, rfl, rfl⟩ := X
  intro H locs ls hP hS hl
  refine lv_if_gt hx hb hd ht (fun h => ?_) (fun h => ?_)
  · exact kt (ite_t (c_GTz a h) hf) H locs ls hP hS hl
  · exact kf (ite_f (fun q => h (c_TGz a q)) hf) H locs ls hP hS hl
theorem V_icmp_le {G : GG} {E : EE} {cc : ByteArray} {own : String} {ret : Option FieldType} {R : Room} {nL : Nat} (X : Cx G E cc own ret R nL) {k n pc : Nat} {lv : List (Nat × Value)} {st : List Value} {w : WS} {a b : Int} {off : Int} {tgt : Nat} {α : Type} {A B r : α} (hd : decode cc pc = .ok (.if_icmp .le off, 3)) (ht : (pc : Int) + off = (tgt : Int)) (hf : (if wr b < wr a then A else B) = r) (kt : A = r → VV G E k n (pc + 3) lv st w) (kf : B = r → VV G E k n tgt lv st w) : VV G E k n pc lv (vi b :: vi a :: st) w := by
  obtain ⟨p, e, R', s, m, args, below, meth, c, Q, nL'⟩ := E
  obtain ⟨hx, hb, hml, hown, hts, hr, hlk, hK, hI, hN, rfl, rfl⟩ := X
  intro H locs ls hP hS hl
  refine lv_icmp_le hx hb hd ht (fun h => ?_) (fun h => ?_)
  · exact kf (ite_f (fun q => c_LE a b h q) hf) H locs ls hP hS hl
  · exact kt (ite_t (c_NLE a b h) hf) H locs ls hP hS hl
theorem V_if_le {G : GG} {E : EE} {cc : ByteArray} {own : String} {ret : Option FieldType} {R : Room} {nL : Nat} (X : Cx G E cc own ret R nL) {k n pc : Nat} {lv : List (Nat × Value)} {st : List Value} {w : WS} {a : Int} {off : Int} {tgt : Nat} {α : Type} {A B r : α} (hd : decode cc pc = .ok (.ifCond .le off, 3)) (ht : (pc : Int) + off = (tgt : Int)) (hf : (if 0 < wr a then A else B) = r) (kt : A = r → VV G E k n (pc + 3) lv st w) (kf : B = r → VV G E k n tgt lv st w) : VV G E k n pc lv (vi a :: st) w := by
  obtain ⟨p, e, R', s, m, args, below, meth, c, Q, nL'⟩ := E
  obtain ⟨hx, hb, hml, hown, hts, hr, hlk, hK, hI, hN, rfl, rfl⟩ := X
  intro H locs ls hP hS hl
  refine lv_if_le hx hb hd ht (fun h => ?_) (fun h => ?_)
  · exact kf (ite_f (fun q => c_LEz a h q) hf) H locs ls hP hS hl
  · exact kt (ite_t (c_NLEz a h) hf) H locs ls hP hS hl
theorem V_icmp_eq {G : GG} {E : EE} {cc : ByteArray} {own : String} {ret : Option FieldType} {R : Room} {nL : Nat} (X : Cx G E cc own ret R nL) {k n pc : Nat} {lv : List (Nat × Value)} {st : List Value} {w : WS} {a b : Int} {off : Int} {tgt : Nat} {α : Type} {A B r : α} (hd : decode cc pc = .ok (.if_icmp .eq off, 3)) (ht : (pc : Int) + off = (tgt : Int)) (hf : (if wr a = wr b then A else B) = r) (kt : A = r → VV G E k n tgt lv st w) (kf : B = r → VV G E k n (pc + 3) lv st w) : VV G E k n pc lv (vi b :: vi a :: st) w := by
  obtain ⟨p, e, R', s, m, args, below, meth, c, Q, nL'⟩ := E
  obtain ⟨hx, hb, hml, hown, hts, hr, hlk, hK, hI, hN, rfl, rfl⟩ := X
  intro H locs ls hP hS hl
  refine lv_icmp_eq hx hb hd ht (fun h => ?_) (fun h => ?_)
  · exact kt (ite_t (c_EQ a b h) hf) H locs ls hP hS hl
  · exact kf (ite_f (fun q => h (c_QE a b q)) hf) H locs ls hP hS hl
theorem V_if_eq {G : GG} {E : EE} {cc : ByteArray} {own : String} {ret : Option FieldType} {R : Room} {nL : Nat} (X : Cx G E cc own ret R nL) {k n pc : Nat} {lv : List (Nat × Value)} {st : List Value} {w : WS} {a : Int} {off : Int} {tgt : Nat} {α : Type} {A B r : α} (hd : decode cc pc = .ok (.ifCond .eq off, 3)) (ht : (pc : Int) + off = (tgt : Int)) (hf : (if wr a = 0 then A else B) = r) (kt : A = r → VV G E k n tgt lv st w) (kf : B = r → VV G E k n (pc + 3) lv st w) : VV G E k n pc lv (vi a :: st) w := by
  obtain ⟨p, e, R', s, m, args, below, meth, c, Q, nL'⟩ := E
  obtain ⟨hx, hb, hml, hown, hts, hr, hlk, hK, hI, hN, rfl, rfl⟩ := X
  intro H locs ls hP hS hl
  refine lv_if_eq hx hb hd ht (fun h => ?_) (fun h => ?_)
  · exact kt (ite_t (c_EQz a h) hf) H locs ls hP hS hl
  · exact kf (ite_f (fun q => h (c_QEz a q)) hf) H locs ls hP hS hl
theorem V_icmp_ne {G : GG} {E : EE} {cc : ByteArray} {own : String} {ret : Option FieldType} {R : Room} {nL : Nat} (X : Cx G E cc own ret R nL) {k n pc : Nat} {lv : List (Nat × Value)} {st : List Value} {w : WS} {a b : Int} {off : Int} {tgt : Nat} {α : Type} {A B r : α} (hd : decode cc pc = .ok (.if_icmp .ne off, 3)) (ht : (pc : Int) + off = (tgt : Int)) (hf : (if wr a = wr b then A else B) = r) (kt : A = r → VV G E k n (pc + 3) lv st w) (kf : B = r → VV G E k n tgt lv st w) : VV G E k n pc lv (vi b :: vi a :: st) w := by
  obtain ⟨p, e, R', s, m, args, below, meth, c, Q, nL'⟩ := E
  obtain ⟨hx, hb, hml, hown, hts, hr, hlk, hK, hI, hN, rfl, rfl⟩ := X
  intro H locs ls hP hS hl
  refine lv_icmp_ne hx hb hd ht (fun h => ?_) (fun h => ?_)
  · exact kf (ite_f (fun q => h (c_QE a b q)) hf) H locs ls hP hS hl
  · exact kt (ite_t (c_NNE a b h) hf) H locs ls hP hS hl
theorem V_if_ne {G : GG} {E : EE} {cc : ByteArray} {own : String} {ret : Option FieldType} {R : Room} {nL : Nat} (X : Cx G E cc own ret R nL) {k n pc : Nat} {lv : List (Nat × Value)} {st : List Value} {w : WS} {a : Int} {off : Int} {tgt : Nat} {α : Type} {A B r : α} (hd : decode cc pc = .ok (.ifCond .ne off, 3)) (ht : (pc : Int) + off = (tgt : Int)) (hf : (if wr a = 0 then A else B) = r) (kt : A = r → VV G E k n (pc + 3) lv st w) (kf : B = r → VV G E k n tgt lv st w) : VV G E k n pc lv (vi a :: st) w := by
  obtain ⟨p, e, R', s, m, args, below, meth, c, Q, nL'⟩ := E
  obtain ⟨hx, hb, hml, hown, hts, hr, hlk, hK, hI, hN, rfl, rfl⟩ := X
  intro H locs ls hP hS hl
  refine lv_if_ne hx hb hd ht (fun h => ?_) (fun h => ?_)
  · exact kf (ite_f (fun q => h (c_QEz a q)) hf) H locs ls hP hS hl
  · exact kt (ite_t (c_NNEz a h) hf) H locs ls hP hS hl
