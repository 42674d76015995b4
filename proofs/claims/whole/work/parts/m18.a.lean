/-! constructors: cells made one behind the other, from the object's own cell on -/
def blk (h : Nat) (es : List va_E) : va_W := es.mapIdx (fun i e => (h + i, e))
theorem blk_at {h i : Nat} {es : List va_E} {e : va_E} (hi : es[i]? = some e) : (blk h es)[i]? = some (h + i, e) := by
  unfold blk
  rw [List.getElem?_mapIdx, hi]
  rfl
theorem blk_get {h k : Nat} {es : List va_E} {q : Nat × va_E} (hk : (blk h es)[k]? = some q) : ∃ e, es[k]? = some e ∧ q = (h + k, e) := by
  unfold blk at hk
  rw [List.getElem?_mapIdx] at hk
  cases he : es[k]? with
  | none => rw [he] at hk; cases hk
  | some e => rw [he] at hk; exact ⟨e, rfl, (Option.some.inj hk).symm⟩
theorem blk_D (h : Nat) (es : List va_E) : va_D (fun q => h ≤ q) (blk h es) := by
  refine ⟨fun i j p q hi hj hpq => ?_, fun k q hk => ?_⟩
  · obtain ⟨e1, -, rfl⟩ := blk_get hi
    obtain ⟨e2, -, rfl⟩ := blk_get hj
    have hpq : h + i = h + j := hpq
    omega
  · obtain ⟨e1, -, rfl⟩ := blk_get hk
    exact Nat.le_add_right h k
theorem blk_set (h : Nat) (o o' : va_E) (rest : List va_E) : (blk h (o :: rest)).set 0 (h, o') = blk h (o' :: rest) := by
  apply List.ext_getElem?
  intro j
  unfold blk
  rw [List.getElem?_mapIdx]
  cases j with
  | zero =>
    rw [List.getElem?_set_self (by rw [List.length_mapIdx]; exact Nat.succ_pos _)]
    rfl
  | succ j =>
    rw [List.getElem?_set_ne (by omega), List.getElem?_mapIdx]
    rfl
/-- a world's first cells stay, what stands behind them is new -/
theorem blk_app {D : va_G} {cl : List vw_C} {h : Nat} {a b c : List va_E} {H H1 : Heap} (hP : va_P D cl (blk h (a ++ b)) H) (hk : ∀ q : Nat, q < h + a.length → H1[q]? = H[q]?) (hc : va_P D cl (blk (h + a.length) c) H1) : va_P D cl (blk h (a ++ c)) H1 := by
  intro k q hq
  obtain ⟨e, he, rfl⟩ := blk_get hq
  by_cases hl : k < a.length
  · rw [List.getElem?_append_left hl] at he
    have h1 : (blk h (a ++ b))[k]? = some (h + k, e) := blk_at (by rw [List.getElem?_append_left hl]; exact he)
    exact (hP k _ h1).kept (hk _ (by show h + k < _; omega))
  · rw [List.getElem?_append_right (by omega)] at he
    have h1 := hc _ _ (blk_at (h := h + a.length) he)
    rw [show h + a.length + (k - a.length) = h + k from by omega] at h1
    exact h1
abbrev Gb : Type := Launch × va_G × (Nat → ClassId)
def BV (G : Gb) (E : EE) (h k n pc : Nat) (lv : List (Nat × Value)) (st : List Value) (es : List va_E) : Prop := match E with
  | (p, e, R, s, m, args, below, meth, c, Q, nL) => ∀ (H : Heap) (locs : List Loc) (ls : Array Slot), H.size = h + es.length → va_P G.2.1 vwCl (blk h es) H → va_S (fun q => h ≤ q) s.heap H locs → lv_has ls nL lv → W p G.1 e R s m args below meth c H locs k n Q (F0 m pc ls st)
def Cb (G : Gb) (E : EE) (h : Nat) (cc : ByteArray) (own : String) (ret : Option FieldType) (R : Room) (nL : Nat) : Prop := match E with
  | (p, e, R', s, m, args, below, meth, c, Q, nL') => p.tables.exec = Jvm.exec ∧ c.code = cc ∧ c.maxLocals = nL ∧ s.vm.findClass own = some m.cls ∧ (∀ w ∈ TT, w.before args s = true) ∧ meth.sig.returnType = ret ∧ meth.locks = false ∧ va_K G.2.1 vwCl (tyL G.2.2) s ∧ NW s ∧ R' = R ∧ nL' = nL ∧ s.heap.size ≤ h + 1
def QB (G : Gb) (h : Nat) (es : List va_E) : Array Value → State → Outcome → State → Prop := va_Qv (fun (_ : Unit) => True) (fun _ t => t.heap.size = h + es.length ∧ va_P G.2.1 vwCl (blk h es) t.heap) (fun q => h ≤ q)
def EB (G : Gb) (E : EE) (h : Nat) (es : List va_E) (mc ms : Nat) : Prop := match E with
  | (p, e, R, s, m, args, below, meth, c, Q, nL) => Q = MQ below (QB G h es) args s mc ms (fun q => h ≤ q)
def IN (E : EE) : Prop := match E with
  | (p, e, R, s, m, args, below, meth, c, Q, nL) => meth.name = "<init>"
def PB (G : Gb) (h : Nat) (es : List va_E) (U : State) : Prop := U.heap.size = h + es.length ∧ va_P G.2.1 vwCl (blk h es) U.heap ∧ va_K G.2.1 vwCl (tyL G.2.2) U ∧ NW U
def MBc (G : Gb) (y : MethodName) (bytes : ByteArray) (maxL : Nat) (rm : Room) (h : Nat) (As : List Value) (e0 : va_E) (es : List va_E) : Prop := Met G.1 y (.code y bytes maxL none :: TT) rm (va_Pc (.ref h :: As) (PB G h [e0])) (QB G h es) rm.cells rm.slots (fun q => h ≤ q)
theorem PB_blind {G : Gb} {As : List Value} {h : Nat} {es : List va_E} : FrameBlind (va_Pc As (PB G h es)) := by
  intro a U g mk q
  obtain ⟨h0, h1, h2, h3, h4⟩ := q
  exact ⟨h0, h1, h2, va_K.moved (u := U) (U := U.calling g mk a) (Vm.Alike.refl U.vm) h3, NW_same (u := U) (U := U.calling g mk a) rfl h4⟩
theorem MBc_of {G : Gb} {y : MethodName} {bytes : ByteArray} {maxL : Nat} {rm : Room} {h : Nat} {As : List Value} {e0 : va_E} {es : List va_E} (hy : plainName y.cls = true) (hyn : y.name = "<init>") (hlen : (lg_sl (.ref h :: As)).length ≤ maxL) (body : ∀ E : EE, Cb G E h bytes y.cls none rm maxL → IN E → EB G E h es rm.cells rm.slots → BV G E h 0 0 0 (lv_args 0 (.ref h :: As)) [] [e0]) : MBc G y bytes maxL rm h As e0 es := by
  refine Met.ofW (cc := bytes) (maxL := maxL) (ret := none) hy rfl ?_
  intro p e s m args below meth c s₁ B hml hv
  obtain ⟨rfl, hsz, hP, hK, hN⟩ := hv
  have hts := atoms_spec (ws := .code y bytes maxL none :: TT) B.pre
  have hin : meth.name = "<init>" := ((name_of_methodNamed B.named B.method).1).trans hyn
  rw [lg_entry_eq]
  have hl := lv_entry (.ref h :: As) (n := maxL) hlen
  exact body (p, e, rm, s, m, (Value.ref h :: As).toArray, below, meth, c, _, maxL) ⟨B.exec, B.bytes, hml, findClass_of_methodNamed B.named, fun w hw => hts w (List.mem_cons_of_mem _ hw), B.returns, B.notSynchronized, hK, hN, rfl, rfl, by rw [hsz]; exact Nat.le_refl _⟩ hin rfl s.heap [] _ hsz hP va_S.rf hl
theorem B_aload_n {G : Gb} {E : EE} {h : Nat} {cc : ByteArray} {own : String} {ret : Option FieldType} {R : Room} {nL : Nat} (X : Cb G E h cc own ret R nL) {k n pc : Nat} {lv : List (Nat × Value)} {st : List Value} {es : List va_E} {f : Fin 4} {i : Nat} {a : Nat} (hd : decode cc pc = .ok (.aload_n f, 1)) (hi : (f : Nat) = i) (hv : lget lv i = some (.ref a)) (kk : BV G E h k n (pc + 1) lv (.ref a :: st) es) : BV G E h k n pc lv st es := by
  obtain ⟨p, e, R', s, m, args, below, meth, c, Q, nL'⟩ := E
  obtain ⟨hx, hb, hml, hown, hts, hr, hlk, hK, hN, rfl, rfl, hsz⟩ := X
  intro H locs ls hz hP hS hl
  exact lv_aload_n hx hb hd hi (lat hl hv) (kk H locs ls hz hP hS hl)
theorem B_aload {G : Gb} {E : EE} {h : Nat} {cc : ByteArray} {own : String} {ret : Option FieldType} {R : Room} {nL : Nat} (X : Cb G E h cc own ret R nL) {k n pc : Nat} {lv : List (Nat × Value)} {st : List Value} {es : List va_E} {i : Nat} {a : Nat} (hd : decode cc pc = .ok (.aload i, 2)) (hv : lget lv i = some (.ref a)) (kk : BV G E h k n (pc + 2) lv (.ref a :: st) es) : BV G E h k n pc lv st es := by
  obtain ⟨p, e, R', s, m, args, below, meth, c, Q, nL'⟩ := E
  obtain ⟨hx, hb, hml, hown, hts, hr, hlk, hK, hN, rfl, rfl, hsz⟩ := X
  intro H locs ls hz hP hS hl
  exact lv_aload hx hb hd (lat hl hv) (kk H locs ls hz hP hS hl)
theorem B_iload_n {G : Gb} {E : EE} {h : Nat} {cc : ByteArray} {own : String} {ret : Option FieldType} {R : Room} {nL : Nat} (X : Cb G E h cc own ret R nL) {k n pc : Nat} {lv : List (Nat × Value)} {st : List Value} {es : List va_E} {f : Fin 4} {i : Nat} {a : Int} (hd : decode cc pc = .ok (.iload_n f, 1)) (hi : (f : Nat) = i) (hv : lget lv i = some (vi a)) (kk : BV G E h k n (pc + 1) lv (vi a :: st) es) : BV G E h k n pc lv st es := by
  obtain ⟨p, e, R', s, m, args, below, meth, c, Q, nL'⟩ := E
  obtain ⟨hx, hb, hml, hown, hts, hr, hlk, hK, hN, rfl, rfl, hsz⟩ := X
  intro H locs ls hz hP hS hl
  exact lv_iload_n hx hb hd hi (lat hl hv) (kk H locs ls hz hP hS hl)
theorem B_iconst {G : Gb} {E : EE} {h : Nat} {cc : ByteArray} {own : String} {ret : Option FieldType} {R : Room} {nL : Nat} (X : Cb G E h cc own ret R nL) {k n pc : Nat} {lv : List (Nat × Value)} {st : List Value} {es : List va_E} {a : Int} (hd : decode cc pc = .ok (.iconst a, 1)) (kk : BV G E h k n (pc + 1) lv (vi a :: st) es) : BV G E h k n pc lv st es := by
  obtain ⟨p, e, R', s, m, args, below, meth, c, Q, nL'⟩ := E
  obtain ⟨hx, hb, hml, hown, hts, hr, hlk, hK, hN, rfl, rfl, hsz⟩ := X
  intro H locs ls hz hP hS hl
  exact lv_iconst hx hb hd rfl (kk H locs ls hz hP hS hl)
theorem B_bipush {G : Gb} {E : EE} {h : Nat} {cc : ByteArray} {own : String} {ret : Option FieldType} {R : Room} {nL : Nat} (X : Cb G E h cc own ret R nL) {k n pc : Nat} {lv : List (Nat × Value)} {st : List Value} {es : List va_E} {a : Int} (hd : decode cc pc = .ok (.bipush a, 2)) (hv : (Int8.ofInt a).toInt32 = Int32.ofInt a) (kk : BV G E h k n (pc + 2) lv (vi a :: st) es) : BV G E h k n pc lv st es := by
  obtain ⟨p, e, R', s, m, args, below, meth, c, Q, nL'⟩ := E
  obtain ⟨hx, hb, hml, hown, hts, hr, hlk, hK, hN, rfl, rfl, hsz⟩ := X
  intro H locs ls hz hP hS hl
  exact lv_bipush hx hb hd hv (kk H locs ls hz hP hS hl)
theorem B_sipush {G : Gb} {E : EE} {h : Nat} {cc : ByteArray} {own : String} {ret : Option FieldType} {R : Room} {nL : Nat} (X : Cb G E h cc own ret R nL) {k n pc : Nat} {lv : List (Nat × Value)} {st : List Value} {es : List va_E} {a : Int} (hd : decode cc pc = .ok (.sipush a, 3)) (hv : (Int16.ofInt a).toInt32 = Int32.ofInt a) (kk : BV G E h k n (pc + 3) lv (vi a :: st) es) : BV G E h k n pc lv st es := by
  obtain ⟨p, e, R', s, m, args, below, meth, c, Q, nL'⟩ := E
  obtain ⟨hx, hb, hml, hown, hts, hr, hlk, hK, hN, rfl, rfl, hsz⟩ := X
  intro H locs ls hz hP hS hl
  exact lv_sipush hx hb hd hv (kk H locs ls hz hP hS hl)
theorem B_dup {G : Gb} {E : EE} {h : Nat} {cc : ByteArray} {own : String} {ret : Option FieldType} {R : Room} {nL : Nat} (X : Cb G E h cc own ret R nL) {k n pc : Nat} {lv : List (Nat × Value)} {st : List Value} {es : List va_E} {v : Value} (hd : decode cc pc = .ok (.dup, 1)) (hv : v.category = 1) (kk : BV G E h k n (pc + 1) lv (v :: v :: st) es) : BV G E h k n pc lv (v :: st) es := by
  obtain ⟨p, e, R', s, m, args, below, meth, c, Q, nL'⟩ := E
  obtain ⟨hx, hb, hml, hown, hts, hr, hlk, hK, hN, rfl, rfl, hsz⟩ := X
  intro H locs ls hz hP hS hl
  exact lv_dup hx hb hd hv (kk H locs ls hz hP hS hl)
theorem B_goto {G : Gb} {E : EE} {h : Nat} {cc : ByteArray} {own : String} {ret : Option FieldType} {R : Room} {nL : Nat} (X : Cb G E h cc own ret R nL) {k n pc : Nat} {lv : List (Nat × Value)} {st : List Value} {es : List va_E} {off : Int} {tgt : Nat} (hd : decode cc pc = .ok (.goto off, 3)) (ht : (pc : Int) + off = (tgt : Int)) (kk : BV G E h k n tgt lv st es) : BV G E h k n pc lv st es := by
  obtain ⟨p, e, R', s, m, args, below, meth, c, Q, nL'⟩ := E
  obtain ⟨hx, hb, hml, hown, hts, hr, hlk, hK, hN, rfl, rfl, hsz⟩ := X
  intro H locs ls hz hP hS hl
  exact lv_goto hx hb hd ht (kk H locs ls hz hP hS hl)
theorem B_imul {G : Gb} {E : EE} {h : Nat} {cc : ByteArray} {own : String} {ret : Option FieldType} {R : Room} {nL : Nat} (X : Cb G E h cc own ret R nL) {k n pc : Nat} {lv : List (Nat × Value)} {st : List Value} {es : List va_E} {a b : Int} (hd : decode cc pc = .ok (.imul, 1)) (kk : BV G E h k n (pc + 1) lv (vi (a * b) :: st) es) : BV G E h k n pc lv (vi b :: vi a :: st) es := by
  obtain ⟨p, e, R', s, m, args, below, meth, c, Q, nL'⟩ := E
  obtain ⟨hx, hb, hml, hown, hts, hr, hlk, hK, hN, rfl, rfl, hsz⟩ := X
  intro H locs ls hz hP hS hl
  refine lv_imul hx hb hd ?_
  rw [← Int32.ofInt_mul]
  exact kk H locs ls hz hP hS hl
theorem B_if_ge {G : Gb} {E : EE} {h : Nat} {cc : ByteArray} {own : String} {ret : Option FieldType} {R : Room} {nL : Nat} (X : Cb G E h cc own ret R nL) {k n pc : Nat} {lv : List (Nat × Value)} {st : List Value} {es : List va_E} {a : Int} {off : Int} {tgt : Nat} (hd : decode cc pc = .ok (.ifCond .ge off, 3)) (ht : (pc : Int) + off = (tgt : Int)) (ha : ¬ wr a < 0) (kk : BV G E h k n tgt lv st es) : BV G E h k n pc lv (vi a :: st) es := by
  obtain ⟨p, e, R', s, m, args, below, meth, c, Q, nL'⟩ := E
  obtain ⟨hx, hb, hml, hown, hts, hr, hlk, hK, hN, rfl, rfl, hsz⟩ := X
  intro H locs ls hz hP hS hl
  exact lv_if_ge hx hb hd ht (fun _ => kk H locs ls hz hP hS hl) (fun q => absurd (c_NGEz a q) ha)
theorem B_if_lt {G : Gb} {E : EE} {h : Nat} {cc : ByteArray} {own : String} {ret : Option FieldType} {R : Room} {nL : Nat} (X : Cb G E h cc own ret R nL) {k n pc : Nat} {lv : List (Nat × Value)} {st : List Value} {es : List va_E} {a : Int} {off : Int} {tgt : Nat} (hd : decode cc pc = .ok (.ifCond .lt off, 3)) (ht : (pc : Int) + off = (tgt : Int)) (ha : ¬ wr a < 0) (kk : BV G E h k n (pc + 3) lv st es) : BV G E h k n pc lv (vi a :: st) es := by
  obtain ⟨p, e, R', s, m, args, below, meth, c, Q, nL'⟩ := E
  obtain ⟨hx, hb, hml, hown, hts, hr, hlk, hK, hN, rfl, rfl, hsz⟩ := X
  intro H locs ls hz hP hS hl
  exact lv_if_lt hx hb hd ht (fun q => absurd (c_LTz a q) ha) (fun _ => kk H locs ls hz hP hS hl)
theorem B_obj {G : Gb} {E : EE} {h : Nat} {cc : ByteArray} {own : String} {ret : Option FieldType} {R : Room} {nL : Nat} (X : Cb G E h cc own ret R nL) {k n pc : Nat} {lv : List (Nat × Value)} {st : List Value} {es : List va_E} {index a : Nat} (hli : Cond.methodLink own index objectInit ∈ TT) (hinst : Cond.instanceMethod objectInit ∈ TT) (hcode : Cond.code objectInit ⟨#[0xb1]⟩ 1 none ∈ TT) (hd : decode cc pc = .ok (.invokespecial index, 3)) (hf : 1 ≤ R.frames) (hlo : (st.map fun v => v.category).sum + 12 ≤ R.locals) (kk : BV G E h k n (pc + 3) lv st es) : BV G E h k n pc lv (.ref a :: st) es := by
  obtain ⟨p, e, R', s, m, args, below, meth, c, Q, nL'⟩ := E
  obtain ⟨hx, hb, hml, hown, hts, hr, hlk, hK, hN, rfl, rfl, hsz⟩ := X
  intro H locs ls hz hP hS hl
  refine W.objInit hx hb hown (hts _ hli) (hts _ hinst) (hts _ hcode) rfl (hl.1.trans hml.symm) rfl hd hf (by show 2 * 0 + _ + 12 ≤ _; omega) ?_
  exact kk H locs ls hz hP hS hl
theorem B_ret {G : Gb} {E : EE} {h : Nat} {cc : ByteArray} {own : String} {R : Room} {nL : Nat} (X : Cb G E h cc own none R nL) {es : List va_E} {mc ms : Nat} (hE : EB G E h es mc ms) {k n pc : Nat} {lv : List (Nat × Value)} (hm : k ≤ mc ∧ n ≤ ms) (hd : decode cc pc = .ok (.return_, 1)) : BV G E h k n pc lv [] es := by
  obtain ⟨p, e, R', s, m, args, below, meth, c, Q, nL'⟩ := E
  obtain ⟨hx, hb, hml, hown, hts, hr, hlk, hK, hN, rfl, rfl, hsz⟩ := X
  intro H locs ls hz hP hS hl
  have hE : Q = _ := hE
  subst hE
  refine W.widen (k := mc) (n := ms) hm.1 hm.2 ?_
  exact W.vret hx hb hr (fun t ht hW => ⟨⟨(), rfl, trivial, by rw [ht]; exact hz, by show va_P _ _ _ _; rw [ht]; exact hP⟩, hS.F ht⟩) hS.2.2 hd hlk
theorem B_new {G : Gb} {E : EE} {h : Nat} {cc : ByteArray} {own : String} {ret : Option FieldType} {R : Room} {nL : Nat} (X : Cb G E h cc own ret R nL) {k n pc : Nat} {lv : List (Nat × Value)} {st : List Value} {es : List va_E} {index ci N m9 : Nat} {C : String} {T : u_T} (hc : vwCl[ci]? = some (C, T, N)) (hin : ∀ w ∈ u_ws C T N, w ∈ TT) (ty : Nat → FieldType) (hty : ∀ k, k < N → parseFieldDescriptor (T k).2.2.1 = some (ty k)) (hcl : Cond.classLink own index C ∈ TT) (hinst : Cond.instantiable C N ∈ TT) (hini : Cond.initialized C ∈ TT) {fs : List Value} (hfs : ∀ j, j < N → defaultValue (ty j) = vp_V fs j) (hm : es.length = m9) (hd : decode cc pc = .ok (.new index, 3)) (hroom : k + 1 ≤ R.cells ∧ n + N ≤ R.slots) (kk : BV G E h (k + 1) (n + N) (pc + 3) lv (.ref (h + m9) :: st) (es ++ [.inr (ci, fs)])) : BV G E h k n pc lv st es := by
  obtain ⟨p, e, R', s, m, args, below, meth, c, Q, nL'⟩ := E
  obtain ⟨hx, hb, hml, hown, hts, hr, hlk, hK, hN, rfl, rfl, hsz⟩ := X
  intro H locs ls hz hP hS hl
  have hKn := hK.1 ci _ hc
  have hin' : ∀ w ∈ u_ws C T N, w ∈ TT := hin
  refine W.newcK hx hb hown (hts _ hcl) (hts _ hinst) (hts _ hini) rfl hd hroom.1 hroom.2 hKn.2.1 rfl fun H1 kC hkC e1 z1 o1 => ?_
  rw [show H.size = h + m9 from by rw [hz, hm]] at z1 o1 e1 ⊢
  refine kk H1 locs ls (by rw [z1, List.length_append, List.length_singleton, hm]; omega) (blk_app (b := []) (by rw [List.append_nil]; exact hP) (fun q hq => o1 q (by omega)) (fun j x hj => ?_)) ⟨Nat.le_trans hS.1 (by rw [hz, z1, hm]; omega), fun x h1 h2 => (o1 x (by have := hS.1; omega)).trans (hS.2.1 x h1 h2), hS.2.2⟩ hl
  obtain ⟨e9, he, rfl⟩ := blk_get hj
  have hz0 : j < 1 := (List.getElem?_eq_some_iff.mp he).1
  rw [show j = 0 by omega] at he ⊢
  cases he
  rw [hm, Nat.add_zero]
  exact ⟨_, hc, (u_born ty hts hin hKn hkC e1 hty).to hfs⟩
theorem B_newa {G : Gb} {E : EE} {h : Nat} {cc : ByteArray} {own : String} {ret : Option FieldType} {R : Room} {nL : Nat} (X : Cb G E h cc own ret R nL) {k n pc : Nat} {lv : List (Nat × Value)} {st : List Value} {es : List va_E} {atype : ArrayType} {ty : FieldType} (t : Nat) {a : Int} {N9 m9 : Nat} {a0 : vp_A} (hty : newarray.typeOf atype = ty) (ht : (tyL G.2.2)[t]? = some (G.2.2 t, ty)) (hRA : ∀ (U : State) (cA : ClassId), va_RA U cA ty → U.vm.findClass ("[" ++ ty.toString) = some cA) (harr : Cond.arrayClass ty ∈ TT) (ha : ∀ cA : ClassId, vp_cell cA a0 = arrV cA N9 (fun _ => defaultValue ty)) (hn : 0 ≤ wr a) (hN9 : (wr a).toNat = N9) (hby : N9 * componentBytes ty ≤ 536870912) (hm : es.length = m9) (hd : decode cc pc = .ok (.newarray atype, 2)) (hroom : k + 1 ≤ R.cells ∧ n + N9 ≤ R.slots) (kk : BV G E h (k + 1) (n + N9) (pc + 2) lv (.ref (h + m9) :: st) (es ++ [.inl (G.2.2 t, a0)])) : BV G E h k n pc lv (vi a :: st) es := by
  obtain ⟨p, e, R', s, m, args, below, meth, c, Q, nL'⟩ := E
  obtain ⟨hx, hb, hml, hown, hts, hr, hlk, hK, hN, rfl, rfl, hsz⟩ := X
  intro H locs ls hz hP hS hl
  subst hty
  have hA := hK.2 t _ ht
  refine va_newaK hx hb (hts _ harr) rfl hd rfl (by rw [lt_of32z]; omega) ((cl_of a).trans hN9) hby hroom.1 hroom.2 rfl fun H1 cA e1 z1 o1 hAr hNm => ?_
  have hc : cA = G.2.2 t := Option.some.inj (hNm.symm.trans (hRA _ _ hA.2))
  subst hc
  rw [show H.size = h + m9 from by rw [hz, hm]] at z1 o1 e1 ⊢
  refine kk H1 locs ls (by rw [z1, List.length_append, List.length_singleton, hm]; omega) (blk_app (b := []) (by rw [List.append_nil]; exact hP) (fun q hq => o1 q (by omega)) (fun j x hj => ?_)) ⟨Nat.le_trans hS.1 (by rw [hz, z1, hm]; omega), fun x h1 h2 => (o1 x (by have := hS.1; omega)).trans (hS.2.1 x h1 h2), hS.2.2⟩ hl
  obtain ⟨e9, he, rfl⟩ := blk_get hj
  have hz0 : j < 1 := (List.getElem?_eq_some_iff.mp he).1
  rw [show j = 0 by omega] at he ⊢
  cases he
  rw [hm, Nat.add_zero]
  show H1[h + m9]? = some (vp_cell _ a0)
  rw [ha]
  exact e1
theorem B_newaE {G : Gb} {E : EE} {h : Nat} {cc : ByteArray} {own : String} {ret : Option FieldType} {R : Room} {nL : Nat} (X : Cb G E h cc own ret R nL) {k n pc : Nat} {lv : List (Nat × Value)} {st : List Value} {es : List va_E} {atype : ArrayType} {ty : FieldType} (t : Nat) {a : Int} {N9 m9 : Nat} {a0 : vp_A} {es' : List va_E} (hty : newarray.typeOf atype = ty) (ht : (tyL G.2.2)[t]? = some (G.2.2 t, ty)) (hRA : ∀ (U : State) (cA : ClassId), va_RA U cA ty → U.vm.findClass ("[" ++ ty.toString) = some cA) (harr : Cond.arrayClass ty ∈ TT) (ha : ∀ cA : ClassId, vp_cell cA a0 = arrV cA N9 (fun _ => defaultValue ty)) (hn : 0 ≤ wr a) (hN9 : (wr a).toNat = N9) (hby : N9 * componentBytes ty ≤ 536870912) (hm : es.length = m9) (hd : decode cc pc = .ok (.newarray atype, 2)) (hroom : k + 1 ≤ R.cells ∧ n + N9 ≤ R.slots) (hes : es ++ [.inl (G.2.2 t, a0)] = es') (kk : BV G E h (k + 1) (n + N9) (pc + 2) lv (.ref (h + m9) :: st) es') : BV G E h k n pc lv (vi a :: st) es := by
  subst hes
  exact B_newa X t hty ht hRA harr ha hn hN9 hby hm hd hroom kk
theorem B_putF {G : Gb} {E : EE} {h : Nat} {cc : ByteArray} {own : String} {ret : Option FieldType} {R : Room} {nL : Nat} (X : Cb G E h cc own ret R nL) {k n pc : Nat} {lv : List (Nat × Value)} {st : List Value} (hI : IN E) {index ci N : Nat} {T : u_T} {fs fs' : List Value} {rest : List va_E} (hc : vwCl[ci]? = some (own, T, N)) (hin : ∀ w ∈ u_ws own T N, w ∈ TT) (kf : Nat) (hk : kf < N) (hlink : Cond.fieldLink own index (T kf).1 (T kf).2.1 (T kf).2.2.1 ∈ TT) (ty0 : Nat → FieldType) (hty : ∀ k, k < N → parseFieldDescriptor (T k).2.2.1 = some (ty0 k)) (hnm : ∀ a, a < N → ∀ b, b < N → a ≠ b → (T a).2.1 ≠ (T b).2.1) (hfin : (T kf).2.2.2 = true) (hdecl : (T kf).1 = own) {ty : FieldType} {v : Value} (htk : parseFieldDescriptor (T kf).2.2.1 = some ty) (hnv : narrow ty v = v) (hfit : fits ty v = true) (hlen : kf < fs.length) (hfs : fs.set kf v = fs') (hd : decode cc pc = .ok (.putfield index, 3)) (kk : BV G E h k n (pc + 3) lv st (.inr (ci, fs') :: rest)) : BV G E h k n pc lv (v :: .ref h :: st) (.inr (ci, fs) :: rest) := by
  obtain ⟨p, e, R', s, m, args, below, meth, c, Q, nL'⟩ := E
  obtain ⟨hx, hb, hml, hown, hts, hr, hlk, hK, hN, rfl, rfl, hsz⟩ := X
  intro H locs ls hz hP hS hl
  have hI : meth.name = "<init>" := hI
  have h0 : (blk h (.inr (ci, fs) :: rest))[0]? = some (h, .inr (ci, fs)) := blk_at (i := 0) rfl
  have hap := va_apart (own := own) hts hin ty0 hty hnm hK hc
  obtain ⟨r, h1, cell9, q1, q2, q3, q4⟩ := hP 0 _ h0
  have hr9 : r = (own, T, N) := Option.some.inj (h1.symm.trans hc)
  subst hr9
  obtain ⟨hS9, hfc, kC, hkC, hkind⟩ := hK.1 ci _ hc
  obtain ⟨cf, kf9, fi, f, hi, hsl⟩ := hS9 kf hk
  have hlay := hts _ (hin _ (u_in_lay hk))
  unfold u_lay at hlay
  rw [if_pos hfin] at hlay
  have hst := (u_facts hfc hkC (u_lays hts hin hk) hi).1
  have hcf : m.cls = cf := by
    obtain ⟨_, _, c', _, _, _, -, -, hf', -, -, -, hown2, -⟩ := Cond.laysFinal_spec hlay
    have e1 : c' = cf := by have := hi.symm.trans hf'; simp at this; exact this.1.symm
    rw [hdecl] at hown2
    rw [← e1]; exact Option.some.inj (hown.symm.trans hown2)
  have h6 := u_fits hfc hkC hkind (Or.inr hlay) hi htk hnv hfit
  refine W.putFinK hx hb hown (hts _ hlink) hi hst hcf hI (by rw [q2]; exact h6) q1 q3 (by rw [hsl]; exact k2_hasslot (q4 kf hk)) rfl rfl hd fun H1 e1 e2 e3 => ?_
  rw [hsl] at e1 ⊢
  have hP1 : va_P G.2.1 vwCl ((blk h (.inr (ci, fs) :: rest)).set 0 (h, .inr (ci, fs.set kf v))) H1 := hP.set (blk_D h _) h0 ⟨_, hc, t_OB.to (V := updV (vp_V fs) kf v) ⟨_, e1, q2, q3, t_set q4 hap hk v⟩ (fun j _ => vp_updV_set hlen v j)⟩ e3
  rw [blk_set, hfs] at hP1
  exact kk H1 _ ls (by rw [e2, hz]; rfl) hP1 (hS.put e2 e3 (Nat.le_refl h)) hl
theorem B_getF {G : Gb} {E : EE} {h : Nat} {cc : ByteArray} {own : String} {ret : Option FieldType} {R : Room} {nL : Nat} (X : Cb G E h cc own ret R nL) {k n pc : Nat} {lv : List (Nat × Value)} {st : List Value} {index ci N : Nat} {C : String} {T : u_T} {es : List va_E} {fs : List Value} {v : Value} (hes : es[0]? = some (.inr (ci, fs))) (hc : vwCl[ci]? = some (C, T, N)) (hin : ∀ w ∈ u_ws C T N, w ∈ TT) (kf : Nat) (hk : kf < N) (hlink : Cond.fieldLink own index (T kf).1 (T kf).2.1 (T kf).2.2.1 ∈ TT) (hv : fs[kf]? = some v) (hd : decode cc pc = .ok (.getfield index, 3)) (kk : BV G E h k n (pc + 3) lv (v :: st) es) : BV G E h k n pc lv (.ref h :: st) es := by
  obtain ⟨p, e, R', s, m, args, below, meth, c, Q, nL'⟩ := E
  obtain ⟨hx, hb, hml, hown, hts, hr, hlk, hK, hN, rfl, rfl, hsz⟩ := X
  intro H locs ls hz hP hS hl
  have h0 : (blk h es)[0]? = some (h, .inr (ci, fs)) := blk_at (i := 0) hes
  exact va_get hx hb hts hin hown hK hP 0 h0 hc kf hk (hts _ hlink) (fun _ q => q) hv hd (kk H locs ls hz hP hS hl)
theorem B_call {G : Gb} {E : EE} {h : Nat} {cc : ByteArray} {own : String} {ret : Option FieldType} {R : Room} {nL : Nat} (X : Cb G E h cc own ret R nL) {k n pc : Nat} {lv : List (Nat × Value)} (es : List va_E) {e0 : va_E} {esK : List va_E} {index maxL m9 c9 s9 : Nat} {y : MethodName} {bytes : ByteArray} {rm : Room} (As rest : List Value) (nA : Nat) (hM : MBc G y bytes maxL rm (h + m9) As e0 esK) (hcode : Cond.code y bytes maxL none ∈ TT) (hini : Cond.initialized y.cls ∈ TT) (hli : Cond.methodLink own index y ∈ TT) (hinst : Cond.instanceMethod y ∈ TT) (hy1 : y.name = "<init>") (hd : decode cc pc = .ok (.invokespecial index, 3)) (hy : y.cls ≠ "java/lang/invoke/MethodHandle" ∧ y.cls ≠ "java/lang/invoke/VarHandle" ∧ (parseMethodDescriptor y.desc).map (fun d => d.parameters.length) = some nA) (hR : rm.frames + 1 ≤ R.frames ∧ 8 + (maxL + 11) + rm.locals ≤ R.locals) (hrm : rm.cells = c9 ∧ rm.slots = s9) (hn : As.length = nA) (hcat : (rest.map fun v => v.category).sum ≤ 8) (hm : es.length = m9) (hroom : k + c9 ≤ R.cells ∧ n + s9 ≤ R.slots) (kk : BV G E h (k + c9) (n + s9) (pc + 3) lv rest (es ++ esK)) : BV G E h k n pc lv (As.reverse ++ .ref (h + m9) :: rest) (es ++ [e0]) := by
  obtain ⟨p, e, R', s, m, args, below, meth, c, Q, nL'⟩ := E
  obtain ⟨hx, hb, hml, hown, hts, hr, hlk, hK, hN, rfl, rfl, hsz⟩ := X
  intro H locs ls hz hP hS hl
  have hH : H.size = h + m9 + 1 := by rw [hz, List.length_append, List.length_singleton, hm]; omega
  have hPe : va_P G.2.1 vwCl (blk (h + m9) [e0]) H := by
    intro j x hj
    obtain ⟨e9, he, rfl⟩ := blk_get hj
    have hz0 : j < 1 := (List.getElem?_eq_some_iff.mp he).1
    rw [show j = 0 by omega] at he ⊢
    have h1 := hP es.length _ (blk_at (h := h) (es := es ++ [e0]) (by rw [List.getElem?_append_right (Nat.le_refl _), Nat.sub_self]; exact he))
    rw [hm] at h1
    exact h1
  obtain ⟨rfl, rfl⟩ := hrm
  refine va_callv (va_runI (As := As) (rest := rest) ⟨hx, hb, hml, hown, hts⟩ hM ⟨callB_of nA hts (good_ws hcode) rfl rfl rfl (hts _ hini) (hts _ hli) hy hR, hy1, hts _ hinst⟩ ⟨PB_blind, fun U hU hW => ⟨rfl, by rw [hU]; exact hH, by rw [hU]; exact hPe, va_K.moved hW.alike hK, NW_warm hW hN⟩⟩ rfl hn hl.1 rfl (lv_room hcat) hd hroom) hS (fun q _ hq => by have hq : h + m9 ≤ q := hq; show h ≤ q; omega) (fun q hq => by have hq : h + m9 ≤ q := hq; show h ≤ q; omega) (fun u t H1 locs1 ht hvm hw hB hz1 hk1 hS1 => ?_)
  obtain ⟨b1, b2⟩ := hB
  rw [ht] at b1 b2
  refine kk H1 locs1 ls (by rw [b1, List.length_append, hm]; omega) (blk_app hP (fun q hq => hk1 q (by omega) (fun z => by have z : h + m9 ≤ q := z; omega)) (by rw [hm]; exact b2)) hS1 hl
theorem B_callN {G : Gb} {E : EE} {h : Nat} {cc : ByteArray} {own : String} {ret : Option FieldType} {R : Room} {nL : Nat} (X : Cb G E h cc own ret R nL) {k n pc : Nat} {lv : List (Nat × Value)} {host : String} (es : List va_E) {e0 : va_E} {esK : List va_E} {index maxL m9 c9 s9 : Nat} {y : MethodName} {bytes : ByteArray} {rm : Room} (As rest : List Value) (nA : Nat) (hM : MBc G y bytes maxL rm (h + m9) As e0 esK) (hcode : Cond.code y bytes maxL none ∈ TT) (hini : Cond.initialized y.cls ∈ TT) (hli : Cond.methodLinkNest own index y host ∈ NT) (hinst : Cond.instanceMethod y ∈ TT) (hy1 : y.name = "<init>") (hd : decode cc pc = .ok (.invokespecial index, 3)) (hy : y.cls ≠ "java/lang/invoke/MethodHandle" ∧ y.cls ≠ "java/lang/invoke/VarHandle" ∧ (parseMethodDescriptor y.desc).map (fun d => d.parameters.length) = some nA) (hR : rm.frames + 1 ≤ R.frames ∧ 8 + (maxL + 11) + rm.locals ≤ R.locals) (hrm : rm.cells = c9 ∧ rm.slots = s9) (hn : As.length = nA) (hcat : (rest.map fun v => v.category).sum ≤ 8) (hm : es.length = m9) (hroom : k + c9 ≤ R.cells ∧ n + s9 ≤ R.slots) (kk : BV G E h (k + c9) (n + s9) (pc + 3) lv rest (es ++ esK)) : BV G E h k n pc lv (As.reverse ++ .ref (h + m9) :: rest) (es ++ [e0]) := by
  obtain ⟨p, e, R', s, m, args, below, meth, c, Q, nL'⟩ := E
  obtain ⟨hx, hb, hml, hown, hts, hr, hlk, hK, hN, rfl, rfl, hsz⟩ := X
  intro H locs ls hz hP hS hl
  have hH : H.size = h + m9 + 1 := by rw [hz, List.length_append, List.length_singleton, hm]; omega
  have hPe : va_P G.2.1 vwCl (blk (h + m9) [e0]) H := by
    intro j x hj
    obtain ⟨e9, he, rfl⟩ := blk_get hj
    have hz0 : j < 1 := (List.getElem?_eq_some_iff.mp he).1
    rw [show j = 0 by omega] at he ⊢
    have h1 := hP es.length _ (blk_at (h := h) (es := es ++ [e0]) (by rw [List.getElem?_append_right (Nat.le_refl _), Nat.sub_self]; exact he))
    rw [hm] at h1
    exact h1
  obtain ⟨rfl, rfl⟩ := hrm
  refine va_callv (va_runIN (As := As) (rest := rest) ⟨hx, hb, hml, hown, hts⟩ hM ⟨va_cnB nA hts (good_ws hcode) rfl rfl rfl (hN _ hli) (hts _ hini) hy hR, hy1, hts _ hinst⟩ ⟨PB_blind, fun U hU hW => ⟨rfl, by rw [hU]; exact hH, by rw [hU]; exact hPe, va_K.moved hW.alike hK, NW_warm hW hN⟩⟩ rfl hn hl.1 rfl (lv_room hcat) hd hroom) hS (fun q _ hq => by have hq : h + m9 ≤ q := hq; show h ≤ q; omega) (fun q hq => by have hq : h + m9 ≤ q := hq; show h ≤ q; omega) (fun u t H1 locs1 ht hvm hw hB hz1 hk1 hS1 => ?_)
  obtain ⟨b1, b2⟩ := hB
  rw [ht] at b1 b2
  refine kk H1 locs1 ls (by rw [b1, List.length_append, hm]; omega) (blk_app hP (fun q hq => hk1 q (by omega) (fun z => by have z : h + m9 ≤ q := z; omega)) (by rw [hm]; exact b2)) hS1 hl
