/-! THE LAW'S WRAPPERS: methods with a table of handlers, that call a method that may throw and catch all of it *)-/
def NCs (U : State) : Prop := ∀ a b : Nat, 0 < a → a < 7 → 0 < b → b < 7 → a ≠ b → va_Nc (excN a) (excN b) U
def PWr (G : GG) (sz : Nat) (w : WS) (U : State) : Prop := PX G sz w U ∧ NCs U
theorem NCs_moved {u U : State} (hvm : u.vm.Alike U.vm) (h : NCs u) : NCs U := fun a b h1 h2 h3 h4 h5 => va_Nc.moved hvm (h a b h1 h2 h3 h4 h5)
theorem PWr_blind {G : GG} {As : List Value} {sz : Nat} {w : WS} : FrameBlind (va_Pc As (PWr G sz w)) := by
  intro a U g mk h
  obtain ⟨h0, h1, h2⟩ := h
  exact ⟨h0, (PX_blind (G := G) (As := As) (sz := sz) (w := w) a U g mk ⟨h0, h1⟩).2, NCs_moved (u := U) (U := U.calling g mk a) (Vm.Alike.refl U.vm) h2⟩
def CW (G : GG) (E : EE) (cc : ByteArray) (own : String) (ret : Option FieldType) (R : Room) (nL : Nat) (hh : List (Nat × Nat × Nat × Nat)) : Prop := Cx G E cc own ret R nL ∧ match E with
  | (p, e, R', s, m, args, below, meth, c, Q, nL') => TXs G s.heap.size s ∧ NCs s ∧ c.exceptionTable.toList = tableOf hh
def XN (G : GG) (sz : Nat) : String → State → State → Prop := vx_X (fun (_ : Unit) => False) (fun _ _ _ => True) (FAd G.2.2.2 sz)
def EndW (G : GG) (E : EE) (q : Int × WS) (mc ms : Nat) : Prop := match E with
  | (p, e, R, s, m, args, below, meth, c, Q, nL) => Q = vx_MQ below (QI G q s.heap.size) (XN G s.heap.size) args s mc ms (FAd G.2.2.2 s.heap.size)
def MW (G : GG) (y : MethodName) (bytes : ByteArray) (maxL : Nat) (ret : Option FieldType) (hh : List (Nat × Nat × Nat × Nat)) (rm : Room) (As : List Value) (w : WS) (q : Int × WS) : Prop := ∀ sz : Nat, vx_Met G.1 y (.codeWith y bytes maxL ret hh :: TT) rm (va_Pc As (PWr G sz w)) (QI G q sz) (XN G sz) rm.cells rm.slots (FAd G.2.2.2 sz)
theorem MW_of {G : GG} {y : MethodName} {bytes : ByteArray} {maxL : Nat} {ret : Option FieldType} {hh : List (Nat × Nat × Nat × Nat)} {rm : Room} {As : List Value} {w : WS} {q : Int × WS} (hy : plainName y.cls = true) (hlen : (lg_sl As).length ≤ maxL) (body : ∀ E : EE, CW G E bytes y.cls ret rm maxL hh → EndW G E q rm.cells rm.slots → VV G E 0 0 0 (lv_args 0 As) [] w) : MW G y bytes maxL ret hh rm As w q := by
  intro sz
  refine vx_ofWH (cc := bytes) (maxL := maxL) (ret := ret) (hh := hh) hy rfl ?_
  intro p e s m args below meth c s₁ B hml hv
  obtain ⟨rfl, ⟨⟨hsz, hP, hK, hI, hN⟩, hT⟩, hC⟩ := hv
  subst hsz
  have hts := atoms_spec (ws := .codeWith y bytes maxL ret hh :: TT) B.pre
  have htab := vx_table (x := y) B (hts _ List.mem_cons_self)
  rw [lg_entry_eq]
  have hl := lv_entry As (n := maxL) hlen
  exact body (p, e, rm, s, m, As.toArray, below, meth, c, _, maxL) ⟨⟨B.exec, B.bytes, hml, findClass_of_methodNamed B.named, fun w hw => hts w (List.mem_cons_of_mem _ hw), B.returns, B.notSynchronized, hK, hI, hN, rfl, rfl⟩, hT, hC, htab⟩ rfl s.heap [] _ hP va_S.rf hl
theorem V_iretW {G : GG} {E : EE} {cc : ByteArray} {own : String} {R : Room} {nL : Nat} {hh : List (Nat × Nat × Nat × Nat)} (X : CW G E cc own (some .int) R nL hh) {k n pc : Nat} {lv : List (Nat × Value)} {w : WS} {q : Int × WS} {mc ms : Nat} (hE : EndW G E q mc ms) {a : Int} (hd : decode cc pc = .ok (.ireturn, 1)) (hm : k ≤ mc ∧ n ≤ ms) (hf : some (a, w) = some q) : VV G E k n pc lv [vi a] w := by
  obtain ⟨p, e, R', s, m, args, below, meth, c, Q, nL'⟩ := E
  obtain ⟨⟨hx, hb, hml, hown, hts, hr, hlk, hK, hI, hN, rfl, rfl⟩, hT, hC, htab⟩ := X
  intro H locs ls hP hS hl
  cases hf
  have hE : Q = _ := hE
  subst hE
  refine W.widen (k := mc) (n := ms) hm.1 hm.2 ?_
  exact vx_ret (W.iret hx hb hr (fun t ht hW => ⟨⟨_, (), rfl, rfl, by show va_P _ _ _ _; rw [ht]; exact hP⟩, hS.F ht⟩) hS.2.2 hd hlk)
theorem V_wVI {G : GG} {E : EE} {cc : ByteArray} {own : String} {ret : Option FieldType} {R : Room} {nL : Nat} {hh : List (Nat × Nat × Nat × Nat)} (X : CW G E cc own ret R nL hh) {k n pc : Nat} {lv : List (Nat × Value)} {w : WS} {i c : Nat} {C : String} {T : u_T} {N : Nat} {index maxL : Nat} {y : MethodName} {bytes : ByteArray} {ret9 : Option FieldType} {rm : Room} {F : Option (Nat × Int × WS)} {K : Int → WS → Option (Int × WS)} {Kx : Nat → WS → Option (Int × WS)} {q0 : Int × WS} (hf : oc F K Kx = some q0) (As rest : List Value) (nA : Nat) (hM : ∀ q, F = some q → MXI G y bytes maxL ret9 rm (gr G i :: As) w q) (hi : i < NC ∧ ck i = .inl c) (hcl : vwCl[c]? = some (C, T, N)) (hcode : Cond.code y bytes maxL ret9 ∈ TT) (hini : Cond.initialized y.cls ∈ TT) (hli : Cond.methodLink own index y ∈ TT) (hinst : Cond.instanceMethod y ∈ TT) (hsel : Cond.selects C y y ∈ TT) (hd : decode cc pc = .ok (.invokevirtual index, 3)) (hy : y.cls ≠ "java/lang/invoke/MethodHandle" ∧ y.cls ≠ "java/lang/invoke/VarHandle" ∧ (parseMethodDescriptor y.desc).map (fun d => d.parameters.length) = some nA) (hR : rm.frames + 1 ≤ R.frames ∧ 8 + (maxL + 11) + rm.locals ≤ R.locals) (hn : As.length = nA) (hcat : (rest.map fun v => v.category).sum ≤ 8) (hroom : k + rm.cells ≤ R.cells ∧ n + rm.slots ≤ R.slots)
    (kx : ∀ (t : Nat) (w1 : WS), t ≠ 0 → Kx t w1 = some q0 → ∃ (pre suf : List (Nat × Nat × Nat × Nat)) (x : Nat × Nat × Nat × Nat), hh = pre ++ x :: suf ∧ (∀ z ∈ pre, z.2.2.2 ≠ 0 ∧ ∃ b, Cond.classLink own z.2.2.2 (excN b) ∈ TT ∧ 0 < b ∧ b < 7 ∧ t ≠ b) ∧ t < 7 ∧ covers ⟨x.1, x.2.1, x.2.2.1, x.2.2.2⟩ pc = true ∧ x.2.2.2 ≠ 0 ∧ Cond.classLink own x.2.2.2 (excN t) ∈ TT ∧ Cond.castable (excN t) (excN t) ∈ NT ∧ ∀ a9 : Nat, VV G E (k + rm.cells) (n + rm.slots) x.2.2.1 lv [.ref a9] w1)
    (kk : ∀ (r : Int) (w1 : WS), K r w1 = some q0 → VV G E (k + rm.cells) (n + rm.slots) (pc + 3) lv (vi r :: rest) w1) : VV G E k n pc lv (As.reverse ++ gr G i :: rest) w := by
  obtain ⟨p, e, R', s, m, args, below, meth, c, Q, nL'⟩ := E
  obtain ⟨⟨hx, hb, hml, hown, hts, hr, hlk, hK, hI, hN, rfl, rfl⟩, hT, hC, htab⟩ := X
  intro H locs ls hP hS hl
  obtain ⟨q9, hq, hf⟩ := ocnd hf
  refine vx_calli (vx_runV (As := As) (rest := rest) ⟨hx, hb, hml, hown, hts⟩ (hM q9 hq H.size) ⟨callB_of nA hts (good_ws hcode) rfl rfl rfl (hts _ hini) (hts _ hli) hy hR, hts _ hinst, hts _ hsel⟩ ⟨PX_blind, va_recv hK hP hcl (WL_obj hi.1 hi.2), fun U hU hW => ⟨rfl, PW_call hP hK hI hN hU hW, TX_call hT hS hU hW⟩⟩ rfl hn hl.1 rfl (lv_room hcat) hd ⟨hroom.1, hroom.2⟩) hS (fun q _ h => FAd_mono hS.1 q h) (fun q h => FAd_mono hS.1 q h) (fun q _ h => FAd_mono hS.1 q h) (fun E9 ce9 a9 u9 t9 H1 locs1 ht hvm hp9 hB hz1 hk1 hS1 hc1 hc2 hc3 => ?_) (fun r9 u9 t9 H1 locs1 ht hvm hw9 hB hz1 hk1 hS1 => ?_)
  · rw [if_neg hp9] at hf
    obtain ⟨pre, suf, x, e1, e2, e3, e4, e5, e6, e7, e8⟩ := kx q9.1 q9.2.2 hp9 hf
    have hP1 : va_P G.2.1 vwCl (WL G.2.2.1 G.2.2.2 q9.2.2) H1 := by rw [← ht]; exact hB.2
    obtain ⟨hE9, -⟩ := hB
    subst hE9
    refine vx_catch hown (tableOf pre) ⟨x.1, x.2.1, x.2.2.1, x.2.2.2⟩ (tableOf suf) (by rw [htab, e1]; unfold tableOf; rw [List.map_append]; rfl) (fun z hz => ?_) e4 e5 (hts _ e6) (va_Nw.use rfl (hN _ e7)) hc1 hc2 hc3 (e8 a9 H1 locs1 ls hP1 hS1 hl)
    obtain ⟨z0, hz0, rfl⟩ := List.mem_map.mp hz
    obtain ⟨g1, b, g2, g3, g4, g5⟩ := e2 z0 hz0
    exact Or.inr ⟨g1, excN b, hts _ g2, hC q9.1 b (Nat.pos_of_ne_zero hp9) e3 g3 g4 g5⟩
  · obtain ⟨hz9, rfl⟩ := hw9
    rw [if_pos hz9] at hf
    have hP1 : va_P G.2.1 vwCl (WL G.2.2.1 G.2.2.2 q9.2.2) H1 := by rw [← ht]; exact hB
    exact kk q9.2.1 q9.2.2 hf H1 locs1 ls hP1 hS1 hl
