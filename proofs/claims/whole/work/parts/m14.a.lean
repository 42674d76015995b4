/-! floats on the machine: rows, contracts, calls-/
theorem nn32 {x : UInt32} (h : (!FP.fIsNaN x) = true) : vf_n32 x := by
  unfold vf_n32
  rw [UInt32.le_iff_toNat_le, UInt32.toNat_and]
  have h1 : (0x7fffffff : UInt32).toNat = 2 ^ 31 - 1 := by decide
  have h2 : (0x7f800000 : UInt32).toNat = 2139095040 := by decide
  rw [h1, h2, Nat.and_two_pow_sub_one_eq_mod]
  have h3 : ¬ FP.Core.fIsNaN x = true := by
    intro q
    have q : FP.fIsNaN x = true := q
    rw [q] at h
    exact absurd h (by decide)
  rw [FP.Core.isNaN_bits32] at h3
  omega
theorem nn64 {x : UInt64} (h : (!FP.dIsNaN x) = true) : vf_n64 x := by
  unfold vf_n64
  rw [UInt64.le_iff_toNat_le, UInt64.toNat_and]
  have h1 : (0x7fffffffffffffff : UInt64).toNat = 2 ^ 63 - 1 := by decide
  have h2 : (0x7ff0000000000000 : UInt64).toNat = 9218868437227405312 := by decide
  rw [h1, h2, Nat.and_two_pow_sub_one_eq_mod]
  have h3 : ¬ FP.Core.dIsNaN x = true := by
    intro q
    have q : FP.dIsNaN x = true := q
    rw [q] at h
    exact absurd h (by decide)
  rw [FP.Core.isNaN_bits] at h3
  omega
theorem vf_fB (a : Int) : vf a = .float (fB a) := rfl
theorem vd_dB (a : Int) : vd a = .double (dB a) := rfl
theorem V_fconst0 {G : GG} {E : EE} {cc : ByteArray} {own : String} {ret : Option FieldType} {R : Room} {nL : Nat} (X : Cx G E cc own ret R nL) {k n pc : Nat} {lv : List (Nat × Value)} {st : List Value} {w : WS}  (hd : decode cc pc = .ok (.fconst 0, 1)) (kk : VV G E k n (pc + 1) lv (vf 0 :: st) w) : VV G E k n pc lv st w := by
  obtain ⟨p, e, R', s, m, args, below, meth, c, Q, nL'⟩ := E
  obtain ⟨hx, hb, hml, hown, hts, hr, hlk, hK, hI, hN, rfl, rfl⟩ := X
  intro H locs ls hP hS hl
  refine lv_fconst0 hx hb hd ?_
  exact kk H locs ls hP hS hl
theorem V_i2f {G : GG} {E : EE} {cc : ByteArray} {own : String} {ret : Option FieldType} {R : Room} {nL : Nat} (X : Cx G E cc own ret R nL) {k n pc : Nat} {lv : List (Nat × Value)} {st : List Value} {w : WS} {a : Int} (hd : decode cc pc = .ok (.i2f, 1)) (kk : VV G E k n (pc + 1) lv (vf (i2fI a) :: st) w) : VV G E k n pc lv (vi a :: st) w := by
  obtain ⟨p, e, R', s, m, args, below, meth, c, Q, nL'⟩ := E
  obtain ⟨hx, hb, hml, hown, hts, hr, hlk, hK, hI, hN, rfl, rfl⟩ := X
  intro H locs ls hP hS hl
  refine lv_i2f hx hb hd ?_
  have e : vf (i2fI a) = .float (FP.i2f (Int32.ofInt a)) := by rw [vf_fB]; unfold i2fI; rw [fB_n]
  rw [← e]
  exact kk H locs ls hP hS hl
theorem V_fdiv {G : GG} {E : EE} {cc : ByteArray} {own : String} {ret : Option FieldType} {R : Room} {nL : Nat} (X : Cx G E cc own ret R nL) {k n pc : Nat} {lv : List (Nat × Value)} {st : List Value} {w : WS} {a b : Int} (hd : decode cc pc = .ok (.fdiv, 1)) (hne : okF (fdI a b) = true) (kk : VV G E k n (pc + 1) lv (vf (fdI a b) :: st) w) : VV G E k n pc lv (vf b :: vf a :: st) w := by
  obtain ⟨p, e, R', s, m, args, below, meth, c, Q, nL'⟩ := E
  obtain ⟨hx, hb, hml, hown, hts, hr, hlk, hK, hI, hN, rfl, rfl⟩ := X
  intro H locs ls hP hS hl
  unfold okF fdI at hne
  rw [fB_n] at hne
  refine lv_fdiv hx hb hd (nn32 hne) ?_
  have e : vf (fdI a b) = .float (FP.fdiv (fB a) (fB b)) := by rw [vf_fB]; unfold fdI; rw [fB_n]
  rw [e] at kk
  exact kk H locs ls hP hS hl
theorem V_dconst0 {G : GG} {E : EE} {cc : ByteArray} {own : String} {ret : Option FieldType} {R : Room} {nL : Nat} (X : Cx G E cc own ret R nL) {k n pc : Nat} {lv : List (Nat × Value)} {st : List Value} {w : WS}  (hd : decode cc pc = .ok (.dconst 0, 1)) (kk : VV G E k n (pc + 1) lv (vd 0 :: st) w) : VV G E k n pc lv st w := by
  obtain ⟨p, e, R', s, m, args, below, meth, c, Q, nL'⟩ := E
  obtain ⟨hx, hb, hml, hown, hts, hr, hlk, hK, hI, hN, rfl, rfl⟩ := X
  intro H locs ls hP hS hl
  refine lv_dconst0 hx hb hd ?_
  exact kk H locs ls hP hS hl
theorem V_i2d {G : GG} {E : EE} {cc : ByteArray} {own : String} {ret : Option FieldType} {R : Room} {nL : Nat} (X : Cx G E cc own ret R nL) {k n pc : Nat} {lv : List (Nat × Value)} {st : List Value} {w : WS} {a : Int} (hd : decode cc pc = .ok (.i2d, 1)) (kk : VV G E k n (pc + 1) lv (vd (i2dI a) :: st) w) : VV G E k n pc lv (vi a :: st) w := by
  obtain ⟨p, e, R', s, m, args, below, meth, c, Q, nL'⟩ := E
  obtain ⟨hx, hb, hml, hown, hts, hr, hlk, hK, hI, hN, rfl, rfl⟩ := X
  intro H locs ls hP hS hl
  refine lv_i2d hx hb hd ?_
  have e : vd (i2dI a) = .double (FP.i2d (Int32.ofInt a)) := by rw [vd_dB]; unfold i2dI; rw [dB_n]
  rw [← e]
  exact kk H locs ls hP hS hl
theorem V_ddiv {G : GG} {E : EE} {cc : ByteArray} {own : String} {ret : Option FieldType} {R : Room} {nL : Nat} (X : Cx G E cc own ret R nL) {k n pc : Nat} {lv : List (Nat × Value)} {st : List Value} {w : WS} {a b : Int} (hd : decode cc pc = .ok (.ddiv, 1)) (hne : okD (ddI a b) = true) (kk : VV G E k n (pc + 1) lv (vd (ddI a b) :: st) w) : VV G E k n pc lv (vd b :: vd a :: st) w := by
  obtain ⟨p, e, R', s, m, args, below, meth, c, Q, nL'⟩ := E
  obtain ⟨hx, hb, hml, hown, hts, hr, hlk, hK, hI, hN, rfl, rfl⟩ := X
  intro H locs ls hP hS hl
  unfold okD ddI at hne
  rw [dB_n] at hne
  refine lv_ddiv hx hb hd (nn64 hne) ?_
  have e : vd (ddI a b) = .double (FP.ddiv (dB a) (dB b)) := by rw [vd_dB]; unfold ddI; rw [dB_n]
  rw [e] at kk
  exact kk H locs ls hP hS hl
theorem V_f2d {G : GG} {E : EE} {cc : ByteArray} {own : String} {ret : Option FieldType} {R : Room} {nL : Nat} (X : Cx G E cc own ret R nL) {k n pc : Nat} {lv : List (Nat × Value)} {st : List Value} {w : WS} {a : Int} (hd : decode cc pc = .ok (.f2d, 1)) (hne : okD (f2dI a) = true) (kk : VV G E k n (pc + 1) lv (vd (f2dI a) :: st) w) : VV G E k n pc lv (vf a :: st) w := by
  obtain ⟨p, e, R', s, m, args, below, meth, c, Q, nL'⟩ := E
  obtain ⟨hx, hb, hml, hown, hts, hr, hlk, hK, hI, hN, rfl, rfl⟩ := X
  intro H locs ls hP hS hl
  unfold okD f2dI at hne
  rw [dB_n] at hne
  refine lv_f2d hx hb hd (nn64 hne) ?_
  have e : vd (f2dI a) = .double (FP.f2d (fB a)) := by rw [vd_dB]; unfold f2dI; rw [dB_n]
  rw [e] at kk
  exact kk H locs ls hP hS hl
def QF (G : GG) (q : Int × WS) (sz : Nat) : Array Value → State → Outcome → State → Prop := va_Qf (fun r (_ : Unit) => r = fB q.1) (fun _ t => BW G q.2 t) (FAd G.2.2.2 sz)
def MF (G : GG) (y : MethodName) (bytes : ByteArray) (maxL : Nat) (ret : Option FieldType) (rm : Room) (As : List Value) (w : WS) (q : Int × WS) : Prop := ∀ sz : Nat, Met G.1 y (.code y bytes maxL ret :: TT) rm (va_Pc As (PW G sz w)) (QF G q sz) 0 0 (FAd G.2.2.2 sz)
def EndF (G : GG) (E : EE) (q : Int × WS) : Prop := match E with
  | (p, e, R, s, m, args, below, meth, c, Q, nL) => Q = MQ below (QF G q s.heap.size) args s 0 0 (FAd G.2.2.2 s.heap.size)
theorem MF_of {G : GG} {y : MethodName} {bytes : ByteArray} {maxL : Nat} {ret : Option FieldType} {rm : Room} {As : List Value} {w : WS} {q : Int × WS} (hy : plainName y.cls = true) (hlen : (lg_sl As).length ≤ maxL) (body : ∀ E : EE, Cx G E bytes y.cls ret rm maxL → EndF G E q → VV G E 0 0 0 (lv_args 0 As) [] w) : MF G y bytes maxL ret rm As w q := by
  intro sz
  refine Met.ofW (cc := bytes) (maxL := maxL) (ret := ret) hy rfl ?_
  intro p e s m args below meth c s₁ B hml hv
  obtain ⟨rfl, hsz, hP, hK, hI, hN⟩ := hv
  subst hsz
  have hts := atoms_spec (ws := .code y bytes maxL ret :: TT) B.pre
  rw [lg_entry_eq]
  have hl := lv_entry As (n := maxL) hlen
  exact body (p, e, rm, s, m, As.toArray, below, meth, c, _, maxL) ⟨B.exec, B.bytes, hml, findClass_of_methodNamed B.named, fun w hw => hts w (List.mem_cons_of_mem _ hw), B.returns, B.notSynchronized, hK, hI, hN, rfl, rfl⟩ rfl s.heap [] _ hP va_S.rf hl
theorem V_fret {G : GG} {E : EE} {cc : ByteArray} {own : String} {R : Room} {nL : Nat} (X : Cx G E cc own (some .float) R nL) {q : Int × WS} (hE : EndF G E q) {pc : Nat} {lv : List (Nat × Value)} {w : WS} {a : Int} (hd : decode cc pc = .ok (.freturn, 1)) (hf : some (a, w) = some q) : VV G E 0 0 pc lv [vf a] w := by
  obtain ⟨p, e, R', s, m, args, below, meth, c, Q, nL'⟩ := E
  obtain ⟨hx, hb, hml, hown, hts, hr, hlk, hK, hI, hN, rfl, rfl⟩ := X
  intro H locs ls hP hS hl
  cases hf
  have hE : Q = _ := hE
  subst hE
  exact W.fret hx hb hr (fun t ht hW => ⟨⟨_, (), rfl, rfl, by show va_P _ _ _ _; rw [ht]; exact hP⟩, hS.F ht⟩) hS.2.2 hd hlk
theorem V_cVF {G : GG} {E : EE} {cc : ByteArray} {own : String} {ret : Option FieldType} {R : Room} {nL : Nat} (X : Cx G E cc own ret R nL) {k n pc : Nat} {lv : List (Nat × Value)} {w : WS} {i c : Nat} {C : String} {T : u_T} {N : Nat} {index maxL : Nat} {y : MethodName} {bytes : ByteArray} {ret9 : Option FieldType} {rm : Room} {ρ : Type} {F : Option (Int × WS)} {K : Int → WS → Option ρ} {r0 : ρ} (hf : ob F K = some r0) (As rest : List Value) (nA : Nat) (hM : ∀ q, F = some q → MF G y bytes maxL ret9 rm (gr G i :: As) w q) (hi : i < NC ∧ ck i = .inl c) (hcl : vwCl[c]? = some (C, T, N)) (hcode : Cond.code y bytes maxL ret9 ∈ TT) (hini : Cond.initialized y.cls ∈ TT) (hli : Cond.methodLink own index y ∈ TT) (hinst : Cond.instanceMethod y ∈ TT) (hsel : Cond.selects C y y ∈ TT) (hd : decode cc pc = .ok (.invokevirtual index, 3)) (hy : y.cls ≠ "java/lang/invoke/MethodHandle" ∧ y.cls ≠ "java/lang/invoke/VarHandle" ∧ (parseMethodDescriptor y.desc).map (fun d => d.parameters.length) = some nA) (hrc : rm.cells = 0 ∧ rm.slots = 0) (hR : rm.frames + 1 ≤ R.frames ∧ 8 + (maxL + 11) + rm.locals ≤ R.locals) (hn : As.length = nA) (hcat : (rest.map fun v => v.category).sum ≤ 8) (hroom : k ≤ R.cells ∧ n ≤ R.slots) (kk : ∀ (r : Int) (w1 : WS), K r w1 = some r0 → VV G E k n (pc + 3) lv (vf r :: rest) w1) : VV G E k n pc lv (As.reverse ++ gr G i :: rest) w := by
  obtain ⟨p, e, R', s, m, args, below, meth, c, Q, nL'⟩ := E
  obtain ⟨hx, hb, hml, hown, hts, hr, hlk, hK, hI, hN, rfl, rfl⟩ := X
  intro H locs ls hP hS hl
  obtain ⟨q9, hq, hf⟩ := obnd hf
  refine va_callf (va_runV (As := As) (rest := rest) ⟨hx, hb, hml, hown, hts⟩ (hM q9 hq H.size) ⟨callB_of nA hts (good_ws hcode) rfl hrc.1 hrc.2 (hts _ hini) (hts _ hli) hy hR, hts _ hinst, hts _ hsel⟩ ⟨PW_blind, va_recv hK hP hcl (WL_obj hi.1 hi.2), fun U hU hW => ⟨rfl, PW_call hP hK hI hN hU hW⟩⟩ rfl hn hl.1 rfl (lv_room hcat) hd ⟨hroom.1, hroom.2⟩) hS (fun q _ h => FAd_mono hS.1 q h) (fun q h => FAd_mono hS.1 q h) (fun r9 u9 t9 H1 locs1 ht hvm hw9 hB hz1 hk1 hS1 => ?_)
  obtain rfl := hw9
  have hP1 : va_P G.2.1 vwCl (WL G.2.2.1 G.2.2.2 q9.2) H1 := by rw [← ht]; exact hB
  exact kk q9.1 q9.2 hf H1 locs1 ls hP1 hS1 hl
def QXF (G : GG) (q : Nat × Int × WS) (sz : Nat) : Array Value → State → Outcome → State → Prop := va_Qf (fun r (_ : Unit) => q.1 = 0 ∧ r = fB q.2.1) (fun _ t => BW G q.2.2 t) (FAd G.2.2.2 sz)
def MXF (G : GG) (y : MethodName) (bytes : ByteArray) (maxL : Nat) (ret : Option FieldType) (rm : Room) (As : List Value) (w : WS) (q : Nat × Int × WS) : Prop := ∀ sz : Nat, vx_Met G.1 y (.code y bytes maxL ret :: TT) rm (va_Pc As (PX G sz w)) (QXF G q sz) (XQ G q sz) rm.cells rm.slots (FAd G.2.2.2 sz)
theorem MXF_of {G : GG} {y : MethodName} {bytes : ByteArray} {maxL : Nat} {ret : Option FieldType} {rm : Room} {As : List Value} {w : WS} {q : Nat × Int × WS} (hy : plainName y.cls = true) (hlen : (lg_sl As).length ≤ maxL) (body : ∀ E : EE, CX G E bytes y.cls ret rm maxL → EndX G E (QXF G q) q rm.cells rm.slots → VV G E 0 0 0 (lv_args 0 As) [] w) : MXF G y bytes maxL ret rm As w q := by
  intro sz
  refine vx_ofW (cc := bytes) (maxL := maxL) (ret := ret) hy rfl ?_
  intro p e s m args below meth c s₁ B hml hno hv
  obtain ⟨rfl, ⟨hsz, hP, hK, hI, hN⟩, hT⟩ := hv
  subst hsz
  have hts := atoms_spec (ws := .code y bytes maxL ret :: TT) B.pre
  rw [lg_entry_eq]
  have hl := lv_entry As (n := maxL) hlen
  exact body (p, e, rm, s, m, As.toArray, below, meth, c, _, maxL) ⟨⟨B.exec, B.bytes, hml, findClass_of_methodNamed B.named, fun w hw => hts w (List.mem_cons_of_mem _ hw), B.returns, B.notSynchronized, hK, hI, hN, rfl, rfl⟩, hT, hno⟩ rfl s.heap [] _ hP va_S.rf hl
theorem V_fretX {G : GG} {E : EE} {cc : ByteArray} {own : String} {R : Room} {nL : Nat} (X : CX G E cc own (some .float) R nL) {k n pc : Nat} {lv : List (Nat × Value)} {w : WS} {q : Nat × Int × WS} {mc ms : Nat} (hE : EndX G E (QXF G q) q mc ms) {a : Int} (hd : decode cc pc = .ok (.freturn, 1)) (hm : k ≤ mc ∧ n ≤ ms) (hf : some (0, a, w) = some q) : VV G E k n pc lv [vf a] w := by
  obtain ⟨p, e, R', s, m, args, below, meth, c, Q, nL'⟩ := E
  obtain ⟨⟨hx, hb, hml, hown, hts, hr, hlk, hK, hI, hN, rfl, rfl⟩, hT, hno⟩ := X
  intro H locs ls hP hS hl
  cases hf
  have hE : Q = _ := hE
  subst hE
  refine W.widen (k := mc) (n := ms) hm.1 hm.2 ?_
  exact vx_ret (W.fret hx hb hr (fun t ht hW => ⟨⟨_, (), rfl, ⟨rfl, rfl⟩, by show va_P _ _ _ _; rw [ht]; exact hP⟩, hS.F ht⟩) hS.2.2 hd hlk)
theorem V_wVF {G : GG} {E : EE} {cc : ByteArray} {own : String} {ret : Option FieldType} {R : Room} {nL : Nat} {hh : List (Nat × Nat × Nat × Nat)} (X : CW G E cc own ret R nL hh) {k n pc : Nat} {lv : List (Nat × Value)} {w : WS} {i c : Nat} {C : String} {T : u_T} {N : Nat} {index maxL : Nat} {y : MethodName} {bytes : ByteArray} {ret9 : Option FieldType} {rm : Room} {F : Option (Nat × Int × WS)} {K : Int → WS → Option (Int × WS)} {Kx : Nat → WS → Option (Int × WS)} {q0 : Int × WS} (hf : oc F K Kx = some q0) (As rest : List Value) (nA : Nat) (hM : ∀ q, F = some q → MXF G y bytes maxL ret9 rm (gr G i :: As) w q) (hi : i < NC ∧ ck i = .inl c) (hcl : vwCl[c]? = some (C, T, N)) (hcode : Cond.code y bytes maxL ret9 ∈ TT) (hini : Cond.initialized y.cls ∈ TT) (hli : Cond.methodLink own index y ∈ TT) (hinst : Cond.instanceMethod y ∈ TT) (hsel : Cond.selects C y y ∈ TT) (hd : decode cc pc = .ok (.invokevirtual index, 3)) (hy : y.cls ≠ "java/lang/invoke/MethodHandle" ∧ y.cls ≠ "java/lang/invoke/VarHandle" ∧ (parseMethodDescriptor y.desc).map (fun d => d.parameters.length) = some nA) (hR : rm.frames + 1 ≤ R.frames ∧ 8 + (maxL + 11) + rm.locals ≤ R.locals) (hn : As.length = nA) (hcat : (rest.map fun v => v.category).sum ≤ 8) (hroom : k + rm.cells ≤ R.cells ∧ n + rm.slots ≤ R.slots)
    (kx : ∀ (t : Nat) (w1 : WS), t ≠ 0 → Kx t w1 = some q0 → ∃ (pre suf : List (Nat × Nat × Nat × Nat)) (x : Nat × Nat × Nat × Nat), hh = pre ++ x :: suf ∧ (∀ z ∈ pre, z.2.2.2 ≠ 0 ∧ ∃ b, Cond.classLink own z.2.2.2 (excN b) ∈ TT ∧ 0 < b ∧ b < 7 ∧ t ≠ b) ∧ t < 7 ∧ covers ⟨x.1, x.2.1, x.2.2.1, x.2.2.2⟩ pc = true ∧ x.2.2.2 ≠ 0 ∧ Cond.classLink own x.2.2.2 (excN t) ∈ TT ∧ Cond.castable (excN t) (excN t) ∈ NT ∧ ∀ a9 : Nat, VV G E (k + rm.cells) (n + rm.slots) x.2.2.1 lv [.ref a9] w1)
    (kk : ∀ (r : Int) (w1 : WS), K r w1 = some q0 → VV G E (k + rm.cells) (n + rm.slots) (pc + 3) lv (vf r :: rest) w1) : VV G E k n pc lv (As.reverse ++ gr G i :: rest) w := by
  obtain ⟨p, e, R', s, m, args, below, meth, c, Q, nL'⟩ := E
  obtain ⟨⟨hx, hb, hml, hown, hts, hr, hlk, hK, hI, hN, rfl, rfl⟩, hT, hC, htab⟩ := X
  intro H locs ls hP hS hl
  obtain ⟨q9, hq, hf⟩ := ocnd hf
  refine vx_callf (vx_runV (As := As) (rest := rest) ⟨hx, hb, hml, hown, hts⟩ (hM q9 hq H.size) ⟨callB_of nA hts (good_ws hcode) rfl rfl rfl (hts _ hini) (hts _ hli) hy hR, hts _ hinst, hts _ hsel⟩ ⟨PX_blind, va_recv hK hP hcl (WL_obj hi.1 hi.2), fun U hU hW => ⟨rfl, PW_call hP hK hI hN hU hW, TX_call hT hS hU hW⟩⟩ rfl hn hl.1 rfl (lv_room hcat) hd ⟨hroom.1, hroom.2⟩) hS (fun q _ h => FAd_mono hS.1 q h) (fun q h => FAd_mono hS.1 q h) (fun q _ h => FAd_mono hS.1 q h) (fun E9 ce9 a9 u9 t9 H1 locs1 ht hvm hp9 hB hz1 hk1 hS1 hc1 hc2 hc3 => ?_) (fun r9 u9 t9 H1 locs1 ht hvm hw9 hB hz1 hk1 hS1 => ?_)
  · rw [if_neg hp9] at hf
    obtain ⟨pre, suf, x, e1, e2, e3, e4, e5, e6, e7, e8⟩ := kx q9.1 q9.2.2 hp9 hf
    have hP1 : va_P G.2.1 vwCl (WL G.2.2.1 G.2.2.2 q9.2.2) H1 := by rw [← ht]; exact hB.2
    obtain ⟨hE9, -⟩ := hB
    subst hE9
    refine vx_catch hown (tableOf pre) ⟨x.1, x.2.1, x.2.2.1, x.2.2.2⟩ (tableOf suf) (by rw [htab, e1]; unfold tableOf; rw [List.map_append]; rfl) (fun z hz => ?_) e4 e5 (hts _ e6) (va_Nw.use rfl (hN _ e7)) hc1 hc2 hc3 (e8 a9 H1 locs1 ls hP1 hS1 hl)
    obtain ⟨z0, hz0, rfl⟩ := List.mem_map.mp hz
    obtain ⟨g1, b, g2, g3, g4, g5⟩ := e2 z0 hz0
    exact Or.inr ⟨g1, excN b, hts _ g2, hC q9.1 b (Nat.pos_of_ne_zero hp9) e3 g3 g4 g5⟩
  · obtain ⟨hz9, rfl⟩ := hw9
    rw [if_pos hz9] at hf
    have hP1 : va_P G.2.1 vwCl (WL G.2.2.1 G.2.2.2 q9.2.2) H1 := by rw [← ht]; exact hB
    exact kk q9.2.1 q9.2.2 hf H1 locs1 ls hP1 hS1 hl
def QD (G : GG) (q : Int × WS) (sz : Nat) : Array Value → State → Outcome → State → Prop := va_Qd (fun r (_ : Unit) => r = dB q.1) (fun _ t => BW G q.2 t) (FAd G.2.2.2 sz)
def MD (G : GG) (y : MethodName) (bytes : ByteArray) (maxL : Nat) (ret : Option FieldType) (rm : Room) (As : List Value) (w : WS) (q : Int × WS) : Prop := ∀ sz : Nat, Met G.1 y (.code y bytes maxL ret :: TT) rm (va_Pc As (PW G sz w)) (QD G q sz) 0 0 (FAd G.2.2.2 sz)
def EndD (G : GG) (E : EE) (q : Int × WS) : Prop := match E with
  | (p, e, R, s, m, args, below, meth, c, Q, nL) => Q = MQ below (QD G q s.heap.size) args s 0 0 (FAd G.2.2.2 s.heap.size)
theorem MD_of {G : GG} {y : MethodName} {bytes : ByteArray} {maxL : Nat} {ret : Option FieldType} {rm : Room} {As : List Value} {w : WS} {q : Int × WS} (hy : plainName y.cls = true) (hlen : (lg_sl As).length ≤ maxL) (body : ∀ E : EE, Cx G E bytes y.cls ret rm maxL → EndD G E q → VV G E 0 0 0 (lv_args 0 As) [] w) : MD G y bytes maxL ret rm As w q := by
  intro sz
  refine Met.ofW (cc := bytes) (maxL := maxL) (ret := ret) hy rfl ?_
  intro p e s m args below meth c s₁ B hml hv
  obtain ⟨rfl, hsz, hP, hK, hI, hN⟩ := hv
  subst hsz
  have hts := atoms_spec (ws := .code y bytes maxL ret :: TT) B.pre
  rw [lg_entry_eq]
  have hl := lv_entry As (n := maxL) hlen
  exact body (p, e, rm, s, m, As.toArray, below, meth, c, _, maxL) ⟨B.exec, B.bytes, hml, findClass_of_methodNamed B.named, fun w hw => hts w (List.mem_cons_of_mem _ hw), B.returns, B.notSynchronized, hK, hI, hN, rfl, rfl⟩ rfl s.heap [] _ hP va_S.rf hl
theorem V_dret {G : GG} {E : EE} {cc : ByteArray} {own : String} {R : Room} {nL : Nat} (X : Cx G E cc own (some .double) R nL) {q : Int × WS} (hE : EndD G E q) {pc : Nat} {lv : List (Nat × Value)} {w : WS} {a : Int} (hd : decode cc pc = .ok (.dreturn, 1)) (hf : some (a, w) = some q) : VV G E 0 0 pc lv [vd a] w := by
  obtain ⟨p, e, R', s, m, args, below, meth, c, Q, nL'⟩ := E
  obtain ⟨hx, hb, hml, hown, hts, hr, hlk, hK, hI, hN, rfl, rfl⟩ := X
  intro H locs ls hP hS hl
  cases hf
  have hE : Q = _ := hE
  subst hE
  exact W.dret hx hb hr (fun t ht hW => ⟨⟨_, (), rfl, rfl, by show va_P _ _ _ _; rw [ht]; exact hP⟩, hS.F ht⟩) hS.2.2 hd hlk
theorem V_cVD {G : GG} {E : EE} {cc : ByteArray} {own : String} {ret : Option FieldType} {R : Room} {nL : Nat} (X : Cx G E cc own ret R nL) {k n pc : Nat} {lv : List (Nat × Value)} {w : WS} {i c : Nat} {C : String} {T : u_T} {N : Nat} {index maxL : Nat} {y : MethodName} {bytes : ByteArray} {ret9 : Option FieldType} {rm : Room} {ρ : Type} {F : Option (Int × WS)} {K : Int → WS → Option ρ} {r0 : ρ} (hf : ob F K = some r0) (As rest : List Value) (nA : Nat) (hM : ∀ q, F = some q → MD G y bytes maxL ret9 rm (gr G i :: As) w q) (hi : i < NC ∧ ck i = .inl c) (hcl : vwCl[c]? = some (C, T, N)) (hcode : Cond.code y bytes maxL ret9 ∈ TT) (hini : Cond.initialized y.cls ∈ TT) (hli : Cond.methodLink own index y ∈ TT) (hinst : Cond.instanceMethod y ∈ TT) (hsel : Cond.selects C y y ∈ TT) (hd : decode cc pc = .ok (.invokevirtual index, 3)) (hy : y.cls ≠ "java/lang/invoke/MethodHandle" ∧ y.cls ≠ "java/lang/invoke/VarHandle" ∧ (parseMethodDescriptor y.desc).map (fun d => d.parameters.length) = some nA) (hrc : rm.cells = 0 ∧ rm.slots = 0) (hR : rm.frames + 1 ≤ R.frames ∧ 8 + (maxL + 11) + rm.locals ≤ R.locals) (hn : As.length = nA) (hcat : (rest.map fun v => v.category).sum ≤ 8) (hroom : k ≤ R.cells ∧ n ≤ R.slots) (kk : ∀ (r : Int) (w1 : WS), K r w1 = some r0 → VV G E k n (pc + 3) lv (vd r :: rest) w1) : VV G E k n pc lv (As.reverse ++ gr G i :: rest) w := by
  obtain ⟨p, e, R', s, m, args, below, meth, c, Q, nL'⟩ := E
  obtain ⟨hx, hb, hml, hown, hts, hr, hlk, hK, hI, hN, rfl, rfl⟩ := X
  intro H locs ls hP hS hl
  obtain ⟨q9, hq, hf⟩ := obnd hf
  refine va_calld (va_runV (As := As) (rest := rest) ⟨hx, hb, hml, hown, hts⟩ (hM q9 hq H.size) ⟨callB_of nA hts (good_ws hcode) rfl hrc.1 hrc.2 (hts _ hini) (hts _ hli) hy hR, hts _ hinst, hts _ hsel⟩ ⟨PW_blind, va_recv hK hP hcl (WL_obj hi.1 hi.2), fun U hU hW => ⟨rfl, PW_call hP hK hI hN hU hW⟩⟩ rfl hn hl.1 rfl (lv_room hcat) hd ⟨hroom.1, hroom.2⟩) hS (fun q _ h => FAd_mono hS.1 q h) (fun q h => FAd_mono hS.1 q h) (fun r9 u9 t9 H1 locs1 ht hvm hw9 hB hz1 hk1 hS1 => ?_)
  obtain rfl := hw9
  have hP1 : va_P G.2.1 vwCl (WL G.2.2.1 G.2.2.2 q9.2) H1 := by rw [← ht]; exact hB
  exact kk q9.1 q9.2 hf H1 locs1 ls hP1 hS1 hl
def QXD (G : GG) (q : Nat × Int × WS) (sz : Nat) : Array Value → State → Outcome → State → Prop := va_Qd (fun r (_ : Unit) => q.1 = 0 ∧ r = dB q.2.1) (fun _ t => BW G q.2.2 t) (FAd G.2.2.2 sz)
def MXD (G : GG) (y : MethodName) (bytes : ByteArray) (maxL : Nat) (ret : Option FieldType) (rm : Room) (As : List Value) (w : WS) (q : Nat × Int × WS) : Prop := ∀ sz : Nat, vx_Met G.1 y (.code y bytes maxL ret :: TT) rm (va_Pc As (PX G sz w)) (QXD G q sz) (XQ G q sz) rm.cells rm.slots (FAd G.2.2.2 sz)
theorem MXD_of {G : GG} {y : MethodName} {bytes : ByteArray} {maxL : Nat} {ret : Option FieldType} {rm : Room} {As : List Value} {w : WS} {q : Nat × Int × WS} (hy : plainName y.cls = true) (hlen : (lg_sl As).length ≤ maxL) (body : ∀ E : EE, CX G E bytes y.cls ret rm maxL → EndX G E (QXD G q) q rm.cells rm.slots → VV G E 0 0 0 (lv_args 0 As) [] w) : MXD G y bytes maxL ret rm As w q := by
  intro sz
  refine vx_ofW (cc := bytes) (maxL := maxL) (ret := ret) hy rfl ?_
  intro p e s m args below meth c s₁ B hml hno hv
  obtain ⟨rfl, ⟨hsz, hP, hK, hI, hN⟩, hT⟩ := hv
  subst hsz
  have hts := atoms_spec (ws := .code y bytes maxL ret :: TT) B.pre
  rw [lg_entry_eq]
  have hl := lv_entry As (n := maxL) hlen
  exact body (p, e, rm, s, m, As.toArray, below, meth, c, _, maxL) ⟨⟨B.exec, B.bytes, hml, findClass_of_methodNamed B.named, fun w hw => hts w (List.mem_cons_of_mem _ hw), B.returns, B.notSynchronized, hK, hI, hN, rfl, rfl⟩, hT, hno⟩ rfl s.heap [] _ hP va_S.rf hl
theorem V_dretX {G : GG} {E : EE} {cc : ByteArray} {own : String} {R : Room} {nL : Nat} (X : CX G E cc own (some .double) R nL) {k n pc : Nat} {lv : List (Nat × Value)} {w : WS} {q : Nat × Int × WS} {mc ms : Nat} (hE : EndX G E (QXD G q) q mc ms) {a : Int} (hd : decode cc pc = .ok (.dreturn, 1)) (hm : k ≤ mc ∧ n ≤ ms) (hf : some (0, a, w) = some q) : VV G E k n pc lv [vd a] w := by
  obtain ⟨p, e, R', s, m, args, below, meth, c, Q, nL'⟩ := E
  obtain ⟨⟨hx, hb, hml, hown, hts, hr, hlk, hK, hI, hN, rfl, rfl⟩, hT, hno⟩ := X
  intro H locs ls hP hS hl
  cases hf
  have hE : Q = _ := hE
  subst hE
  refine W.widen (k := mc) (n := ms) hm.1 hm.2 ?_
  exact vx_ret (W.dret hx hb hr (fun t ht hW => ⟨⟨_, (), rfl, ⟨rfl, rfl⟩, by show va_P _ _ _ _; rw [ht]; exact hP⟩, hS.F ht⟩) hS.2.2 hd hlk)
theorem V_wVD {G : GG} {E : EE} {cc : ByteArray} {own : String} {ret : Option FieldType} {R : Room} {nL : Nat} {hh : List (Nat × Nat × Nat × Nat)} (X : CW G E cc own ret R nL hh) {k n pc : Nat} {lv : List (Nat × Value)} {w : WS} {i c : Nat} {C : String} {T : u_T} {N : Nat} {index maxL : Nat} {y : MethodName} {bytes : ByteArray} {ret9 : Option FieldType} {rm : Room} {F : Option (Nat × Int × WS)} {K : Int → WS → Option (Int × WS)} {Kx : Nat → WS → Option (Int × WS)} {q0 : Int × WS} (hf : oc F K Kx = some q0) (As rest : List Value) (nA : Nat) (hM : ∀ q, F = some q → MXD G y bytes maxL ret9 rm (gr G i :: As) w q) (hi : i < NC ∧ ck i = .inl c) (hcl : vwCl[c]? = some (C, T, N)) (hcode : Cond.code y bytes maxL ret9 ∈ TT) (hini : Cond.initialized y.cls ∈ TT) (hli : Cond.methodLink own index y ∈ TT) (hinst : Cond.instanceMethod y ∈ TT) (hsel : Cond.selects C y y ∈ TT) (hd : decode cc pc = .ok (.invokevirtual index, 3)) (hy : y.cls ≠ "java/lang/invoke/MethodHandle" ∧ y.cls ≠ "java/lang/invoke/VarHandle" ∧ (parseMethodDescriptor y.desc).map (fun d => d.parameters.length) = some nA) (hR : rm.frames + 1 ≤ R.frames ∧ 8 + (maxL + 11) + rm.locals ≤ R.locals) (hn : As.length = nA) (hcat : (rest.map fun v => v.category).sum ≤ 8) (hroom : k + rm.cells ≤ R.cells ∧ n + rm.slots ≤ R.slots)
    (kx : ∀ (t : Nat) (w1 : WS), t ≠ 0 → Kx t w1 = some q0 → ∃ (pre suf : List (Nat × Nat × Nat × Nat)) (x : Nat × Nat × Nat × Nat), hh = pre ++ x :: suf ∧ (∀ z ∈ pre, z.2.2.2 ≠ 0 ∧ ∃ b, Cond.classLink own z.2.2.2 (excN b) ∈ TT ∧ 0 < b ∧ b < 7 ∧ t ≠ b) ∧ t < 7 ∧ covers ⟨x.1, x.2.1, x.2.2.1, x.2.2.2⟩ pc = true ∧ x.2.2.2 ≠ 0 ∧ Cond.classLink own x.2.2.2 (excN t) ∈ TT ∧ Cond.castable (excN t) (excN t) ∈ NT ∧ ∀ a9 : Nat, VV G E (k + rm.cells) (n + rm.slots) x.2.2.1 lv [.ref a9] w1)
    (kk : ∀ (r : Int) (w1 : WS), K r w1 = some q0 → VV G E (k + rm.cells) (n + rm.slots) (pc + 3) lv (vd r :: rest) w1) : VV G E k n pc lv (As.reverse ++ gr G i :: rest) w := by
  obtain ⟨p, e, R', s, m, args, below, meth, c, Q, nL'⟩ := E
  obtain ⟨⟨hx, hb, hml, hown, hts, hr, hlk, hK, hI, hN, rfl, rfl⟩, hT, hC, htab⟩ := X
  intro H locs ls hP hS hl
  obtain ⟨q9, hq, hf⟩ := ocnd hf
  refine vx_calld (vx_runV (As := As) (rest := rest) ⟨hx, hb, hml, hown, hts⟩ (hM q9 hq H.size) ⟨callB_of nA hts (good_ws hcode) rfl rfl rfl (hts _ hini) (hts _ hli) hy hR, hts _ hinst, hts _ hsel⟩ ⟨PX_blind, va_recv hK hP hcl (WL_obj hi.1 hi.2), fun U hU hW => ⟨rfl, PW_call hP hK hI hN hU hW, TX_call hT hS hU hW⟩⟩ rfl hn hl.1 rfl (lv_room hcat) hd ⟨hroom.1, hroom.2⟩) hS (fun q _ h => FAd_mono hS.1 q h) (fun q h => FAd_mono hS.1 q h) (fun q _ h => FAd_mono hS.1 q h) (fun E9 ce9 a9 u9 t9 H1 locs1 ht hvm hp9 hB hz1 hk1 hS1 hc1 hc2 hc3 => ?_) (fun r9 u9 t9 H1 locs1 ht hvm hw9 hB hz1 hk1 hS1 => ?_)
  · rw [if_neg hp9] at hf
    obtain ⟨pre, suf, x, e1, e2, e3, e4, e5, e6, e7, e8⟩ := kx q9.1 q9.2.2 hp9 hf
    have hP1 : va_P G.2.1 vwCl (WL G.2.2.1 G.2.2.2 q9.2.2) H1 := by rw [← ht]; exact hB.2
    obtain ⟨hE9, -⟩ := hB
    subst hE9
    refine vx_catch hown (tableOf pre) ⟨x.1, x.2.1, x.2.2.1, x.2.2.2⟩ (tableOf suf) (by rw [htab, e1]; unfold tableOf; rw [List.map_append]; rfl) (fun z hz => ?_) e4 e5 (hts _ e6) (va_Nw.use rfl (hN _ e7)) hc1 hc2 hc3 (e8 a9 H1 locs1 ls hP1 hS1 hl)
    obtain ⟨z0, hz0, rfl⟩ := List.mem_map.mp hz
    obtain ⟨g1, b, g2, g3, g4, g5⟩ := e2 z0 hz0
    exact Or.inr ⟨g1, excN b, hts _ g2, hC q9.1 b (Nat.pos_of_ne_zero hp9) e3 g3 g4 g5⟩
  · obtain ⟨hz9, rfl⟩ := hw9
    rw [if_pos hz9] at hf
    have hP1 : va_P G.2.1 vwCl (WL G.2.2.1 G.2.2.2 q9.2.2) H1 := by rw [← ht]; exact hB
    exact kk q9.2.1 q9.2.2 hf H1 locs1 ls hP1 hS1 hl
