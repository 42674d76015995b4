/-! METHODS THAT THROW: the answer's first number tells the exception (0: none) *)-/
def excN (t : Nat) : String := match t with
  | 1 => "java/lang/IllegalArgumentException"
  | 2 => "java/lang/IllegalStateException"
  | 3 => "java/lang/IndexOutOfBoundsException"
  | 4 => "java/lang/UnsupportedOperationException"
  | 5 => "java/util/NoSuchElementException"
  | _ => "java/lang/ArithmeticException"
def ST : List (Nat × String) := [(84, "no such sign"), (95, "60 signs are typed"), (106, "more than 20 signs are typed"), (113, "there are 30 texts"), (128, "no sign there"), (142, "no such kind of pattern"), (150, "no such part of a pattern"), (157, "there are 50 patterns"), (164, "no such kind of term"), (169, "no such part of a term"), (171, "there are 50 terms"), (191, "the function is out of range"), (193, "the function or the statement is out of range"), (195, "two variables are the same"), (205, "the number of steps is out of range"), (220, "there was no error"), (254, "more than 3000 patterns are begun"), (296, "no such way"), (301, "the term is an error"), (306, "no sign is typed there"), (314, "all variables are empty"), (329, "no such variable"), (331, "no such pattern"), (333, "no such term"), (335, "no such statement"), (340, "a way is out of range"), (342, "there are 40 statements"), (344, "nothing was run"), (346, "nothing was matched"), (348, "it did not match")]
/-- the two texts of the class that are looked into, by their places: their signs -/
def KT : List (Nat × String × List Int) := [(135, "l|&nosk#trpqm*gxfzi$.@v", kPat), (162, "tvw+-*/&#rd=<", kTrm)]
def SW1 (A : Nat → Prop) (U : State) (H : Heap) (t : Nat × String × List Int) (sa va : Nat) : Prop := vk_R RX8 t.1 t.2.1 sa U ∧ va_O "java/lang/String" sa A U H ∧ va_OF "java/lang/String" "coder" "B" (.int 0) sa A U H ∧ va_OF "java/lang/String" "value" "[B" (.ref va) sa A U H ∧ va_T .byte va t.2.2.length (fun j => .int (Int32.ofInt (t.2.2.getD j 0))) A U H
def SWs (G : GG) (sz : Nat) (U : State) : Prop := va_Z "java/lang/String" "COMPACT_STRINGS" "Z" (.int 1) (FAd G.2.2.2 sz) U U.heap ∧ ∀ t ∈ KT, ∃ sa va : Nat, SW1 (FAd G.2.2.2 sz) U U.heap t sa va
def TXs (G : GG) (sz : Nat) (U : State) : Prop := G.1.stackTraces = false ∧ vx_Zq Bundle.tN "UNASSIGNED_STACK" Bundle.steD (FAd G.2.2.2 sz) U U.heap ∧ vx_Zq Bundle.tN "SUPPRESSED_SENTINEL" Bundle.listD (FAd G.2.2.2 sz) U U.heap ∧ (∀ t ∈ ST, ∃ sa : Nat, vk_R RX8 t.1 t.2 sa U) ∧ SWs G sz U
def PX (G : GG) (sz : Nat) (w : WS) (U : State) : Prop := PW G sz w U ∧ TXs G sz U
def CX (G : GG) (E : EE) (cc : ByteArray) (own : String) (ret : Option FieldType) (R : Room) (nL : Nat) : Prop := Cx G E cc own ret R nL ∧ match E with
  | (p, e, R', s, m, args, below, meth, c, Q, nL') => TXs G s.heap.size s ∧ ∀ x ∈ c.exceptionTable.toList, False
def XQ (G : GG) (q : Nat × Int × WS) (sz : Nat) : String → State → State → Prop := vx_X (fun (_ : Unit) => q.1 ≠ 0) (fun E _ t => E = excN q.1 ∧ BW G q.2.2 t) (FAd G.2.2.2 sz)
def EndX (G : GG) (E : EE) (Qc : Nat → Array Value → State → Outcome → State → Prop) (q : Nat × Int × WS) (mc ms : Nat) : Prop := match E with
  | (p, e, R, s, m, args, below, meth, c, Q, nL) => Q = vx_MQ below (Qc s.heap.size) (XQ G q s.heap.size) args s mc ms (FAd G.2.2.2 s.heap.size)
theorem SW_call {G : GG} {s : State} {H : Heap} {locs : List Loc} (hT : SWs G s.heap.size s) (hS : va_S (FAd G.2.2.2 s.heap.size) s.heap H locs) {U : State} (hU : U.heap = H) (hW : s.WarmedH U.vm) : SWs G H.size U := by
  obtain ⟨h1, h2⟩ := hT
  have hm : ∀ q, FAd G.2.2.2 H.size q → FAd G.2.2.2 s.heap.size q := fun q h => FAd_mono hS.1 q h
  refine ⟨?_, fun t ht => ?_⟩
  · rw [hU]; exact va_Z.narrow (va_Z.moved hW.alike (h1.kept hS.2.1)) hm
  · obtain ⟨sa, va, a1, a2, a3, a4, a5⟩ := h2 t ht
    refine ⟨sa, va, vk_R.warm hW a1, ?_, ?_, ?_, ?_⟩
    · rw [hU]; exact va_O.narrow (va_O.moved hW.alike (a2.kept hS.2.1)) hm
    · rw [hU]; exact va_OF.narrow (va_OF.moved hW.alike (a3.kept hS.2.1)) hm
    · rw [hU]; exact va_OF.narrow (va_OF.moved hW.alike (a4.kept hS.2.1)) hm
    · rw [hU]; exact va_T.narrow (va_T.moved hW.alike (a5.kept hS.2.1)) hm
theorem SW_moved {G : GG} {sz : Nat} {u U : State} (hv : u.vm = U.vm) (hh : u.heap = U.heap) (h : SWs G sz u) : SWs G sz U := by
  obtain ⟨h1, h2⟩ := h
  have al : u.vm.Alike U.vm := by rw [hv]; exact Vm.Alike.refl U.vm
  unfold SWs
  rw [← hh]
  refine ⟨va_Z.moved al h1, fun t ht => ?_⟩
  obtain ⟨sa, va, a1, a2, a3, a4, a5⟩ := h2 t ht
  exact ⟨sa, va, vk_R.same hv.symm a1, va_O.moved al a2, va_OF.moved al a3, va_OF.moved al a4, va_T.moved al a5⟩
theorem TX_call {G : GG} {s : State} {H : Heap} {locs : List Loc} (hT : TXs G s.heap.size s) (hS : va_S (FAd G.2.2.2 s.heap.size) s.heap H locs) {U : State} (hU : U.heap = H) (hW : s.WarmedH U.vm) : TXs G H.size U := by
  obtain ⟨h1, h2, h3, h4, h5⟩ := hT
  refine ⟨h1, ?_, ?_, fun t ht => ?_, SW_call h5 hS hU hW⟩
  · rw [hU]; exact vx_Zq.narrow (vx_Zq.moved hW.alike (h2.kept hS.2.1)) (fun q h => FAd_mono hS.1 q h)
  · rw [hU]; exact vx_Zq.narrow (vx_Zq.moved hW.alike (h3.kept hS.2.1)) (fun q h => FAd_mono hS.1 q h)
  · obtain ⟨sa, h⟩ := h4 t ht
    exact ⟨sa, vk_R.warm hW h⟩
theorem PX_blind {G : GG} {As : List Value} {sz : Nat} {w : WS} : FrameBlind (va_Pc As (PX G sz w)) := by
  intro a U g mk h
  obtain ⟨h0, h1, h2, h3, h4, h5, h6⟩ := h
  refine ⟨h0, (PW_blind (G := G) (As := As) (sz := sz) (w := w) a U g mk ⟨h0, h1⟩).2, h2, ?_, ?_, fun t ht => ?_, SW_moved (u := U) (U := U.calling g mk a) rfl rfl h6⟩
  · exact vx_Zq.moved (u := U) (U := U.calling g mk a) (Vm.Alike.refl U.vm) h3
  · exact vx_Zq.moved (u := U) (U := U.calling g mk a) (Vm.Alike.refl U.vm) h4
  · obtain ⟨sa, h⟩ := h5 t ht
    exact ⟨sa, vk_R.same (u := U) (U := U.calling g mk a) rfl h⟩
theorem BW_keep {G : GG} {w : WS} {H : Heap} {t : State} (hP : va_P G.2.1 vwCl (WL G.2.2.1 G.2.2.2 w) H) (hk : ∀ q : Nat, q < H.size → t.heap[q]? = H[q]?) : BW G w t := va_P.kept hP (fun k q hq => hk q.1 (hP k q hq).lt)
theorem S_keep {A : Nat → Prop} {s t : State} {H : Heap} {locs : List Loc} (hS : va_S A s.heap H locs) (hz : H.size ≤ t.heap.size) (hk : ∀ q : Nat, q < H.size → t.heap[q]? = H[q]?) : va_F A s t := ⟨Nat.le_trans hS.1 hz, fun q h1 h2 => (hk q (Nat.lt_of_lt_of_le h1 hS.1)).trans (hS.2.1 q h1 h2)⟩
def RE : List String := ["java/lang/RuntimeException", "java/lang/Exception"]
theorem at_of {ws : List Cond} (ps : List Nat) (hp : ws = ps.filterMap (fun i => lw_tbl[i]?)) (hn : ∀ w ∈ ws.filter (fun w => !goodWord w), w ∈ NT) : ∀ w ∈ ws, w ∈ TT ∨ w ∈ NT := by
  intro w hw
  cases hg : goodWord w with
  | true =>
    refine Or.inl (List.mem_filter.mpr ⟨?_, hg⟩)
    rw [hp] at hw
    obtain ⟨i, -, hi⟩ := List.mem_filterMap.mp hw
    exact List.mem_of_getElem? hi
  | false => exact Or.inr (hn w (List.mem_filter.mpr ⟨hw, by rw [hg]; rfl⟩))
theorem RE_fit : ∀ n ∈ RE, Bundle.fit n = true := by decide +kernel
def vs_86 : List Cond := vx_atS RX8 86 "java/lang/IllegalArgumentException" RE
theorem at_86 : ∀ w ∈ vx_atS RX8 86 "java/lang/IllegalArgumentException" RE, w ∈ TT ∨ w ∈ NT := at_of [96, 537, 546, 554, 557, 559, 538, 539, 118, 119, 540, 545, 555, 575, 527, 576, 529, 577, 531, 541, 543, 533, 571, 572, 574, 533, 562, 563, 564, 565, 519, 565, 566, 567, 568, 521, 568, 569, 570, 571, 523, 561, 516, 517, 524, 525, 526, 528, 530, 532, 536, 535, 534] (by decide +kernel) (by decide +kernel)
def vs_97 : List Cond := vx_atS RX8 97 "java/lang/IllegalStateException" RE
theorem at_97 : ∀ w ∈ vx_atS RX8 97 "java/lang/IllegalStateException" RE, w ∈ TT ∨ w ∈ NT := at_of [96, 537, 546, 554, 557, 559, 538, 539, 118, 119, 540, 545, 555, 575, 527, 576, 529, 577, 531, 541, 543, 533, 571, 572, 574, 533, 598, 599, 600, 565, 519, 565, 566, 567, 568, 521, 568, 569, 570, 571, 523, 597, 588, 589, 590, 550, 591, 592, 593, 594, 536, 535, 595] (by decide +kernel) (by decide +kernel)
def vs_152 : List Cond := vx_atS RX8 152 "java/lang/IndexOutOfBoundsException" RE
theorem at_152 : ∀ w ∈ vx_atS RX8 152 "java/lang/IndexOutOfBoundsException" RE, w ∈ TT ∨ w ∈ NT := at_of [96, 537, 546, 554, 557, 559, 538, 539, 118, 119, 540, 545, 555, 575, 527, 576, 529, 577, 531, 541, 543, 533, 571, 572, 574, 533, 650, 651, 652, 565, 519, 565, 566, 567, 568, 521, 568, 569, 570, 571, 523, 689, 680, 681, 682, 551, 683, 684, 685, 686, 536, 535, 687] (by decide +kernel) (by decide +kernel)
def vs_256 : List Cond := vx_atS RX8 256 "java/lang/ArithmeticException" RE
theorem at_256 : ∀ w ∈ vx_atS RX8 256 "java/lang/ArithmeticException" RE, w ∈ TT ∨ w ∈ NT := at_of [96, 537, 546, 554, 557, 559, 538, 539, 118, 119, 540, 545, 555, 575, 527, 576, 529, 577, 531, 541, 543, 533, 571, 572, 574, 533, 1200, 1201, 1202, 565, 519, 565, 566, 567, 568, 521, 568, 569, 570, 571, 523, 1225, 1199, 1210, 1211, 548, 1205, 1206, 1208, 1204, 536, 535, 1203] (by decide +kernel) (by decide +kernel)
def vs_108 : List Cond := vx_atS RX8 108 "java/lang/UnsupportedOperationException" RE
theorem at_108 : ∀ w ∈ vx_atS RX8 108 "java/lang/UnsupportedOperationException" RE, w ∈ TT ∨ w ∈ NT := at_of [96, 537, 546, 554, 557, 559, 538, 539, 118, 119, 540, 545, 555, 575, 527, 576, 529, 577, 531, 541, 543, 533, 571, 572, 574, 533, 626, 627, 628, 565, 519, 565, 566, 567, 568, 521, 568, 569, 570, 571, 523, 625, 616, 617, 618, 552, 619, 620, 621, 622, 536, 535, 623] (by decide +kernel) (by decide +kernel)
theorem V_throwS {G : GG} {E : EE} {cc : ByteArray} {ret : Option FieldType} {R : Room} {nL : Nat} (X : CX G E cc RX8 ret R nL) {k n pc : Nat} {lv : List (Nat × Value)} {w : WS} {st : List Value} {q : Nat × Int × WS} {Qc : Nat → Array Value → State → Outcome → State → Prop} {mc ms : Nat} (hE : EndX G E Qc q mc ms) {ik is ic : Nat} {cls text : String} (tag : Nat) (hcl : cls = excN tag) (h0 : tag ≠ 0) (hfit : Bundle.fit cls = true) (hk : Cond.classLink RX8 ik cls ∈ TT) (hini : Cond.initialized cls ∈ TT) (hstr : (is, text) ∈ ST) (hat : ∀ w ∈ vx_atS RX8 ic cls RE, w ∈ TT ∨ w ∈ NT) (d0 : decode cc pc = .ok (.new ik, 3)) (d3 : decode cc (pc + 3) = .ok (.dup, 1)) (d4 : decode cc (pc + 4) = .ok (.ldc is, 2)) (d6 : decode cc (pc + 6) = .ok (.invokespecial ic, 3)) (d9 : decode cc (pc + 9) = .ok (.athrow, 1)) (hR : 5 < R.frames ∧ (st.map fun v => v.category).sum + 82 ≤ R.locals ∧ k + 1 ≤ R.cells ∧ n + 6 ≤ R.slots) (hm : k + 1 ≤ mc ∧ n + 6 ≤ ms) (hf : some (tag, (0 : Int), w) = some q) : VV G E k n pc lv st w := by
  obtain ⟨p, e, R', s, m, args, below, meth, c, Q, nL'⟩ := E
  obtain ⟨⟨hx, hb, hml, hown, hts, hr, hlk, hK, hI, hN, rfl, rfl⟩, hT, hno⟩ := X
  intro H locs ls hP hS hl
  cases hf
  have hE : Q = _ := hE
  subst hE
  obtain ⟨t1, t2, t3, t4, -⟩ := hT
  obtain ⟨sa, hsa⟩ := t4 _ hstr
  exact vx_throwS hx hb t1 hown hfit RE_fit (hts _ hk) (hts _ hini) hsa (fun w h => (hat w h).elim (fun z => hts w z) (fun z => va_Nw.use (NT_ot w z) (hN w z))) (fun w h => by
    rcases List.mem_cons.mp h with rfl | h
    · unfold vx_ot; rw [TT_good _ hk, Bool.or_true]
    · rcases List.mem_cons.mp h with rfl | h
      · unfold vx_ot; rw [TT_good _ hini, Bool.or_true]
      · rcases hat w h with z | z
        · unfold vx_ot; rw [TT_good _ z, Bool.or_true]
        · unfold vx_ot; rw [NT_ot _ z, Bool.true_or]) t2 t3 hS (hl.1.trans hml.symm) d0 d3 d4 d6 d9 (fun x h => (hno x h).elim) hR.1 hR.2.1 hR.2.2.1 hR.2.2.2 hlk (fun t ha hz hk => ⟨(), h0, ⟨hcl, BW_keep hP hk⟩, S_keep hS hz hk⟩) hS.2.2 hm.1 hm.2
theorem V_throwW {G : GG} {E : EE} {cc : ByteArray} {ret : Option FieldType} {R : Room} {nL : Nat} (X : CX G E cc RX8 ret R nL) {k n pc : Nat} {lv : List (Nat × Value)} {w : WS} {st : List Value} {q : Nat × Int × WS} {Qc : Nat → Array Value → State → Outcome → State → Prop} {mc ms : Nat} (hE : EndX G E Qc q mc ms) {ik is ic : Nat} {cls text : String} (tag : Nat) (hcl : cls = excN tag) (h0 : tag ≠ 0) (hfit : Bundle.fit cls = true) (hk : Cond.classLink RX8 ik cls ∈ TT) (hini : Cond.initialized cls ∈ TT) (hstr : (is, text) ∈ ST) (hat : ∀ w ∈ vx_atS RX8 ic cls RE, w ∈ TT ∨ w ∈ NT) (d0 : decode cc pc = .ok (.new ik, 3)) (d3 : decode cc (pc + 3) = .ok (.dup, 1)) (d4 : decode cc (pc + 4) = .ok (.ldc_w is, 3)) (d6 : decode cc (pc + 7) = .ok (.invokespecial ic, 3)) (d9 : decode cc (pc + 10) = .ok (.athrow, 1)) (hR : 5 < R.frames ∧ (st.map fun v => v.category).sum + 82 ≤ R.locals ∧ k + 1 ≤ R.cells ∧ n + 6 ≤ R.slots) (hm : k + 1 ≤ mc ∧ n + 6 ≤ ms) (hf : some (tag, (0 : Int), w) = some q) : VV G E k n pc lv st w := by
  obtain ⟨p, e, R', s, m, args, below, meth, c, Q, nL'⟩ := E
  obtain ⟨⟨hx, hb, hml, hown, hts, hr, hlk, hK, hI, hN, rfl, rfl⟩, hT, hno⟩ := X
  intro H locs ls hP hS hl
  cases hf
  have hE : Q = _ := hE
  subst hE
  obtain ⟨t1, t2, t3, t4, -⟩ := hT
  obtain ⟨sa, hsa⟩ := t4 _ hstr
  exact vx_throwSW hx hb t1 hown hfit RE_fit (hts _ hk) (hts _ hini) hsa (fun w h => (hat w h).elim (fun z => hts w z) (fun z => va_Nw.use (NT_ot w z) (hN w z))) (fun w h => by
    rcases List.mem_cons.mp h with rfl | h
    · unfold vx_ot; rw [TT_good _ hk, Bool.or_true]
    · rcases List.mem_cons.mp h with rfl | h
      · unfold vx_ot; rw [TT_good _ hini, Bool.or_true]
      · rcases hat w h with z | z
        · unfold vx_ot; rw [TT_good _ z, Bool.or_true]
        · unfold vx_ot; rw [NT_ot _ z, Bool.true_or]) t2 t3 hS (hl.1.trans hml.symm) d0 d3 d4 d6 d9 (fun x h => (hno x h).elim) hR.1 hR.2.1 hR.2.2.1 hR.2.2.2 hlk (fun t ha hz hk => ⟨(), h0, ⟨hcl, BW_keep hP hk⟩, S_keep hS hz hk⟩) hS.2.2 hm.1 hm.2
def QXI (G : GG) (q : Nat × Int × WS) (sz : Nat) : Array Value → State → Outcome → State → Prop := va_Qi (fun r (_ : Unit) => q.1 = 0 ∧ r = Int32.ofInt q.2.1) (fun _ t => BW G q.2.2 t) (FAd G.2.2.2 sz)
def MXI (G : GG) (y : MethodName) (bytes : ByteArray) (maxL : Nat) (ret : Option FieldType) (rm : Room) (As : List Value) (w : WS) (q : Nat × Int × WS) : Prop := ∀ sz : Nat, vx_Met G.1 y (.code y bytes maxL ret :: TT) rm (va_Pc As (PX G sz w)) (QXI G q sz) (XQ G q sz) rm.cells rm.slots (FAd G.2.2.2 sz)
theorem MXI_of {G : GG} {y : MethodName} {bytes : ByteArray} {maxL : Nat} {ret : Option FieldType} {rm : Room} {As : List Value} {w : WS} {q : Nat × Int × WS} (hy : plainName y.cls = true) (hlen : (lg_sl As).length ≤ maxL) (body : ∀ E : EE, CX G E bytes y.cls ret rm maxL → EndX G E (QXI G q) q rm.cells rm.slots → VV G E 0 0 0 (lv_args 0 As) [] w) : MXI G y bytes maxL ret rm As w q := by
  intro sz
  refine vx_ofW (cc := bytes) (maxL := maxL) (ret := ret) hy rfl ?_
  intro p e s m args below meth c s₁ B hml hno hv
  obtain ⟨rfl, ⟨hsz, hP, hK, hI, hN⟩, hT⟩ := hv
  subst hsz
  have hts := atoms_spec (ws := .code y bytes maxL ret :: TT) B.pre
  rw [lg_entry_eq]
  have hl := lv_entry As (n := maxL) hlen
  exact body (p, e, rm, s, m, As.toArray, below, meth, c, _, maxL) ⟨⟨B.exec, B.bytes, hml, findClass_of_methodNamed B.named, fun w hw => hts w (List.mem_cons_of_mem _ hw), B.returns, B.notSynchronized, hK, hI, hN, rfl, rfl⟩, hT, hno⟩ rfl s.heap [] _ hP va_S.rf hl
theorem V_xVI {G : GG} {E : EE} {cc : ByteArray} {own : String} {ret : Option FieldType} {R : Room} {nL : Nat} (X : CX G E cc own ret R nL) {k n pc : Nat} {lv : List (Nat × Value)} {w : WS} {i c : Nat} {C : String} {T : u_T} {N : Nat} {index maxL : Nat} {y : MethodName} {bytes : ByteArray} {ret9 : Option FieldType} {rm : Room} {F : Option (Nat × Int × WS)} {K : Int → WS → Option (Nat × Int × WS)} {q0 : Nat × Int × WS} {Qc : Nat → Array Value → State → Outcome → State → Prop} {mc ms : Nat} (hE : EndX G E Qc q0 mc ms) (hf : ox F K = some q0) (As rest : List Value) (nA : Nat) (hM : ∀ q, F = some q → MXI G y bytes maxL ret9 rm (gr G i :: As) w q) (hi : i < NC ∧ ck i = .inl c) (hcl : vwCl[c]? = some (C, T, N)) (hcode : Cond.code y bytes maxL ret9 ∈ TT) (hini : Cond.initialized y.cls ∈ TT) (hli : Cond.methodLink own index y ∈ TT) (hinst : Cond.instanceMethod y ∈ TT) (hsel : Cond.selects C y y ∈ TT) (hd : decode cc pc = .ok (.invokevirtual index, 3)) (hy : y.cls ≠ "java/lang/invoke/MethodHandle" ∧ y.cls ≠ "java/lang/invoke/VarHandle" ∧ (parseMethodDescriptor y.desc).map (fun d => d.parameters.length) = some nA) (hR : rm.frames + 1 ≤ R.frames ∧ 8 + (maxL + 11) + rm.locals ≤ R.locals) (hn : As.length = nA) (hcat : (rest.map fun v => v.category).sum ≤ 8) (hroom : k + rm.cells ≤ R.cells ∧ n + rm.slots ≤ R.slots) (hm : k + rm.cells ≤ mc ∧ n + rm.slots ≤ ms) (kk : ∀ (r : Int) (w1 : WS), K r w1 = some q0 → VV G E (k + rm.cells) (n + rm.slots) (pc + 3) lv (vi r :: rest) w1) : VV G E k n pc lv (As.reverse ++ gr G i :: rest) w := by
  obtain ⟨p, e, R', s, m, args, below, meth, c, Q, nL'⟩ := E
  obtain ⟨⟨hx, hb, hml, hown, hts, hr, hlk, hK, hI, hN, rfl, rfl⟩, hT, hno⟩ := X
  intro H locs ls hP hS hl
  have hE : Q = _ := hE
  subst hE
  obtain ⟨q9, hq, hf⟩ := oxnd hf
  refine vx_calli (vx_runV (As := As) (rest := rest) ⟨hx, hb, hml, hown, hts⟩ (hM q9 hq H.size) ⟨callB_of nA hts (good_ws hcode) rfl rfl rfl (hts _ hini) (hts _ hli) hy hR, hts _ hinst, hts _ hsel⟩ ⟨PX_blind, va_recv hK hP hcl (WL_obj hi.1 hi.2), fun U hU hW => ⟨rfl, PW_call hP hK hI hN hU hW, TX_call hT hS hU hW⟩⟩ rfl hn hl.1 rfl (lv_room hcat) hd ⟨hroom.1, hroom.2⟩) hS (fun q _ h => FAd_mono hS.1 q h) (fun q h => FAd_mono hS.1 q h) (fun q _ h => FAd_mono hS.1 q h) (fun E9 ce9 a9 u9 t9 H1 locs1 ht hvm hp9 hB hz1 hk1 hS1 hc1 hc2 hc3 => ?_) (fun r9 u9 t9 H1 locs1 ht hvm hw9 hB hz1 hk1 hS1 => ?_)
  · rw [if_neg hp9] at hf
    cases hf
    have hP1 : va_P G.2.1 vwCl (WL G.2.2.1 G.2.2.2 q9.2.2) H1 := by rw [← ht]; exact hB.2
    exact vx_out (fun x h => (hno x h).elim) hlk hc1 hc2 hc3 (fun t ht' _ => ⟨(), hp9, ⟨hB.1, by show va_P _ _ _ _; rw [ht']; exact hP1⟩, hS1.F ht'⟩) hS1.2.2 hm.1 hm.2
  · obtain ⟨hz9, rfl⟩ := hw9
    rw [if_pos hz9] at hf
    have hP1 : va_P G.2.1 vwCl (WL G.2.2.1 G.2.2.2 q9.2.2) H1 := by rw [← ht]; exact hB
    exact kk q9.2.1 q9.2.2 hf H1 locs1 ls hP1 hS1 hl
theorem V_xSI {G : GG} {E : EE} {cc : ByteArray} {own : String} {ret : Option FieldType} {R : Room} {nL : Nat} (X : CX G E cc own ret R nL) {k n pc : Nat} {lv : List (Nat × Value)} {w : WS} {index maxL : Nat} {y : MethodName} {bytes : ByteArray} {ret9 : Option FieldType} {rm : Room} {F : Option (Nat × Int × WS)} {K : Int → WS → Option (Nat × Int × WS)} {q0 : Nat × Int × WS} {Qc : Nat → Array Value → State → Outcome → State → Prop} {mc ms : Nat} (hE : EndX G E Qc q0 mc ms) (hf : ox F K = some q0) (As rest : List Value) (nA : Nat) (hM : ∀ q, F = some q → MXI G y bytes maxL ret9 rm As w q) (hcode : Cond.code y bytes maxL ret9 ∈ TT) (hini : Cond.initialized y.cls ∈ TT) (hli : Cond.methodLink own index y ∈ TT) (hst : Cond.static y ∈ TT) (hd : decode cc pc = .ok (.invokestatic index, 3)) (hy : y.cls ≠ "java/lang/invoke/MethodHandle" ∧ y.cls ≠ "java/lang/invoke/VarHandle" ∧ (parseMethodDescriptor y.desc).map (fun d => d.parameters.length) = some nA) (hR : rm.frames + 1 ≤ R.frames ∧ 8 + (maxL + 11) + rm.locals ≤ R.locals) (hn : As.length = nA) (hcat : (rest.map fun v => v.category).sum ≤ 8) (hroom : k + rm.cells ≤ R.cells ∧ n + rm.slots ≤ R.slots) (hm : k + rm.cells ≤ mc ∧ n + rm.slots ≤ ms) (kk : ∀ (r : Int) (w1 : WS), K r w1 = some q0 → VV G E (k + rm.cells) (n + rm.slots) (pc + 3) lv (vi r :: rest) w1) : VV G E k n pc lv (As.reverse ++ rest) w := by
  obtain ⟨p, e, R', s, m, args, below, meth, c, Q, nL'⟩ := E
  obtain ⟨⟨hx, hb, hml, hown, hts, hr, hlk, hK, hI, hN, rfl, rfl⟩, hT, hno⟩ := X
  intro H locs ls hP hS hl
  have hE : Q = _ := hE
  subst hE
  obtain ⟨q9, hq, hf⟩ := oxnd hf
  refine vx_calli (vx_runS (As := As) (rest := rest) ⟨hx, hb, hml, hown, hts⟩ (hM q9 hq H.size) ⟨callB_of nA hts (good_ws hcode) rfl rfl rfl (hts _ hini) (hts _ hli) hy hR, hts _ hst⟩ ⟨PX_blind, fun U hU hW => ⟨rfl, PW_call hP hK hI hN hU hW, TX_call hT hS hU hW⟩⟩ rfl hn hl.1 rfl (lv_room hcat) hd ⟨hroom.1, hroom.2⟩) hS (fun q _ h => FAd_mono hS.1 q h) (fun q h => FAd_mono hS.1 q h) (fun q _ h => FAd_mono hS.1 q h) (fun E9 ce9 a9 u9 t9 H1 locs1 ht hvm hp9 hB hz1 hk1 hS1 hc1 hc2 hc3 => ?_) (fun r9 u9 t9 H1 locs1 ht hvm hw9 hB hz1 hk1 hS1 => ?_)
  · rw [if_neg hp9] at hf
    cases hf
    have hP1 : va_P G.2.1 vwCl (WL G.2.2.1 G.2.2.2 q9.2.2) H1 := by rw [← ht]; exact hB.2
    exact vx_out (fun x h => (hno x h).elim) hlk hc1 hc2 hc3 (fun t ht' _ => ⟨(), hp9, ⟨hB.1, by show va_P _ _ _ _; rw [ht']; exact hP1⟩, hS1.F ht'⟩) hS1.2.2 hm.1 hm.2
  · obtain ⟨hz9, rfl⟩ := hw9
    rw [if_pos hz9] at hf
    have hP1 : va_P G.2.1 vwCl (WL G.2.2.1 G.2.2.2 q9.2.2) H1 := by rw [← ht]; exact hB
    exact kk q9.2.1 q9.2.2 hf H1 locs1 ls hP1 hS1 hl
def QXV (G : GG) (q : Nat × Int × WS) (sz : Nat) : Array Value → State → Outcome → State → Prop := va_Qv (fun (_ : Unit) => q.1 = 0) (fun _ t => BW G q.2.2 t) (FAd G.2.2.2 sz)
def MXV (G : GG) (y : MethodName) (bytes : ByteArray) (maxL : Nat) (ret : Option FieldType) (rm : Room) (As : List Value) (w : WS) (q : Nat × Int × WS) : Prop := ∀ sz : Nat, vx_Met G.1 y (.code y bytes maxL ret :: TT) rm (va_Pc As (PX G sz w)) (QXV G q sz) (XQ G q sz) rm.cells rm.slots (FAd G.2.2.2 sz)
theorem MXV_of {G : GG} {y : MethodName} {bytes : ByteArray} {maxL : Nat} {ret : Option FieldType} {rm : Room} {As : List Value} {w : WS} {q : Nat × Int × WS} (hy : plainName y.cls = true) (hlen : (lg_sl As).length ≤ maxL) (body : ∀ E : EE, CX G E bytes y.cls ret rm maxL → EndX G E (QXV G q) q rm.cells rm.slots → VV G E 0 0 0 (lv_args 0 As) [] w) : MXV G y bytes maxL ret rm As w q := by
  intro sz
  refine vx_ofW (cc := bytes) (maxL := maxL) (ret := ret) hy rfl ?_
  intro p e s m args below meth c s₁ B hml hno hv
  obtain ⟨rfl, ⟨hsz, hP, hK, hI, hN⟩, hT⟩ := hv
  subst hsz
  have hts := atoms_spec (ws := .code y bytes maxL ret :: TT) B.pre
  rw [lg_entry_eq]
  have hl := lv_entry As (n := maxL) hlen
  exact body (p, e, rm, s, m, As.toArray, below, meth, c, _, maxL) ⟨⟨B.exec, B.bytes, hml, findClass_of_methodNamed B.named, fun w hw => hts w (List.mem_cons_of_mem _ hw), B.returns, B.notSynchronized, hK, hI, hN, rfl, rfl⟩, hT, hno⟩ rfl s.heap [] _ hP va_S.rf hl
theorem V_xVV {G : GG} {E : EE} {cc : ByteArray} {own : String} {ret : Option FieldType} {R : Room} {nL : Nat} (X : CX G E cc own ret R nL) {k n pc : Nat} {lv : List (Nat × Value)} {w : WS} {i c : Nat} {C : String} {T : u_T} {N : Nat} {index maxL : Nat} {y : MethodName} {bytes : ByteArray} {ret9 : Option FieldType} {rm : Room} {F : Option (Nat × Int × WS)} {K : Int → WS → Option (Nat × Int × WS)} {q0 : Nat × Int × WS} {Qc : Nat → Array Value → State → Outcome → State → Prop} {mc ms : Nat} (hE : EndX G E Qc q0 mc ms) (hf : ox F K = some q0) (As rest : List Value) (nA : Nat) (hM : ∀ q, F = some q → MXV G y bytes maxL ret9 rm (gr G i :: As) w q) (hi : i < NC ∧ ck i = .inl c) (hcl : vwCl[c]? = some (C, T, N)) (hcode : Cond.code y bytes maxL ret9 ∈ TT) (hini : Cond.initialized y.cls ∈ TT) (hli : Cond.methodLink own index y ∈ TT) (hinst : Cond.instanceMethod y ∈ TT) (hsel : Cond.selects C y y ∈ TT) (hd : decode cc pc = .ok (.invokevirtual index, 3)) (hy : y.cls ≠ "java/lang/invoke/MethodHandle" ∧ y.cls ≠ "java/lang/invoke/VarHandle" ∧ (parseMethodDescriptor y.desc).map (fun d => d.parameters.length) = some nA) (hR : rm.frames + 1 ≤ R.frames ∧ 8 + (maxL + 11) + rm.locals ≤ R.locals) (hn : As.length = nA) (hcat : (rest.map fun v => v.category).sum ≤ 8) (hroom : k + rm.cells ≤ R.cells ∧ n + rm.slots ≤ R.slots) (hm : k + rm.cells ≤ mc ∧ n + rm.slots ≤ ms) (kk : ∀ (r : Int) (w1 : WS), K r w1 = some q0 → VV G E (k + rm.cells) (n + rm.slots) (pc + 3) lv (rest) w1) : VV G E k n pc lv (As.reverse ++ gr G i :: rest) w := by
  obtain ⟨p, e, R', s, m, args, below, meth, c, Q, nL'⟩ := E
  obtain ⟨⟨hx, hb, hml, hown, hts, hr, hlk, hK, hI, hN, rfl, rfl⟩, hT, hno⟩ := X
  intro H locs ls hP hS hl
  have hE : Q = _ := hE
  subst hE
  obtain ⟨q9, hq, hf⟩ := oxnd hf
  refine vx_callv (vx_runV (As := As) (rest := rest) ⟨hx, hb, hml, hown, hts⟩ (hM q9 hq H.size) ⟨callB_of nA hts (good_ws hcode) rfl rfl rfl (hts _ hini) (hts _ hli) hy hR, hts _ hinst, hts _ hsel⟩ ⟨PX_blind, va_recv hK hP hcl (WL_obj hi.1 hi.2), fun U hU hW => ⟨rfl, PW_call hP hK hI hN hU hW, TX_call hT hS hU hW⟩⟩ rfl hn hl.1 rfl (lv_room hcat) hd ⟨hroom.1, hroom.2⟩) hS (fun q _ h => FAd_mono hS.1 q h) (fun q h => FAd_mono hS.1 q h) (fun q _ h => FAd_mono hS.1 q h) (fun E9 ce9 a9 u9 t9 H1 locs1 ht hvm hp9 hB hz1 hk1 hS1 hc1 hc2 hc3 => ?_) (fun u9 t9 H1 locs1 ht hvm hw9 hB hz1 hk1 hS1 => ?_)
  · rw [if_neg hp9] at hf
    cases hf
    have hP1 : va_P G.2.1 vwCl (WL G.2.2.1 G.2.2.2 q9.2.2) H1 := by rw [← ht]; exact hB.2
    exact vx_out (fun x h => (hno x h).elim) hlk hc1 hc2 hc3 (fun t ht' _ => ⟨(), hp9, ⟨hB.1, by show va_P _ _ _ _; rw [ht']; exact hP1⟩, hS1.F ht'⟩) hS1.2.2 hm.1 hm.2
  · have hz9 := hw9
    rw [if_pos hz9] at hf
    have hP1 : va_P G.2.1 vwCl (WL G.2.2.1 G.2.2.2 q9.2.2) H1 := by rw [← ht]; exact hB
    exact kk q9.2.1 q9.2.2 hf H1 locs1 ls hP1 hS1 hl
theorem V_xSV {G : GG} {E : EE} {cc : ByteArray} {own : String} {ret : Option FieldType} {R : Room} {nL : Nat} (X : CX G E cc own ret R nL) {k n pc : Nat} {lv : List (Nat × Value)} {w : WS} {index maxL : Nat} {y : MethodName} {bytes : ByteArray} {ret9 : Option FieldType} {rm : Room} {F : Option (Nat × Int × WS)} {K : Int → WS → Option (Nat × Int × WS)} {q0 : Nat × Int × WS} {Qc : Nat → Array Value → State → Outcome → State → Prop} {mc ms : Nat} (hE : EndX G E Qc q0 mc ms) (hf : ox F K = some q0) (As rest : List Value) (nA : Nat) (hM : ∀ q, F = some q → MXV G y bytes maxL ret9 rm As w q) (hcode : Cond.code y bytes maxL ret9 ∈ TT) (hini : Cond.initialized y.cls ∈ TT) (hli : Cond.methodLink own index y ∈ TT) (hst : Cond.static y ∈ TT) (hd : decode cc pc = .ok (.invokestatic index, 3)) (hy : y.cls ≠ "java/lang/invoke/MethodHandle" ∧ y.cls ≠ "java/lang/invoke/VarHandle" ∧ (parseMethodDescriptor y.desc).map (fun d => d.parameters.length) = some nA) (hR : rm.frames + 1 ≤ R.frames ∧ 8 + (maxL + 11) + rm.locals ≤ R.locals) (hn : As.length = nA) (hcat : (rest.map fun v => v.category).sum ≤ 8) (hroom : k + rm.cells ≤ R.cells ∧ n + rm.slots ≤ R.slots) (hm : k + rm.cells ≤ mc ∧ n + rm.slots ≤ ms) (kk : ∀ (r : Int) (w1 : WS), K r w1 = some q0 → VV G E (k + rm.cells) (n + rm.slots) (pc + 3) lv (rest) w1) : VV G E k n pc lv (As.reverse ++ rest) w := by
  obtain ⟨p, e, R', s, m, args, below, meth, c, Q, nL'⟩ := E
  obtain ⟨⟨hx, hb, hml, hown, hts, hr, hlk, hK, hI, hN, rfl, rfl⟩, hT, hno⟩ := X
  intro H locs ls hP hS hl
  have hE : Q = _ := hE
  subst hE
  obtain ⟨q9, hq, hf⟩ := oxnd hf
  refine vx_callv (vx_runS (As := As) (rest := rest) ⟨hx, hb, hml, hown, hts⟩ (hM q9 hq H.size) ⟨callB_of nA hts (good_ws hcode) rfl rfl rfl (hts _ hini) (hts _ hli) hy hR, hts _ hst⟩ ⟨PX_blind, fun U hU hW => ⟨rfl, PW_call hP hK hI hN hU hW, TX_call hT hS hU hW⟩⟩ rfl hn hl.1 rfl (lv_room hcat) hd ⟨hroom.1, hroom.2⟩) hS (fun q _ h => FAd_mono hS.1 q h) (fun q h => FAd_mono hS.1 q h) (fun q _ h => FAd_mono hS.1 q h) (fun E9 ce9 a9 u9 t9 H1 locs1 ht hvm hp9 hB hz1 hk1 hS1 hc1 hc2 hc3 => ?_) (fun u9 t9 H1 locs1 ht hvm hw9 hB hz1 hk1 hS1 => ?_)
  · rw [if_neg hp9] at hf
    cases hf
    have hP1 : va_P G.2.1 vwCl (WL G.2.2.1 G.2.2.2 q9.2.2) H1 := by rw [← ht]; exact hB.2
    exact vx_out (fun x h => (hno x h).elim) hlk hc1 hc2 hc3 (fun t ht' _ => ⟨(), hp9, ⟨hB.1, by show va_P _ _ _ _; rw [ht']; exact hP1⟩, hS1.F ht'⟩) hS1.2.2 hm.1 hm.2
  · have hz9 := hw9
    rw [if_pos hz9] at hf
    have hP1 : va_P G.2.1 vwCl (WL G.2.2.1 G.2.2.2 q9.2.2) H1 := by rw [← ht]; exact hB
    exact kk q9.2.1 q9.2.2 hf H1 locs1 ls hP1 hS1 hl
theorem nar_c {a : Int} (hz : 0 ≤ a ∧ a < 65536) : narrow .char (.int (Int32.ofInt a)) = .int (Int32.ofInt a) := by
  show Value.int (vp_nar .char (Int32.ofInt a)) = _
  rw [cn_of]
  unfold nC
  rw [Int.emod_eq_of_lt hz.1 hz.2]
theorem V_iretX {G : GG} {E : EE} {cc : ByteArray} {own : String} {R : Room} {nL : Nat} (X : CX G E cc own (some .int) R nL) {k n pc : Nat} {lv : List (Nat × Value)} {w : WS} {q : Nat × Int × WS} {mc ms : Nat} (hE : EndX G E (QXI G q) q mc ms) {a : Int} (hd : decode cc pc = .ok (.ireturn, 1)) (hm : k ≤ mc ∧ n ≤ ms) (hf : some (0, a, w) = some q) : VV G E k n pc lv [vi a] w := by
  obtain ⟨p, e, R', s, m, args, below, meth, c, Q, nL'⟩ := E
  obtain ⟨⟨hx, hb, hml, hown, hts, hr, hlk, hK, hI, hN, rfl, rfl⟩, hT, hno⟩ := X
  intro H locs ls hP hS hl
  cases hf
  have hE : Q = _ := hE
  subst hE
  refine W.widen (k := mc) (n := ms) hm.1 hm.2 ?_
  exact vx_ret (W.iret hx hb hr (fun t ht hW => ⟨⟨_, (), rfl, ⟨rfl, rfl⟩, by show va_P _ _ _ _; rw [ht]; exact hP⟩, hS.F ht⟩) hS.2.2 hd hlk)
theorem V_zretX {G : GG} {E : EE} {cc : ByteArray} {own : String} {R : Room} {nL : Nat} (X : CX G E cc own (some .boolean) R nL) {k n pc : Nat} {lv : List (Nat × Value)} {w : WS} {q : Nat × Int × WS} {mc ms : Nat} (hE : EndX G E (QXI G q) q mc ms) {a : Int} (hd : decode cc pc = .ok (.ireturn, 1)) (hz : a = 0 ∨ a = 1) (hm : k ≤ mc ∧ n ≤ ms) (hf : some (0, a, w) = some q) : VV G E k n pc lv [vi a] w := by
  obtain ⟨p, e, R', s, m, args, below, meth, c, Q, nL'⟩ := E
  obtain ⟨⟨hx, hb, hml, hown, hts, hr, hlk, hK, hI, hN, rfl, rfl⟩, hT, hno⟩ := X
  intro H locs ls hP hS hl
  cases hf
  have hE : Q = _ := hE
  subst hE
  refine W.widen (k := mc) (n := ms) hm.1 hm.2 ?_
  exact vx_ret (W.zret hx hb hr (by rcases hz with rfl | rfl <;> rfl) (fun t ht hW => ⟨⟨_, (), rfl, ⟨rfl, rfl⟩, by show va_P _ _ _ _; rw [ht]; exact hP⟩, hS.F ht⟩) hS.2.2 hd hlk)
theorem V_cretX {G : GG} {E : EE} {cc : ByteArray} {own : String} {R : Room} {nL : Nat} (X : CX G E cc own (some .char) R nL) {k n pc : Nat} {lv : List (Nat × Value)} {w : WS} {q : Nat × Int × WS} {mc ms : Nat} (hE : EndX G E (QXI G q) q mc ms) {a : Int} (hd : decode cc pc = .ok (.ireturn, 1)) (hz : 0 ≤ a ∧ a < 65536) (hm : k ≤ mc ∧ n ≤ ms) (hf : some (0, a, w) = some q) : VV G E k n pc lv [vi a] w := by
  obtain ⟨p, e, R', s, m, args, below, meth, c, Q, nL'⟩ := E
  obtain ⟨⟨hx, hb, hml, hown, hts, hr, hlk, hK, hI, hN, rfl, rfl⟩, hT, hno⟩ := X
  intro H locs ls hP hS hl
  cases hf
  have hE : Q = _ := hE
  subst hE
  refine W.widen (k := mc) (n := ms) hm.1 hm.2 ?_
  exact vx_ret (W.zret hx hb hr (nar_c hz) (fun t ht hW => ⟨⟨_, (), rfl, ⟨rfl, rfl⟩, by show va_P _ _ _ _; rw [ht]; exact hP⟩, hS.F ht⟩) hS.2.2 hd hlk)
theorem V_vretX {G : GG} {E : EE} {cc : ByteArray} {own : String} {R : Room} {nL : Nat} (X : CX G E cc own (none) R nL) {k n pc : Nat} {lv : List (Nat × Value)} {w : WS} {q : Nat × Int × WS} {mc ms : Nat} (hE : EndX G E (QXV G q) q mc ms) (hd : decode cc pc = .ok (.return_, 1)) (hm : k ≤ mc ∧ n ≤ ms) (hf : some (0, (0 : Int), w) = some q) : VV G E k n pc lv [] w := by
  obtain ⟨p, e, R', s, m, args, below, meth, c, Q, nL'⟩ := E
  obtain ⟨⟨hx, hb, hml, hown, hts, hr, hlk, hK, hI, hN, rfl, rfl⟩, hT, hno⟩ := X
  intro H locs ls hP hS hl
  cases hf
  have hE : Q = _ := hE
  subst hE
  refine W.widen (k := mc) (n := ms) hm.1 hm.2 ?_
  exact vx_ret (W.vret hx hb hr (fun t ht hW => ⟨⟨(), rfl, rfl, by show va_P _ _ _ _; rw [ht]; exact hP⟩, hS.F ht⟩) hS.2.2 hd hlk)
theorem V_widen {G : GG} {E : EE} {k n pc : Nat} {lv : List (Nat × Value)} {st : List Value} {w : WS} (k' n' : Nat) (h : k ≤ k' ∧ n ≤ n') (kk : VV G E k' n' pc lv st w) : VV G E k n pc lv st w := by
  obtain ⟨p, e, R, s, m, args, below, meth, c, Q, nL⟩ := E
  intro H locs ls hP hS hl
  exact W.widen h.1 h.2 (kk H locs ls hP hS hl)
