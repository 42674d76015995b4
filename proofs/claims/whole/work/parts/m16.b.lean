/-! rows of the law's own body-/
def XLw (G : GG) (E : EE) (b L : Nat) (xs : Nat → Int) : Prop := Cx G E code RL ret room_1 9 ∧ match E with
  | (p, e, R, s, m, args, below, meth, c, Q, nL) => TXs G s.heap.size s ∧ NCs s ∧ va_X b L (fun k => Int32.ofInt (xs k)) s s.heap ∧ b < s.heap.size ∧ (∀ i, i < NC → s.heap.size ≤ G.2.2.2 i) ∧ args = #[Value.ref b] ∧ Q = lw_Z below #[Value.ref b] s
theorem dec_ite (P : Prop) [Decidable P] : (if P then true else false) = decide P := by
  by_cases h : P
  · rw [if_pos h, decide_eq_true h]
  · rw [if_neg h, decide_eq_false h]
theorem out_b {ad : Nat → Nat} {sz b : Nat} (hb : b < sz) (had : ∀ i, i < NC → sz ≤ ad i) : ¬ FAd ad sz b := by
  rintro (⟨i, hi, rfl⟩ | h)
  · have := had i hi; omega
  · omega
theorem V_slen {G : GG} {E : EE} {b L : Nat} {xs : Nat → Int} (X : XLw G E b L xs) {k n pc : Nat} {lv : List (Nat × Value)} {st : List Value} {w : WS} (hd : decode code pc = .ok (.arraylength, 1)) (kk : VV G E k n (pc + 1) lv (vi (L : Int) :: st) w) : VV G E k n pc lv (.ref b :: st) w := by
  obtain ⟨p, e, R', s, m, args, below, meth, c, Q, nL'⟩ := E
  obtain ⟨⟨hx, hb, hml, hown, hts, hr, hlk, hK, hI, hN, rfl, rfl⟩, hT, hC, hX, hbl, had, rfl, rfl⟩ := X
  intro H locs ls hP hS hl
  have e : Int32.ofNat L = Int32.ofInt (L : Int) := nI_ofInt L
  refine va_slen hx hb hX hbl (out_b hbl had) hS hd ?_
  rw [e]
  exact kk H locs ls hP hS hl
theorem V_sld {G : GG} {E : EE} {b L : Nat} {xs : Nat → Int} (X : XLw G E b L xs) {k n pc : Nat} {lv : List (Nat × Value)} {st : List Value} {w : WS} {a : Int} {ρ : Type} {A : Option ρ} {r : ρ} (hd : decode code pc = .ok (.iaload, 1)) (hf : (if 0 ≤ wr a ∧ wr a < (L : Int) then A else none) = some r) (kk : A = some r → VV G E k n (pc + 1) lv (vi (xs (wr a).toNat) :: st) w) : VV G E k n pc lv (vi a :: .ref b :: st) w := by
  obtain ⟨p, e, R', s, m, args, below, meth, c, Q, nL'⟩ := E
  obtain ⟨⟨hx, hb, hml, hown, hts, hr, hlk, hK, hI, hN, rfl, rfl⟩, hT, hC, hX, hbl, had, rfl, rfl⟩ := X
  intro H locs ls hP hS hl
  obtain ⟨h, hf⟩ := ite_n hf
  refine va_sld hx hb hX hbl (out_b hbl had) hS (in_of h) hd ?_
  rw [cl_of]
  exact kk hf H locs ls hP hS hl
theorem V_iand63 {G : GG} {E : EE} {cc : ByteArray} {own : String} {ret : Option FieldType} {R : Room} {nL : Nat} (X : Cx G E cc own ret R nL) {k n pc : Nat} {lv : List (Nat × Value)} {st : List Value} {w : WS} {a : Int} (hd : decode cc pc = .ok (.iand, 1)) (kk : VV G E k n (pc + 1) lv (vi (a % 64) :: st) w) : VV G E k n pc lv (vi 63 :: vi a :: st) w := by
  obtain ⟨p, e, R', s, m, args, below, meth, c, Q, nL'⟩ := E
  obtain ⟨hx, hb, hml, hown, hts, hr, hlk, hK, hI, hN, rfl, rfl⟩ := X
  intro H locs ls hP hS hl
  refine lv_iand hx hb hd ?_
  have e : Int32.ofInt a &&& Int32.ofInt 63 = Int32.ofInt (a % 64) := by
    rw [pk_and _ 6 (by decide), bvn, nI_ofInt]
    congr 1
    omega
  rw [e]
  exact kk H locs ls hP hS hl
theorem V_fload {G : GG} {E : EE} {cc : ByteArray} {own : String} {ret : Option FieldType} {R : Room} {nL : Nat} (X : Cx G E cc own ret R nL) {k n pc : Nat} {lv : List (Nat × Value)} {st : List Value} {w : WS} {i : Nat} {a : Int} (hd : decode cc pc = .ok (.fload i, 2)) (h : lget lv i = some (vf a)) (kk : VV G E k n (pc + 2) lv (vf a :: st) w) : VV G E k n pc lv st w := by
  obtain ⟨p, e, R', s, m, args, below, meth, c, Q, nL'⟩ := E
  obtain ⟨hx, hb, hml, hown, hts, hr, hlk, hK, hI, hN, rfl, rfl⟩ := X
  intro H locs ls hP hS hl
  exact lv_fload hx hb hd (lat hl h) (kk H locs ls hP hS hl)
theorem V_dload {G : GG} {E : EE} {cc : ByteArray} {own : String} {ret : Option FieldType} {R : Room} {nL : Nat} (X : Cx G E cc own ret R nL) {k n pc : Nat} {lv : List (Nat × Value)} {st : List Value} {w : WS} {i : Nat} {a : Int} (hd : decode cc pc = .ok (.dload i, 2)) (h : lget lv i = some (vd a)) (kk : VV G E k n (pc + 2) lv (vd a :: st) w) : VV G E k n pc lv st w := by
  obtain ⟨p, e, R', s, m, args, below, meth, c, Q, nL'⟩ := E
  obtain ⟨hx, hb, hml, hown, hts, hr, hlk, hK, hI, hN, rfl, rfl⟩ := X
  intro H locs ls hP hS hl
  exact lv_dload hx hb hd (lat hl h) (kk H locs ls hP hS hl)
theorem V_fstore {G : GG} {E : EE} {cc : ByteArray} {own : String} {ret : Option FieldType} {R : Room} {nL : Nat} (X : Cx G E cc own ret R nL) {k n pc : Nat} {lv : List (Nat × Value)} {st : List Value} {w : WS} {i : Nat} {a : Int} (hd : decode cc pc = .ok (.fstore i, 2)) (hn : i < nL) (kk : VV G E k n (pc + 2) (lset lv i (vf a)) st w) : VV G E k n pc lv (vf a :: st) w := by
  obtain ⟨p, e, R', s, m, args, below, meth, c, Q, nL'⟩ := E
  obtain ⟨hx, hb, hml, hown, hts, hr, hlk, hK, hI, hN, rfl, rfl⟩ := X
  intro H locs ls hP hS hl
  exact lv_fstore hx hb hd hl hn rfl (fun ls hl => kk H locs ls hP hS hl)
theorem V_dstore {G : GG} {E : EE} {cc : ByteArray} {own : String} {ret : Option FieldType} {R : Room} {nL : Nat} (X : Cx G E cc own ret R nL) {k n pc : Nat} {lv : List (Nat × Value)} {st : List Value} {w : WS} {i : Nat} {a : Int} (hd : decode cc pc = .ok (.dstore i, 2)) (hn : i + 1 < nL) (kk : VV G E k n (pc + 2) (lsetL lv i (vd a)) st w) : VV G E k n pc lv (vd a :: st) w := by
  obtain ⟨p, e, R', s, m, args, below, meth, c, Q, nL'⟩ := E
  obtain ⟨hx, hb, hml, hown, hts, hr, hlk, hK, hI, hN, rfl, rfl⟩ := X
  intro H locs ls hP hS hl
  exact lv_dstore hx hb hd hl hn rfl (fun ls hl => kk H locs ls hP hS hl)
theorem V_dcmpS {G : GG} {E : EE} {cc : ByteArray} {own : String} {ret : Option FieldType} {R : Room} {nL : Nat} (X : Cx G E cc own ret R nL) {k n pc : Nat} {lv : List (Nat × Value)} {st : List Value} {w : WS} {a c9 : Int} {off : Int} {tgt pc2 : Nat} (hd : decode cc pc = .ok (.dcmp .l, 1)) (h2 : pc2 = pc + 1) (hd2 : decode cc pc2 = .ok (.ifCond .eq off, 3)) (ht : (pc2 : Int) + off = (tgt : Int)) (he : a = c9) (ok : okD a = true) (kk : VV G E k n tgt lv st w) : VV G E k n pc lv (vd c9 :: vd a :: st) w := by
  obtain ⟨p, e, R', s, m, args, below, meth, c, Q, nL'⟩ := E
  obtain ⟨hx, hb, hml, hown, hts, hr, hlk, hK, hI, hN, rfl, rfl⟩ := X
  intro H locs ls hP hS hl
  subst he
  subst h2
  refine lv_dcmp hx hb hd ?_
  have e : FP.dcmp (dB a) (dB a) = some .eq := by
    refine FP.Core.dcmp_self ?_
    rw [← FP.Core.notNaN_iff]
    unfold okD at ok
    cases h : FP.dIsNaN (dB a) with
    | true => rw [h] at ok; exact absurd ok (by decide)
    | false => exact h
  have e : FP.dcmp (UInt64.ofNat a.toNat) (UInt64.ofNat a.toNat) = some .eq := e
  rw [e]
  exact lv_if_eq hx hb hd2 ht (fun _ => kk H locs ls hP hS hl) (fun h => absurd rfl h)
theorem good_wW {own : String} {index maxL : Nat} {y : MethodName} {bytes : ByteArray} {ret : Option FieldType} {hh : List (Nat × Nat × Nat × Nat)} (hcode : Cond.codeWith y bytes maxL ret hh ∈ TT) (hini : Cond.initialized y.cls ∈ TT) (hli : Cond.methodLink own index y ∈ TT) (hst : Cond.static y ∈ TT) : GoodIn TT (va_wsS own index y (.codeWith y bytes maxL ret hh :: TT)) := by
  intro w hw
  have h : w ∈ TT := by
    rcases List.mem_cons.mp hw with rfl | hw
    · exact hli
    rcases List.mem_cons.mp hw with rfl | hw
    · exact hst
    rcases List.mem_cons.mp hw with rfl | hw
    · exact hini
    rcases List.mem_cons.mp hw with rfl | hw
    · exact hcode
    exact hw
  exact ⟨h, good_of_word (TT_good _ h)⟩
theorem V_lSW {G : GG} {E : EE} {b L : Nat} {xs : Nat → Int} (X : XLw G E b L xs) {k n pc : Nat} {lv : List (Nat × Value)} {w : WS} {index maxL : Nat} {y : MethodName} {bytes : ByteArray} {hh : List (Nat × Nat × Nat × Nat)} {rm : Room} {ρ : Type} {F : Option (Int × WS)} {K : Int → WS → Option ρ} {r0 : ρ} (hf : ob F K = some r0) (As rest : List Value) (nA : Nat) (hM : ∀ q, F = some q → MW G y bytes maxL (some .int) hh rm As w q) (hcode : Cond.codeWith y bytes maxL (some .int) hh ∈ TT) (hini : Cond.initialized y.cls ∈ TT) (hli : Cond.methodLink RL index y ∈ TT) (hst : Cond.static y ∈ TT) (hd : decode code pc = .ok (.invokestatic index, 3)) (hy : y.cls ≠ "java/lang/invoke/MethodHandle" ∧ y.cls ≠ "java/lang/invoke/VarHandle" ∧ (parseMethodDescriptor y.desc).map (fun d => d.parameters.length) = some nA) (hR : rm.frames + 1 ≤ room_1.frames ∧ 8 + (maxL + 11) + rm.locals ≤ room_1.locals) (hn : As.length = nA) (hcat : (rest.map fun v => v.category).sum ≤ 8) (hroom : k + rm.cells ≤ room_1.cells ∧ n + rm.slots ≤ room_1.slots) (kk : ∀ (r : Int) (w1 : WS), K r w1 = some r0 → VV G E (k + rm.cells) (n + rm.slots) (pc + 3) lv (vi r :: rest) w1) : VV G E k n pc lv (As.reverse ++ rest) w := by
  obtain ⟨p, e, R', s, m, args, below, meth, c, Q, nL'⟩ := E
  obtain ⟨⟨hx, hb, hml, hown, hts, hr, hlk, hK, hI, hN, rfl, rfl⟩, hT, hC, hX, hbl, had, rfl, rfl⟩ := X
  intro H locs ls hP hS hl
  obtain ⟨q9, hq, hf⟩ := obnd hf
  refine vx_calli (vx_runSX (As := As) (rest := rest) ⟨hx, hb, hml, hown, hts⟩ (hM q9 hq H.size) (vx_cwSW nA hts (good_wW hcode hini hli hst) rfl rfl rfl hy hR) ⟨PWr_blind, fun U hU hW => ⟨rfl, ⟨PW_call hP hK hI hN hU hW, TX_call hT hS hU hW⟩, NCs_moved hW.alike hC⟩⟩ rfl hn hl.1 rfl (lv_room hcat) hd ⟨hroom.1, hroom.2⟩) hS (fun q _ h => FAd_mono hS.1 q h) (fun q h => FAd_mono hS.1 q h) (fun q _ h => FAd_mono hS.1 q h) (fun E9 ce9 a9 u9 t9 H1 locs1 ht hvm hp9 hB hz1 hk1 hS1 hc1 hc2 hc3 => absurd hp9 id) (fun r9 u9 t9 H1 locs1 ht hvm hw9 hB hz1 hk1 hS1 => ?_)
  obtain rfl := hw9
  have hP1 : va_P G.2.1 vwCl (WL G.2.2.1 G.2.2.2 q9.2) H1 := by rw [← ht]; exact hB
  exact kk q9.1 q9.2 hf H1 locs1 ls hP1 hS1 hl
theorem V_lawret {G : GG} {E : EE} {b L : Nat} {xs : Nat → Int} (X : XLw G E b L xs) {k n pc : Nat} {lv : List (Nat × Value)} {w : WS} {q : Int × WS} (hk : k ≤ room_1.cells ∧ n ≤ room_1.slots) (hd : decode code pc = .ok (.ireturn, 1)) (_ : some ((1 : Int), w) = some q) : VV G E k n pc lv [vi 1] w := by
  obtain ⟨p, e, R', s, m, args, below, meth, c, Q, nL'⟩ := E
  obtain ⟨⟨hx, hb, hml, hown, hts, hr, hlk, hK, hI, hN, rfl, rfl⟩, hT, hC, hX, hbl, had, rfl, rfl⟩ := X
  intro H locs ls hP hS hl
  refine va_forget (fun q hq => ?_) ?_
  · rcases hS.2.2 q hq with ⟨i, hi, h⟩ | h
    · rw [h]; exact had i hi
    · exact h
  refine W.widen (k := room_1.cells) (n := room_1.slots) hk.1 hk.2 ?_
  exact W.base (lw_ret (Drawn.sameBut.refl s.drawn lw_cs) hx hb hr hlk hd)
