/-! String.indexOf over the two texts of the class-/
theorem jw_678 : Cond.methodLink RJ1 92 Lib.Math.max.name ∈ TT := TT_in (tm_3 _ (List.mem_of_getElem? (i := 198) rfl)) rfl
theorem jw_679 : Cond.static Lib.Math.max.name ∈ TT := TT_in (tm_3 _ (List.mem_of_getElem? (i := 199) rfl)) rfl
theorem jw_680 : Cond.code Lib.Math.max.name Lib.Math.max.code 2 (some .int) ∈ TT := TT_in (tm_3 _ (List.mem_of_getElem? (i := 200) rfl)) rfl
theorem jw_681 : Cond.methodLink RJ1 38 Lib.Math.min.name ∈ TT := TT_in (tm_3 _ (List.mem_of_getElem? (i := 201) rfl)) rfl
theorem jw_682 : Cond.static Lib.Math.min.name ∈ TT := TT_in (tm_3 _ (List.mem_of_getElem? (i := 202) rfl)) rfl
theorem jw_683 : Cond.code Lib.Math.min.name Lib.Math.min.code 2 (some .int) ∈ TT := TT_in (tm_3 _ (List.mem_of_getElem? (i := 203) rfl)) rfl
theorem jw_22 : Cond.initialized "java/lang/Math" ∈ TT := TT_in (tm_1 _ (List.mem_of_getElem? (i := 22) rfl)) rfl
theorem jw_662 : Cond.fieldLink RJ0 38 "java/lang/String" "COMPACT_STRINGS" "Z" ∈ TT := TT_in (tm_3 _ (List.mem_of_getElem? (i := 182) rfl)) rfl
theorem jw_1858 : Cond.fieldLink RJ0 15 "java/lang/String" "coder" "B" ∈ TT := TT_in (tm_8 _ (List.mem_of_getElem? (i := 178) rfl)) rfl
theorem jw_1859 : Cond.fieldLink RJ0 9 "java/lang/String" "value" "[B" ∈ TT := TT_in (tm_8 _ (List.mem_of_getElem? (i := 179) rfl)) rfl
theorem jw_671 : Cond.code yJ0_coder_7d493 cJ0_coder_7d493 1 (some .byte) ∈ TT := TT_in (tm_3 _ (List.mem_of_getElem? (i := 191) rfl)) rfl
theorem jw_19 : Cond.initialized RJ0 ∈ TT := TT_in (tm_1 _ (List.mem_of_getElem? (i := 19) rfl)) rfl
theorem jw_668 : Cond.methodLink RJ0 335 yJ0_coder_7d493 ∈ TT := TT_in (tm_3 _ (List.mem_of_getElem? (i := 188) rfl)) rfl
theorem jw_669 : Cond.instanceMethod yJ0_coder_7d493 ∈ TT := TT_in (tm_3 _ (List.mem_of_getElem? (i := 189) rfl)) rfl
theorem jw_670 : Cond.selects RJ0 yJ0_coder_7d493 yJ0_coder_7d493 ∈ TT := TT_in (tm_3 _ (List.mem_of_getElem? (i := 190) rfl)) rfl
theorem jw_677 : Cond.code yJ1_canEncode_9a6ad cJ1_canEncode_9a6ad 1 (some .boolean) ∈ TT := TT_in (tm_3 _ (List.mem_of_getElem? (i := 197) rfl)) rfl
theorem jw_21 : Cond.initialized RJ1 ∈ TT := TT_in (tm_1 _ (List.mem_of_getElem? (i := 21) rfl)) rfl
theorem jw_675 : Cond.methodLink RJ1 88 yJ1_canEncode_9a6ad ∈ TT := TT_in (tm_3 _ (List.mem_of_getElem? (i := 195) rfl)) rfl
theorem jw_676 : Cond.static yJ1_canEncode_9a6ad ∈ TT := TT_in (tm_3 _ (List.mem_of_getElem? (i := 196) rfl)) rfl
theorem jw_686 : Cond.code yJ1_indexOfChar_4cfef cJ1_indexOfChar_4cfef 6 (some .int) ∈ TT := TT_in (tm_3 _ (List.mem_of_getElem? (i := 206) rfl)) rfl
theorem jw_684 : Cond.methodLink RJ1 95 yJ1_indexOfChar_4cfef ∈ TT := TT_in (tm_3 _ (List.mem_of_getElem? (i := 204) rfl)) rfl
theorem jw_685 : Cond.static yJ1_indexOfChar_4cfef ∈ TT := TT_in (tm_3 _ (List.mem_of_getElem? (i := 205) rfl)) rfl
theorem jw_661 : Cond.code yJ0_isLatin1_aae02 cJ0_isLatin1_aae02 1 (some .boolean) ∈ TT := TT_in (tm_3 _ (List.mem_of_getElem? (i := 181) rfl)) rfl
theorem jw_658 : Cond.methodLink RJ0 492 yJ0_isLatin1_aae02 ∈ TT := TT_in (tm_3 _ (List.mem_of_getElem? (i := 178) rfl)) rfl
theorem jw_659 : Cond.instanceMethod yJ0_isLatin1_aae02 ∈ TT := TT_in (tm_3 _ (List.mem_of_getElem? (i := 179) rfl)) rfl
theorem jw_660 : Cond.selects RJ0 yJ0_isLatin1_aae02 yJ0_isLatin1_aae02 ∈ TT := TT_in (tm_3 _ (List.mem_of_getElem? (i := 180) rfl)) rfl
theorem jw_667 : Cond.code yJ0_length_8abf5 cJ0_length_8abf5 1 (some .int) ∈ TT := TT_in (tm_3 _ (List.mem_of_getElem? (i := 187) rfl)) rfl
theorem jw_664 : Cond.methodLink RJ0 505 yJ0_length_8abf5 ∈ TT := TT_in (tm_3 _ (List.mem_of_getElem? (i := 184) rfl)) rfl
theorem jw_665 : Cond.instanceMethod yJ0_length_8abf5 ∈ TT := TT_in (tm_3 _ (List.mem_of_getElem? (i := 185) rfl)) rfl
theorem jw_666 : Cond.selects RJ0 yJ0_length_8abf5 yJ0_length_8abf5 ∈ TT := TT_in (tm_3 _ (List.mem_of_getElem? (i := 186) rfl)) rfl
theorem jw_674 : Cond.code yJ1_indexOf_4cfef cJ1_indexOf_4cfef 4 (some .int) ∈ TT := TT_in (tm_3 _ (List.mem_of_getElem? (i := 194) rfl)) rfl
theorem jw_672 : Cond.methodLink RJ0 637 yJ1_indexOf_4cfef ∈ TT := TT_in (tm_3 _ (List.mem_of_getElem? (i := 192) rfl)) rfl
theorem jw_673 : Cond.static yJ1_indexOf_4cfef ∈ TT := TT_in (tm_3 _ (List.mem_of_getElem? (i := 193) rfl)) rfl
theorem jw_657 : Cond.code yJ0_indexOf_7cf53 cJ0_indexOf_7cf53 3 (some .int) ∈ TT := TT_in (tm_3 _ (List.mem_of_getElem? (i := 177) rfl)) rfl
theorem jw_654 : Cond.methodLink RJ0 633 yJ0_indexOf_7cf53 ∈ TT := TT_in (tm_3 _ (List.mem_of_getElem? (i := 174) rfl)) rfl
theorem jw_655 : Cond.instanceMethod yJ0_indexOf_7cf53 ∈ TT := TT_in (tm_3 _ (List.mem_of_getElem? (i := 175) rfl)) rfl
theorem jw_656 : Cond.selects RJ0 yJ0_indexOf_7cf53 yJ0_indexOf_7cf53 ∈ TT := TT_in (tm_3 _ (List.mem_of_getElem? (i := 176) rfl)) rfl
theorem jw_653 : Cond.code yJ0_indexOf_0f7a4 cJ0_indexOf_0f7a4 2 (some .int) ∈ TT := TT_in (tm_3 _ (List.mem_of_getElem? (i := 173) rfl)) rfl
theorem jw_650 : Cond.methodLink RX8 137 yJ0_indexOf_0f7a4 ∈ TT := TT_in (tm_3 _ (List.mem_of_getElem? (i := 170) rfl)) rfl
theorem jw_651 : Cond.instanceMethod yJ0_indexOf_0f7a4 ∈ TT := TT_in (tm_3 _ (List.mem_of_getElem? (i := 171) rfl)) rfl
theorem jw_652 : Cond.selects RJ0 yJ0_indexOf_0f7a4 yJ0_indexOf_0f7a4 ∈ TT := TT_in (tm_3 _ (List.mem_of_getElem? (i := 172) rfl)) rfl
theorem dJ0_length_8abf5_0 : decode cJ0_length_8abf5 0 = .ok (.aload_n 0, 1) := by decide +kernel
theorem dJ0_length_8abf5_1 : decode cJ0_length_8abf5 1 = .ok (.getfield 9, 3) := by decide +kernel
theorem dJ0_length_8abf5_4 : decode cJ0_length_8abf5 4 = .ok (.arraylength, 1) := by decide +kernel
theorem dJ0_length_8abf5_5 : decode cJ0_length_8abf5 5 = .ok (.aload_n 0, 1) := by decide +kernel
theorem dJ0_length_8abf5_6 : decode cJ0_length_8abf5 6 = .ok (.invokevirtual 335, 3) := by decide +kernel
theorem dJ0_length_8abf5_9 : decode cJ0_length_8abf5 9 = .ok (.ishr, 1) := by decide +kernel
theorem dJ0_length_8abf5_10 : decode cJ0_length_8abf5 10 = .ok (.ireturn, 1) := by decide +kernel
theorem dJ0_indexOf_0f7a4_0 : decode cJ0_indexOf_0f7a4 0 = .ok (.aload_n 0, 1) := by decide +kernel
theorem dJ0_indexOf_0f7a4_1 : decode cJ0_indexOf_0f7a4 1 = .ok (.iload_n 1, 1) := by decide +kernel
theorem dJ0_indexOf_0f7a4_2 : decode cJ0_indexOf_0f7a4 2 = .ok (.iconst 0, 1) := by decide +kernel
theorem dJ0_indexOf_0f7a4_3 : decode cJ0_indexOf_0f7a4 3 = .ok (.invokevirtual 633, 3) := by decide +kernel
theorem dJ0_indexOf_0f7a4_6 : decode cJ0_indexOf_0f7a4 6 = .ok (.ireturn, 1) := by decide +kernel
theorem dJ0_indexOf_7cf53_0 : decode cJ0_indexOf_7cf53 0 = .ok (.aload_n 0, 1) := by decide +kernel
theorem dJ0_indexOf_7cf53_1 : decode cJ0_indexOf_7cf53 1 = .ok (.invokevirtual 492, 3) := by decide +kernel
theorem dJ0_indexOf_7cf53_4 : decode cJ0_indexOf_7cf53 4 = .ok (.ifCond .eq 19, 3) := by decide +kernel
theorem dJ0_indexOf_7cf53_7 : decode cJ0_indexOf_7cf53 7 = .ok (.aload_n 0, 1) := by decide +kernel
theorem dJ0_indexOf_7cf53_8 : decode cJ0_indexOf_7cf53 8 = .ok (.getfield 9, 3) := by decide +kernel
theorem dJ0_indexOf_7cf53_11 : decode cJ0_indexOf_7cf53 11 = .ok (.iload_n 1, 1) := by decide +kernel
theorem dJ0_indexOf_7cf53_12 : decode cJ0_indexOf_7cf53 12 = .ok (.iload_n 2, 1) := by decide +kernel
theorem dJ0_indexOf_7cf53_13 : decode cJ0_indexOf_7cf53 13 = .ok (.aload_n 0, 1) := by decide +kernel
theorem dJ0_indexOf_7cf53_14 : decode cJ0_indexOf_7cf53 14 = .ok (.invokevirtual 505, 3) := by decide +kernel
theorem dJ0_indexOf_7cf53_17 : decode cJ0_indexOf_7cf53 17 = .ok (.invokestatic 637, 3) := by decide +kernel
theorem dJ0_indexOf_7cf53_20 : decode cJ0_indexOf_7cf53 20 = .ok (.goto 16, 3) := by decide +kernel
theorem dJ0_indexOf_7cf53_36 : decode cJ0_indexOf_7cf53 36 = .ok (.ireturn, 1) := by decide +kernel
theorem dJ0_coder_7d493_0 : decode cJ0_coder_7d493 0 = .ok (.getstatic 38, 3) := by decide +kernel
theorem dJ0_coder_7d493_3 : decode cJ0_coder_7d493 3 = .ok (.ifCond .eq 10, 3) := by decide +kernel
theorem dJ0_coder_7d493_6 : decode cJ0_coder_7d493 6 = .ok (.aload_n 0, 1) := by decide +kernel
theorem dJ0_coder_7d493_7 : decode cJ0_coder_7d493 7 = .ok (.getfield 15, 3) := by decide +kernel
theorem dJ0_coder_7d493_10 : decode cJ0_coder_7d493 10 = .ok (.goto 4, 3) := by decide +kernel
theorem dJ0_coder_7d493_13 : decode cJ0_coder_7d493 13 = .ok (.iconst 1, 1) := by decide +kernel
theorem dJ0_coder_7d493_14 : decode cJ0_coder_7d493 14 = .ok (.ireturn, 1) := by decide +kernel
theorem dJ0_isLatin1_aae02_0 : decode cJ0_isLatin1_aae02 0 = .ok (.getstatic 38, 3) := by decide +kernel
theorem dJ0_isLatin1_aae02_3 : decode cJ0_isLatin1_aae02 3 = .ok (.ifCond .eq 14, 3) := by decide +kernel
theorem dJ0_isLatin1_aae02_6 : decode cJ0_isLatin1_aae02 6 = .ok (.aload_n 0, 1) := by decide +kernel
theorem dJ0_isLatin1_aae02_7 : decode cJ0_isLatin1_aae02 7 = .ok (.getfield 15, 3) := by decide +kernel
theorem dJ0_isLatin1_aae02_10 : decode cJ0_isLatin1_aae02 10 = .ok (.ifCond .ne 7, 3) := by decide +kernel
theorem dJ0_isLatin1_aae02_13 : decode cJ0_isLatin1_aae02 13 = .ok (.iconst 1, 1) := by decide +kernel
theorem dJ0_isLatin1_aae02_14 : decode cJ0_isLatin1_aae02 14 = .ok (.goto 4, 3) := by decide +kernel
theorem dJ0_isLatin1_aae02_17 : decode cJ0_isLatin1_aae02 17 = .ok (.iconst 0, 1) := by decide +kernel
theorem dJ0_isLatin1_aae02_18 : decode cJ0_isLatin1_aae02 18 = .ok (.ireturn, 1) := by decide +kernel
theorem dJ1_canEncode_9a6ad_0 : decode cJ1_canEncode_9a6ad 0 = .ok (.iload_n 0, 1) := by decide +kernel
theorem dJ1_canEncode_9a6ad_1 : decode cJ1_canEncode_9a6ad 1 = .ok (.ifCond .lt 14, 3) := by decide +kernel
theorem dJ1_canEncode_9a6ad_4 : decode cJ1_canEncode_9a6ad 4 = .ok (.iload_n 0, 1) := by decide +kernel
theorem dJ1_canEncode_9a6ad_5 : decode cJ1_canEncode_9a6ad 5 = .ok (.sipush 255, 3) := by decide +kernel
theorem dJ1_canEncode_9a6ad_8 : decode cJ1_canEncode_9a6ad 8 = .ok (.if_icmp .gt 7, 3) := by decide +kernel
theorem dJ1_canEncode_9a6ad_11 : decode cJ1_canEncode_9a6ad 11 = .ok (.iconst 1, 1) := by decide +kernel
theorem dJ1_canEncode_9a6ad_12 : decode cJ1_canEncode_9a6ad 12 = .ok (.goto 4, 3) := by decide +kernel
theorem dJ1_canEncode_9a6ad_15 : decode cJ1_canEncode_9a6ad 15 = .ok (.iconst 0, 1) := by decide +kernel
theorem dJ1_canEncode_9a6ad_16 : decode cJ1_canEncode_9a6ad 16 = .ok (.ireturn, 1) := by decide +kernel
theorem dJ1_indexOf_4cfef_0 : decode cJ1_indexOf_4cfef 0 = .ok (.iload_n 1, 1) := by decide +kernel
theorem dJ1_indexOf_4cfef_1 : decode cJ1_indexOf_4cfef 1 = .ok (.invokestatic 88, 3) := by decide +kernel
theorem dJ1_indexOf_4cfef_4 : decode cJ1_indexOf_4cfef 4 = .ok (.ifCond .ne 5, 3) := by decide +kernel
theorem dJ1_indexOf_4cfef_7 : decode cJ1_indexOf_4cfef 7 = .ok (.iconst (-1), 1) := by decide +kernel
theorem dJ1_indexOf_4cfef_8 : decode cJ1_indexOf_4cfef 8 = .ok (.ireturn, 1) := by decide +kernel
theorem dJ1_indexOf_4cfef_9 : decode cJ1_indexOf_4cfef 9 = .ok (.iload_n 2, 1) := by decide +kernel
theorem dJ1_indexOf_4cfef_10 : decode cJ1_indexOf_4cfef 10 = .ok (.iconst 0, 1) := by decide +kernel
theorem dJ1_indexOf_4cfef_11 : decode cJ1_indexOf_4cfef 11 = .ok (.invokestatic 92, 3) := by decide +kernel
theorem dJ1_indexOf_4cfef_14 : decode cJ1_indexOf_4cfef 14 = .ok (.istore_n 2, 1) := by decide +kernel
theorem dJ1_indexOf_4cfef_15 : decode cJ1_indexOf_4cfef 15 = .ok (.iload_n 3, 1) := by decide +kernel
theorem dJ1_indexOf_4cfef_16 : decode cJ1_indexOf_4cfef 16 = .ok (.aload_n 0, 1) := by decide +kernel
theorem dJ1_indexOf_4cfef_17 : decode cJ1_indexOf_4cfef 17 = .ok (.arraylength, 1) := by decide +kernel
theorem dJ1_indexOf_4cfef_18 : decode cJ1_indexOf_4cfef 18 = .ok (.invokestatic 38, 3) := by decide +kernel
theorem dJ1_indexOf_4cfef_21 : decode cJ1_indexOf_4cfef 21 = .ok (.istore_n 3, 1) := by decide +kernel
theorem dJ1_indexOf_4cfef_22 : decode cJ1_indexOf_4cfef 22 = .ok (.iload_n 2, 1) := by decide +kernel
theorem dJ1_indexOf_4cfef_23 : decode cJ1_indexOf_4cfef 23 = .ok (.iload_n 3, 1) := by decide +kernel
theorem dJ1_indexOf_4cfef_24 : decode cJ1_indexOf_4cfef 24 = .ok (.if_icmp .lt 5, 3) := by decide +kernel
theorem dJ1_indexOf_4cfef_27 : decode cJ1_indexOf_4cfef 27 = .ok (.iconst (-1), 1) := by decide +kernel
theorem dJ1_indexOf_4cfef_28 : decode cJ1_indexOf_4cfef 28 = .ok (.ireturn, 1) := by decide +kernel
theorem dJ1_indexOf_4cfef_29 : decode cJ1_indexOf_4cfef 29 = .ok (.aload_n 0, 1) := by decide +kernel
theorem dJ1_indexOf_4cfef_30 : decode cJ1_indexOf_4cfef 30 = .ok (.iload_n 1, 1) := by decide +kernel
theorem dJ1_indexOf_4cfef_31 : decode cJ1_indexOf_4cfef 31 = .ok (.iload_n 2, 1) := by decide +kernel
theorem dJ1_indexOf_4cfef_32 : decode cJ1_indexOf_4cfef 32 = .ok (.iload_n 3, 1) := by decide +kernel
theorem dJ1_indexOf_4cfef_33 : decode cJ1_indexOf_4cfef 33 = .ok (.invokestatic 95, 3) := by decide +kernel
theorem dJ1_indexOf_4cfef_36 : decode cJ1_indexOf_4cfef 36 = .ok (.ireturn, 1) := by decide +kernel
theorem dJ1_indexOfChar_4cfef_0 : decode cJ1_indexOfChar_4cfef 0 = .ok (.iload_n 1, 1) := by decide +kernel
theorem dJ1_indexOfChar_4cfef_1 : decode cJ1_indexOfChar_4cfef 1 = .ok (.i2b, 1) := by decide +kernel
theorem dJ1_indexOfChar_4cfef_2 : decode cJ1_indexOfChar_4cfef 2 = .ok (.istore 4, 2) := by decide +kernel
theorem dJ1_indexOfChar_4cfef_4 : decode cJ1_indexOfChar_4cfef 4 = .ok (.iload_n 2, 1) := by decide +kernel
theorem dJ1_indexOfChar_4cfef_5 : decode cJ1_indexOfChar_4cfef 5 = .ok (.istore 5, 2) := by decide +kernel
theorem dJ1_indexOfChar_4cfef_7 : decode cJ1_indexOfChar_4cfef 7 = .ok (.iload 5, 2) := by decide +kernel
theorem dJ1_indexOfChar_4cfef_9 : decode cJ1_indexOfChar_4cfef 9 = .ok (.iload_n 3, 1) := by decide +kernel
theorem dJ1_indexOfChar_4cfef_10 : decode cJ1_indexOfChar_4cfef 10 = .ok (.if_icmp .ge 21, 3) := by decide +kernel
theorem dJ1_indexOfChar_4cfef_13 : decode cJ1_indexOfChar_4cfef 13 = .ok (.aload_n 0, 1) := by decide +kernel
theorem dJ1_indexOfChar_4cfef_14 : decode cJ1_indexOfChar_4cfef 14 = .ok (.iload 5, 2) := by decide +kernel
theorem dJ1_indexOfChar_4cfef_16 : decode cJ1_indexOfChar_4cfef 16 = .ok (.baload, 1) := by decide +kernel
theorem dJ1_indexOfChar_4cfef_17 : decode cJ1_indexOfChar_4cfef 17 = .ok (.iload 4, 2) := by decide +kernel
theorem dJ1_indexOfChar_4cfef_19 : decode cJ1_indexOfChar_4cfef 19 = .ok (.if_icmp .ne 6, 3) := by decide +kernel
theorem dJ1_indexOfChar_4cfef_22 : decode cJ1_indexOfChar_4cfef 22 = .ok (.iload 5, 2) := by decide +kernel
theorem dJ1_indexOfChar_4cfef_24 : decode cJ1_indexOfChar_4cfef 24 = .ok (.ireturn, 1) := by decide +kernel
theorem dJ1_indexOfChar_4cfef_25 : decode cJ1_indexOfChar_4cfef 25 = .ok (.iinc 5 1, 3) := by decide +kernel
theorem dJ1_indexOfChar_4cfef_28 : decode cJ1_indexOfChar_4cfef 28 = .ok (.goto (-21), 3) := by decide +kernel
theorem dJ1_indexOfChar_4cfef_31 : decode cJ1_indexOfChar_4cfef 31 = .ok (.iconst (-1), 1) := by decide +kernel
theorem dJ1_indexOfChar_4cfef_32 : decode cJ1_indexOfChar_4cfef 32 = .ok (.ireturn, 1) := by decide +kernel
abbrev TxJ : Type := Nat × String × List Int
def SJ (G : GG) (E : EE) (t : TxJ) (sa va : Nat) : Prop := match E with
  | (p, e, R, s, m, args, below, meth, c, Q, nL) => va_Z "java/lang/String" "COMPACT_STRINGS" "Z" (.int 1) (FAd G.2.2.2 s.heap.size) s s.heap ∧ SW1 (FAd G.2.2.2 s.heap.size) s s.heap t sa va
def PJ (G : GG) (sz : Nat) (w : WS) (t : TxJ) (sa va : Nat) (U : State) : Prop := PW G sz w U ∧ va_Z "java/lang/String" "COMPACT_STRINGS" "Z" (.int 1) (FAd G.2.2.2 sz) U U.heap ∧ SW1 (FAd G.2.2.2 sz) U U.heap t sa va
def MJ (G : GG) (y : MethodName) (bytes : ByteArray) (maxL : Nat) (ret : Option FieldType) (rm : Room) (As : List Value) (w : WS) (t : TxJ) (sa va : Nat) (r : Int) : Prop := ∀ sz : Nat, Met G.1 y (.code y bytes maxL ret :: TT) rm (va_Pc As (PJ G sz w t sa va)) (QI G (r, w) sz) 0 0 (FAd G.2.2.2 sz)
theorem MJ_of {G : GG} {y : MethodName} {bytes : ByteArray} {maxL : Nat} {ret : Option FieldType} {rm : Room} {As : List Value} {w : WS} {t : TxJ} {sa va : Nat} {r : Int} (hy : plainName y.cls = true) (hlen : (lg_sl As).length ≤ maxL) (body : ∀ E : EE, Cx G E bytes y.cls ret rm maxL → SJ G E t sa va → EndI G E (r, w) → VV G E 0 0 0 (lv_args 0 As) [] w) : MJ G y bytes maxL ret rm As w t sa va r := by
  intro sz
  refine Met.ofW (cc := bytes) (maxL := maxL) (ret := ret) hy rfl ?_
  intro p e s m args below meth c s₁ B hml hv
  obtain ⟨rfl, ⟨hsz, hP, hK, hI, hN⟩, hJ⟩ := hv
  subst hsz
  have hts := atoms_spec (ws := .code y bytes maxL ret :: TT) B.pre
  rw [lg_entry_eq]
  have hl := lv_entry As (n := maxL) hlen
  exact body (p, e, rm, s, m, As.toArray, below, meth, c, _, maxL) ⟨B.exec, B.bytes, hml, findClass_of_methodNamed B.named, fun w hw => hts w (List.mem_cons_of_mem _ hw), B.returns, B.notSynchronized, hK, hI, hN, rfl, rfl⟩ hJ rfl s.heap [] _ hP va_S.rf hl
theorem SW1_call {ad : Nat → Nat} {s : State} {H : Heap} {locs : List Loc} {t : TxJ} {sa va : Nat} (h : SW1 (FAd ad s.heap.size) s s.heap t sa va) (hS : va_S (FAd ad s.heap.size) s.heap H locs) {U : State} (hU : U.heap = H) (hW : s.WarmedH U.vm) : SW1 (FAd ad H.size) U U.heap t sa va := by
  have hm : ∀ q, FAd ad H.size q → FAd ad s.heap.size q := fun q h => FAd_mono hS.1 q h
  obtain ⟨a1, a2, a3, a4, a5⟩ := h
  rw [hU]
  exact ⟨vk_R.warm hW a1, va_O.narrow (va_O.moved hW.alike (a2.kept hS.2.1)) hm, va_OF.narrow (va_OF.moved hW.alike (a3.kept hS.2.1)) hm, va_OF.narrow (va_OF.moved hW.alike (a4.kept hS.2.1)) hm, va_T.narrow (va_T.moved hW.alike (a5.kept hS.2.1)) hm⟩
theorem Z_call {ad : Nat → Nat} {C n d : String} {v : Value} {s : State} {H : Heap} {locs : List Loc} (h : va_Z C n d v (FAd ad s.heap.size) s s.heap) (hS : va_S (FAd ad s.heap.size) s.heap H locs) {U : State} (hU : U.heap = H) (hW : s.WarmedH U.vm) : va_Z C n d v (FAd ad H.size) U U.heap := by
  rw [hU]
  exact va_Z.narrow (va_Z.moved hW.alike (h.kept hS.2.1)) (fun q h => FAd_mono hS.1 q h)
theorem PJ_blind {G : GG} {As : List Value} {sz : Nat} {w : WS} {t : TxJ} {sa va : Nat} : FrameBlind (va_Pc As (PJ G sz w t sa va)) := by
  intro a U g mk h
  obtain ⟨h0, h1, h2, a1, a2, a3, a4, a5⟩ := h
  have al := Vm.Alike.refl U.vm
  exact ⟨h0, (PW_blind (G := G) (As := As) (sz := sz) (w := w) a U g mk ⟨h0, h1⟩).2, va_Z.moved (u := U) (U := U.calling g mk a) al h2, vk_R.same (u := U) (U := U.calling g mk a) rfl a1, va_O.moved (u := U) (U := U.calling g mk a) al a2, va_OF.moved (u := U) (U := U.calling g mk a) al a3, va_OF.moved (u := U) (U := U.calling g mk a) al a4, va_T.moved (u := U) (U := U.calling g mk a) al a5⟩
theorem V_cJV {G : GG} {E : EE} {cc : ByteArray} {own : String} {ret : Option FieldType} {R : Room} {nL : Nat} (X : Cx G E cc own ret R nL) {t : TxJ} {sa va : Nat} (hJ : SJ G E t sa va) {k n pc : Nat} {lv : List (Nat × Value)} {w : WS} {index maxL : Nat} {y : MethodName} {bytes : ByteArray} {ret9 : Option FieldType} {rm : Room} {r : Int} (As rest : List Value) (nA : Nat) (hM : MJ G y bytes maxL ret9 rm (.ref sa :: As) w t sa va r) (hcode : Cond.code y bytes maxL ret9 ∈ TT) (hini : Cond.initialized y.cls ∈ TT) (hli : Cond.methodLink own index y ∈ TT) (hinst : Cond.instanceMethod y ∈ TT) (hsel : Cond.selects "java/lang/String" y y ∈ TT) (hd : decode cc pc = .ok (.invokevirtual index, 3)) (hy : y.cls ≠ "java/lang/invoke/MethodHandle" ∧ y.cls ≠ "java/lang/invoke/VarHandle" ∧ (parseMethodDescriptor y.desc).map (fun d => d.parameters.length) = some nA) (hrc : rm.cells = 0 ∧ rm.slots = 0) (hR : rm.frames + 1 ≤ R.frames ∧ 8 + (maxL + 11) + rm.locals ≤ R.locals) (hn : As.length = nA) (hcat : (rest.map fun v => v.category).sum ≤ 8) (hroom : k ≤ R.cells ∧ n ≤ R.slots) (kk : VV G E k n (pc + 3) lv (vi r :: rest) w) : VV G E k n pc lv (As.reverse ++ .ref sa :: rest) w := by
  obtain ⟨p, e, R', s, m, args, below, meth, c, Q, nL'⟩ := E
  obtain ⟨hx, hb, hml, hown, hts, hr, hlk, hK, hI, hN, rfl, rfl⟩ := X
  obtain ⟨hZ, z1, z2, z3, z4, z5⟩ := hJ
  intro H locs ls hP hS hl
  refine va_calli (va_runV (As := As) (rest := rest) ⟨hx, hb, hml, hown, hts⟩ (hM H.size) ⟨callB_of nA hts (good_ws hcode) rfl hrc.1 hrc.2 (hts _ hini) (hts _ hli) hy hR, hts _ hinst, hts _ hsel⟩ ⟨PJ_blind, (let ⟨c9, h1, h2, h3, _⟩ := z2.kept hS.2.1; ⟨c9, h1, h2, h3⟩), fun U hU hW => ⟨rfl, PW_call hP hK hI hN hU hW, Z_call hZ hS hU hW, SW1_call ⟨z1, z2, z3, z4, z5⟩ hS hU hW⟩⟩ rfl hn hl.1 rfl (lv_room hcat) hd ⟨hroom.1, hroom.2⟩) hS (fun q _ h => FAd_mono hS.1 q h) (fun q h => FAd_mono hS.1 q h) (fun r9 u9 t9 H1 locs1 ht hvm hw9 hB hz1 hk1 hS1 => ?_)
  obtain rfl := hw9
  have hP1 : va_P G.2.1 vwCl (WL G.2.2.1 G.2.2.2 w) H1 := by rw [← ht]; exact hB
  exact kk H1 locs1 ls hP1 hS1 hl
theorem V_cJS {G : GG} {E : EE} {cc : ByteArray} {own : String} {ret : Option FieldType} {R : Room} {nL : Nat} (X : Cx G E cc own ret R nL) {t : TxJ} {sa va : Nat} (hJ : SJ G E t sa va) {k n pc : Nat} {lv : List (Nat × Value)} {w : WS} {index maxL : Nat} {y : MethodName} {bytes : ByteArray} {ret9 : Option FieldType} {rm : Room} {r : Int} (As rest : List Value) (nA : Nat) (hM : MJ G y bytes maxL ret9 rm As w t sa va r) (hcode : Cond.code y bytes maxL ret9 ∈ TT) (hini : Cond.initialized y.cls ∈ TT) (hli : Cond.methodLink own index y ∈ TT) (hst : Cond.static y ∈ TT) (hd : decode cc pc = .ok (.invokestatic index, 3)) (hy : y.cls ≠ "java/lang/invoke/MethodHandle" ∧ y.cls ≠ "java/lang/invoke/VarHandle" ∧ (parseMethodDescriptor y.desc).map (fun d => d.parameters.length) = some nA) (hrc : rm.cells = 0 ∧ rm.slots = 0) (hR : rm.frames + 1 ≤ R.frames ∧ 8 + (maxL + 11) + rm.locals ≤ R.locals) (hn : As.length = nA) (hcat : (rest.map fun v => v.category).sum ≤ 8) (hroom : k ≤ R.cells ∧ n ≤ R.slots) (kk : VV G E k n (pc + 3) lv (vi r :: rest) w) : VV G E k n pc lv (As.reverse ++ rest) w := by
  obtain ⟨p, e, R', s, m, args, below, meth, c, Q, nL'⟩ := E
  obtain ⟨hx, hb, hml, hown, hts, hr, hlk, hK, hI, hN, rfl, rfl⟩ := X
  obtain ⟨hZ, z1, z2, z3, z4, z5⟩ := hJ
  intro H locs ls hP hS hl
  refine va_calli (va_runS (As := As) (rest := rest) ⟨hx, hb, hml, hown, hts⟩ (hM H.size) ⟨callB_of nA hts (good_ws hcode) rfl hrc.1 hrc.2 (hts _ hini) (hts _ hli) hy hR, hts _ hst⟩ ⟨PJ_blind, fun U hU hW => ⟨rfl, PW_call hP hK hI hN hU hW, Z_call hZ hS hU hW, SW1_call ⟨z1, z2, z3, z4, z5⟩ hS hU hW⟩⟩ rfl hn hl.1 rfl (lv_room hcat) hd ⟨hroom.1, hroom.2⟩) hS (fun q _ h => FAd_mono hS.1 q h) (fun q h => FAd_mono hS.1 q h) (fun r9 u9 t9 H1 locs1 ht hvm hw9 hB hz1 hk1 hS1 => ?_)
  obtain rfl := hw9
  have hP1 : va_P G.2.1 vwCl (WL G.2.2.1 G.2.2.2 w) H1 := by rw [← ht]; exact hB
  exact kk H1 locs1 ls hP1 hS1 hl
theorem V_Jstat {G : GG} {E : EE} {cc : ByteArray} {own : String} {ret : Option FieldType} {R : Room} {nL : Nat} (X : Cx G E cc own ret R nL) {t : TxJ} {sa va : Nat} (hJ : SJ G E t sa va) {k n pc : Nat} {lv : List (Nat × Value)} {st : List Value} {w : WS} {index : Nat} (hli : Cond.fieldLink own index "java/lang/String" "COMPACT_STRINGS" "Z" ∈ TT) (hd : decode cc pc = .ok (.getstatic index, 3)) (kk : VV G E k n (pc + 3) lv (vi 1 :: st) w) : VV G E k n pc lv st w := by
  obtain ⟨p, e, R', s, m, args, below, meth, c, Q, nL'⟩ := E
  obtain ⟨hx, hb, hml, hown, hts, hr, hlk, hK, hI, hN, rfl, rfl⟩ := X
  obtain ⟨hZ, z1, z2, z3, z4, z5⟩ := hJ
  intro H locs ls hP hS hl
  exact va_gets hx hb hZ hS hown (hts _ hli) (fun _ h => h) hd (kk H locs ls hP hS hl)
theorem V_Jcod {G : GG} {E : EE} {cc : ByteArray} {own : String} {ret : Option FieldType} {R : Room} {nL : Nat} (X : Cx G E cc own ret R nL) {t : TxJ} {sa va : Nat} (hJ : SJ G E t sa va) {k n pc : Nat} {lv : List (Nat × Value)} {st : List Value} {w : WS} {index : Nat} (hli : Cond.fieldLink own index "java/lang/String" "coder" "B" ∈ TT) (hd : decode cc pc = .ok (.getfield index, 3)) (kk : VV G E k n (pc + 3) lv (vi 0 :: st) w) : VV G E k n pc lv (.ref sa :: st) w := by
  obtain ⟨p, e, R', s, m, args, below, meth, c, Q, nL'⟩ := E
  obtain ⟨hx, hb, hml, hown, hts, hr, hlk, hK, hI, hN, rfl, rfl⟩ := X
  obtain ⟨hZ, z1, z2, z3, z4, z5⟩ := hJ
  intro H locs ls hP hS hl
  exact vk_getf hx hb z3 hS hown (hts _ hli) (fun _ h => h) hd (kk H locs ls hP hS hl)
theorem V_Jval {G : GG} {E : EE} {cc : ByteArray} {own : String} {ret : Option FieldType} {R : Room} {nL : Nat} (X : Cx G E cc own ret R nL) {t : TxJ} {sa va : Nat} (hJ : SJ G E t sa va) {k n pc : Nat} {lv : List (Nat × Value)} {st : List Value} {w : WS} {index : Nat} (hli : Cond.fieldLink own index "java/lang/String" "value" "[B" ∈ TT) (hd : decode cc pc = .ok (.getfield index, 3)) (kk : VV G E k n (pc + 3) lv (.ref va :: st) w) : VV G E k n pc lv (.ref sa :: st) w := by
  obtain ⟨p, e, R', s, m, args, below, meth, c, Q, nL'⟩ := E
  obtain ⟨hx, hb, hml, hown, hts, hr, hlk, hK, hI, hN, rfl, rfl⟩ := X
  obtain ⟨hZ, z1, z2, z3, z4, z5⟩ := hJ
  intro H locs ls hP hS hl
  exact vk_getf hx hb z4 hS hown (hts _ hli) (fun _ h => h) hd (kk H locs ls hP hS hl)
theorem V_Jlen {G : GG} {E : EE} {cc : ByteArray} {own : String} {ret : Option FieldType} {R : Room} {nL : Nat} (X : Cx G E cc own ret R nL) {t : TxJ} {sa va : Nat} (hJ : SJ G E t sa va) {k n pc : Nat} {lv : List (Nat × Value)} {st : List Value} {w : WS} (hd : decode cc pc = .ok (.arraylength, 1)) (kk : VV G E k n (pc + 1) lv (vi (t.2.2.length : Int) :: st) w) : VV G E k n pc lv (.ref va :: st) w := by
  obtain ⟨p, e, R', s, m, args, below, meth, c, Q, nL'⟩ := E
  obtain ⟨hx, hb, hml, hown, hts, hr, hlk, hK, hI, hN, rfl, rfl⟩ := X
  obtain ⟨hZ, z1, z2, z3, z4, z5⟩ := hJ
  intro H locs ls hP hS hl
  exact va_tlen hx hb z5 hS (nI_ofInt _) hd (kk H locs ls hP hS hl)
theorem V_Jb {G : GG} {E : EE} {cc : ByteArray} {own : String} {ret : Option FieldType} {R : Room} {nL : Nat} (X : Cx G E cc own ret R nL) {t : TxJ} {sa va : Nat} (hJ : SJ G E t sa va) {k n pc : Nat} {lv : List (Nat × Value)} {st : List Value} {w : WS} {a : Int} (ha : 0 ≤ wr a ∧ wr a < (t.2.2.length : Int)) (hd : decode cc pc = .ok (.baload, 1)) (kk : VV G E k n (pc + 1) lv (vi (t.2.2.getD (wr a).toNat 0) :: st) w) : VV G E k n pc lv (vi a :: .ref va :: st) w := by
  obtain ⟨p, e, R', s, m, args, below, meth, c, Q, nL'⟩ := E
  obtain ⟨hx, hb, hml, hown, hts, hr, hlk, hK, hI, hN, rfl, rfl⟩ := X
  obtain ⟨hZ, z1, z2, z3, z4, z5⟩ := hJ
  intro H locs ls hP hS hl
  exact va_tb hx hb z5 hS (in_of ha) (by rw [cl_of]; rfl) hd (kk H locs ls hP hS hl)
theorem i2b_of (a : Int) : (Int32.ofInt a).toInt8.toInt32 = Int32.ofInt (a.bmod 256) := by
  apply Int32.toInt_inj.mp
  rw [Int8.toInt_toInt32, Int32.toInt_toInt8, wr_toInt, wr_toInt]
  unfold wr
  rw [Int.bmod_bmod_of_dvd (by decide)]
  have h := Int.bmod_lt (x := a) (m := 256) (by decide)
  have h2 := Int.le_bmod (x := a) (m := 256) (by decide)
  exact (wr_eq (a := a.bmod 256) (by omega)).symm
theorem V_i2b {G : GG} {E : EE} {cc : ByteArray} {own : String} {ret : Option FieldType} {R : Room} {nL : Nat} (X : Cx G E cc own ret R nL) {k n pc : Nat} {lv : List (Nat × Value)} {st : List Value} {w : WS} {a : Int} (hd : decode cc pc = .ok (.i2b, 1)) (kk : VV G E k n (pc + 1) lv (vi (a.bmod 256) :: st) w) : VV G E k n pc lv (vi a :: st) w := by
  obtain ⟨p, e, R', s, m, args, below, meth, c, Q, nL'⟩ := E
  obtain ⟨hx, hb, hml, hown, hts, hr, hlk, hK, hI, hN, rfl, rfl⟩ := X
  intro H locs ls hP hS hl
  exact lv_i2b hx hb hd (i2b_of a) (kk H locs ls hP hS hl)
theorem V_ishr0 {G : GG} {E : EE} {cc : ByteArray} {own : String} {ret : Option FieldType} {R : Room} {nL : Nat} (X : Cx G E cc own ret R nL) {k n pc : Nat} {lv : List (Nat × Value)} {st : List Value} {w : WS} {a : Int} (hd : decode cc pc = .ok (.ishr, 1)) (kk : VV G E k n (pc + 1) lv (vi a :: st) w) : VV G E k n pc lv (vi 0 :: vi a :: st) w := by
  obtain ⟨p, e, R', s, m, args, below, meth, c, Q, nL'⟩ := E
  obtain ⟨hx, hb, hml, hown, hts, hr, hlk, hK, hI, hN, rfl, rfl⟩ := X
  intro H locs ls hP hS hl
  refine lv_ishr hx hb hd ?_
  have e : Int32.ofInt a >>> (Int32.ofInt 0 &&& 31) = Int32.ofInt a := by
    show Int32.ofInt a >>> (0 : Int32) = _
    exact Int32.shiftRight_zero
  rw [e]
  exact kk H locs ls hP hS hl
theorem V_bret {G : GG} {E : EE} {cc : ByteArray} {own : String} {R : Room} {nL : Nat} (X : Cx G E cc own (some .byte) R nL) {w : WS} (hE : EndI G E (0, w)) {pc : Nat} {lv : List (Nat × Value)} (hd : decode cc pc = .ok (.ireturn, 1)) : VV G E 0 0 pc lv [vi 0] w := by
  obtain ⟨p, e, R', s, m, args, below, meth, c, Q, nL'⟩ := E
  obtain ⟨hx, hb, hml, hown, hts, hr, hlk, hK, hI, hN, rfl, rfl⟩ := X
  intro H locs ls hP hS hl
  have hE : Q = _ := hE
  subst hE
  exact W.zret hx hb hr rfl (fun t ht hW => ⟨⟨_, (), rfl, rfl, by show va_P _ _ _ _; rw [ht]; exact hP⟩, hS.F ht⟩) hS.2.2 hd hlk
theorem V_mmax {G : GG} {E : EE} {cc : ByteArray} {own : String} {ret : Option FieldType} {R : Room} {nL : Nat} (X : Cx G E cc own ret R nL) {k n pc : Nat} {lv : List (Nat × Value)} {w : WS} {st : List Value} {index : Nat} {a b : Int} (hli : Cond.methodLink own index Lib.Math.max.name ∈ TT) (hst : Cond.static Lib.Math.max.name ∈ TT) (hini : Cond.initialized "java/lang/Math" ∈ TT) (hcode : Cond.code Lib.Math.max.name Lib.Math.max.code 2 (some .int) ∈ TT) (hf : 1 ≤ R.frames) (hlo : (st.map fun v => v.category).sum + 13 ≤ R.locals) (hroom : k ≤ R.cells ∧ n ≤ R.slots) (hd : decode cc pc = .ok (.invokestatic index, 3)) (kk : VV G E k n (pc + 3) lv (vi (if wr a < wr b then b else a) :: st) w) : VV G E k n pc lv (vi b :: vi a :: st) w := by
  obtain ⟨p, e, R', s, m, args, below, meth, c, Q, nL'⟩ := E
  obtain ⟨hx, hb, hml, hown, hts, hr, hlk, hK, hI, hN, rfl, rfl⟩ := X
  intro H locs ls hP hS hl
  refine va_mmax hx hb (hml.trans hl.1.symm) hown (hts _ hli) (hts _ hst) (hts _ hini) (hts _ hcode) hf hlo hroom.1 hroom.2 hd ?_
  have e : (if Int32.ofInt a < Int32.ofInt b then Int32.ofInt b else Int32.ofInt a) = Int32.ofInt (if wr a < wr b then b else a) := by
    by_cases h : wr a < wr b
    · rw [if_pos ((lt_of32 a b).mpr h), if_pos h]
    · rw [if_neg (fun q => h ((lt_of32 a b).mp q)), if_neg h]
  rw [e]
  exact kk H locs ls hP hS hl
theorem V_mmin {G : GG} {E : EE} {cc : ByteArray} {own : String} {ret : Option FieldType} {R : Room} {nL : Nat} (X : Cx G E cc own ret R nL) {k n pc : Nat} {lv : List (Nat × Value)} {w : WS} {st : List Value} {index : Nat} {a b : Int} (hli : Cond.methodLink own index Lib.Math.min.name ∈ TT) (hst : Cond.static Lib.Math.min.name ∈ TT) (hini : Cond.initialized "java/lang/Math" ∈ TT) (hcode : Cond.code Lib.Math.min.name Lib.Math.min.code 2 (some .int) ∈ TT) (hf : 1 ≤ R.frames) (hlo : (st.map fun v => v.category).sum + 13 ≤ R.locals) (hroom : k ≤ R.cells ∧ n ≤ R.slots) (hd : decode cc pc = .ok (.invokestatic index, 3)) (kk : VV G E k n (pc + 3) lv (vi (if wr b < wr a then b else a) :: st) w) : VV G E k n pc lv (vi b :: vi a :: st) w := by
  obtain ⟨p, e, R', s, m, args, below, meth, c, Q, nL'⟩ := E
  obtain ⟨hx, hb, hml, hown, hts, hr, hlk, hK, hI, hN, rfl, rfl⟩ := X
  intro H locs ls hP hS hl
  refine va_mmin hx hb (hml.trans hl.1.symm) hown (hts _ hli) (hts _ hst) (hts _ hini) (hts _ hcode) hf hlo hroom.1 hroom.2 hd ?_
  have e : (if Int32.ofInt b < Int32.ofInt a then Int32.ofInt b else Int32.ofInt a) = Int32.ofInt (if wr b < wr a then b else a) := by
    by_cases h : wr b < wr a
    · rw [if_pos ((lt_of32 b a).mpr h), if_pos h]
    · rw [if_neg (fun q => h ((lt_of32 b a).mp q)), if_neg h]
  rw [e]
  exact kk H locs ls hP hS hl
def tOK (t : TxJ) : Prop := 0 < t.2.2.length ∧ t.2.2.length ≤ 100 ∧ ∀ x ∈ t.2.2, 0 ≤ x ∧ x < 128
theorem tOK_KT : ∀ t ∈ KT, tOK t := by
  intro t ht
  rcases List.mem_cons.mp ht with rfl | ht
  · exact ⟨by decide, by decide, by decide⟩
  · rw [List.mem_singleton.mp ht]
    exact ⟨by decide, by decide, by decide⟩
theorem tk_1 {P : Prop} {α : Type} {A B : α} {r : α} (h : P) {d : Decidable P} (e : A = r) : (@ite _ P d A B) = r := (if_pos h).trans e
theorem tk_0 {P : Prop} {α : Type} {A B : α} {r : α} (h : ¬ P) {d : Decidable P} (e : B = r) : (@ite _ P d A B) = r := (if_neg h).trans e
abbrev rmJ0_coder_7d493 : Room := { frames := 0, cells := 0, slots := 0, locals := 0 }
set_option maxRecDepth 20000 in
theorem m_J0_coder_7d493 {G : GG} {w : WS} {t : TxJ} {sa va : Nat} (ht : tOK t)   : MJ G yJ0_coder_7d493 cJ0_coder_7d493 1 (some .byte) rmJ0_coder_7d493 [.ref sa] w t sa va 0 := by
  refine MJ_of (by decide +kernel) (Nat.le_of_ble_eq_true rfl) (fun E X hJ hE => ?_)
  have X : Cx G E cJ0_coder_7d493 RJ0 (some .byte) rmJ0_coder_7d493 1 := X
  refine V_Jstat X hJ jw_662 dJ0_coder_7d493_0 ?_
  refine V_if_eq X (tgt := 13) dJ0_coder_7d493_3 (by decide) (tk_0 (A := none) (B := some ()) (by decide) rfl) (fun q => by cases q) (fun _ => ?_)
  refine V_aload_n X dJ0_coder_7d493_6 rfl rfl ?_
  refine V_Jcod X hJ jw_1858 dJ0_coder_7d493_7 ?_
  refine V_goto X (tgt := 14) dJ0_coder_7d493_10 (by decide) ?_
  exact V_bret X hE dJ0_coder_7d493_14
abbrev rmJ0_isLatin1_aae02 : Room := { frames := 0, cells := 0, slots := 0, locals := 0 }
set_option maxRecDepth 20000 in
theorem m_J0_isLatin1_aae02 {G : GG} {w : WS} {t : TxJ} {sa va : Nat} (ht : tOK t)   : MJ G yJ0_isLatin1_aae02 cJ0_isLatin1_aae02 1 (some .boolean) rmJ0_isLatin1_aae02 [.ref sa] w t sa va 1 := by
  refine MJ_of (by decide +kernel) (Nat.le_of_ble_eq_true rfl) (fun E X hJ hE => ?_)
  have X : Cx G E cJ0_isLatin1_aae02 RJ0 (some .boolean) rmJ0_isLatin1_aae02 1 := X
  refine V_Jstat X hJ jw_662 dJ0_isLatin1_aae02_0 ?_
  refine V_if_eq X (tgt := 17) dJ0_isLatin1_aae02_3 (by decide) (tk_0 (A := none) (B := some ()) (by decide) rfl) (fun q => by cases q) (fun _ => ?_)
  refine V_aload_n X dJ0_isLatin1_aae02_6 rfl rfl ?_
  refine V_Jcod X hJ jw_1858 dJ0_isLatin1_aae02_7 ?_
  refine V_if_ne X (tgt := 17) dJ0_isLatin1_aae02_10 (by decide) (tk_1 (A := some ()) (B := none) (by decide) rfl) (fun _ => ?_) (fun q => by cases q)
  refine V_iconst X dJ0_isLatin1_aae02_13 ?_
  refine V_goto X (tgt := 18) dJ0_isLatin1_aae02_14 (by decide) ?_
  exact V_zret X hE dJ0_isLatin1_aae02_18 (Or.inr rfl) rfl
abbrev rmJ0_length_8abf5 : Room := { frames := 1, cells := 0, slots := 0, locals := 20 }
set_option maxRecDepth 20000 in
theorem m_J0_length_8abf5 {G : GG} {w : WS} {t : TxJ} {sa va : Nat} (ht : tOK t)   : MJ G yJ0_length_8abf5 cJ0_length_8abf5 1 (some .int) rmJ0_length_8abf5 [.ref sa] w t sa va (t.2.2.length : Int) := by
  refine MJ_of (by decide +kernel) (Nat.le_of_ble_eq_true rfl) (fun E X hJ hE => ?_)
  have X : Cx G E cJ0_length_8abf5 RJ0 (some .int) rmJ0_length_8abf5 1 := X
  refine V_aload_n X dJ0_length_8abf5_0 rfl rfl ?_
  refine V_Jval X hJ jw_1859 dJ0_length_8abf5_1 ?_
  refine V_Jlen X hJ dJ0_length_8abf5_4 ?_
  refine V_aload_n X dJ0_length_8abf5_5 rfl rfl ?_
  refine V_cJV X hJ [] _ 0 (m_J0_coder_7d493 ht) jw_671 jw_19 jw_668 jw_669 jw_670 dJ0_length_8abf5_6 ⟨by decide +kernel, by decide +kernel, by decide +kernel⟩ ⟨rfl, rfl⟩ ⟨Nat.le_of_ble_eq_true rfl, Nat.le_of_ble_eq_true rfl⟩ rfl (Nat.le_of_ble_eq_true rfl) ⟨Nat.zero_le _, Nat.zero_le _⟩ ?_
  refine V_ishr0 X dJ0_length_8abf5_9 ?_
  exact V_iret X hE dJ0_length_8abf5_10 rfl
abbrev rmJ1_canEncode_9a6ad : Room := { frames := 0, cells := 0, slots := 0, locals := 0 }
set_option maxRecDepth 20000 in
theorem m_J1_canEncode_9a6ad {G : GG} {w : WS} {t : TxJ} {sa va : Nat} (ht : tOK t) {c : Int} (hc : 0 ≤ c ∧ c < 65536) : MJ G yJ1_canEncode_9a6ad cJ1_canEncode_9a6ad 1 (some .boolean) rmJ1_canEncode_9a6ad [vi c] w t sa va (if c < 256 then 1 else 0) := by
  refine MJ_of (by decide +kernel) (Nat.le_of_ble_eq_true rfl) (fun E X hJ hE => ?_)
  have X : Cx G E cJ1_canEncode_9a6ad RJ1 (some .boolean) rmJ1_canEncode_9a6ad 1 := X
  refine V_iload_n X dJ1_canEncode_9a6ad_0 rfl rfl ?_
  refine V_if_lt X (tgt := 15) dJ1_canEncode_9a6ad_1 (by decide) (tk_0 (A := none) (B := some ()) (by rw [wr_eq (by omega)]; omega) rfl) (fun q => by cases q) (fun _ => ?_)
  refine V_iload_n X dJ1_canEncode_9a6ad_4 rfl rfl ?_
  refine V_sipush X dJ1_canEncode_9a6ad_5 (by decide) ?_
  by_cases h : c < 256
  · rw [if_pos h] at hE
    refine V_icmp_gt X (tgt := 15) dJ1_canEncode_9a6ad_8 (by decide) (tk_0 (A := none) (B := some ()) (by rw [wr_eq (by omega), wr_eq (by omega)]; omega) rfl) (fun q => by cases q) (fun _ => ?_)
    refine V_iconst X dJ1_canEncode_9a6ad_11 ?_
    refine V_goto X (tgt := 16) dJ1_canEncode_9a6ad_12 (by decide) ?_
    exact V_zret X hE dJ1_canEncode_9a6ad_16 (Or.inr rfl) rfl
  · rw [if_neg h] at hE
    refine V_icmp_gt X (tgt := 15) dJ1_canEncode_9a6ad_8 (by decide) (tk_1 (A := some ()) (B := none) (by rw [wr_eq (by omega), wr_eq (by omega)]; omega) rfl) (fun _ => ?_) (fun q => by cases q)
    refine V_iconst X dJ1_canEncode_9a6ad_15 ?_
    exact V_zret X hE dJ1_canEncode_9a6ad_16 (Or.inl rfl) rfl
theorem kIx_none (L : List Int) (c : Int) (h : ∀ x ∈ L, x < 128) (hc : 256 ≤ c) (k : Int) : kIx L c k = -1 := by
  induction L generalizing k with
  | nil => rfl
  | cons x l ih =>
    have hx := h x List.mem_cons_self
    show (if x = c then k else kIx l c (k + 1)) = -1
    rw [if_neg (by omega)]
    exact ih (fun y hy => h y (List.mem_cons_of_mem _ hy)) _
abbrev rmJ1_indexOfChar_4cfef : Room := { frames := 0, cells := 0, slots := 0, locals := 0 }
set_option maxRecDepth 20000 in
theorem v_J1_indexOfChar_4cfef {G : GG} {E : EE} {w : WS} {t : TxJ} {sa va : Nat} (ht : tOK t) {c : Int} (hc : 0 ≤ c ∧ c < 256) (X : Cx G E cJ1_indexOfChar_4cfef RJ1 (some .int) rmJ1_indexOfChar_4cfef 6) (hJ : SJ G E t sa va) (hE : EndI G E (kIx t.2.2 c 0, w)) : ∀ (n k : Nat), t.2.2.length - k ≤ n → k ≤ t.2.2.length → kIx (t.2.2.drop k) c k = kIx t.2.2 c 0 → VV G E 0 0 7 [(0, .ref va), (3, vi (t.2.2.length : Int)), (4, vi (c.bmod 256)), (5, vi (k : Int))] [] w := by
  obtain ⟨t1, t2, t3⟩ := ht
  have stop : kIx (t.2.2.drop t.2.2.length) c (t.2.2.length : Nat) = kIx t.2.2 c 0 → VV G E 0 0 7 [(0, .ref va), (3, vi (t.2.2.length : Int)), (4, vi (c.bmod 256)), (5, vi ((t.2.2.length : Nat) : Int))] [] w := by
    intro h3
    rw [List.drop_length] at h3
    rw [← h3] at hE
    refine V_iload X dJ1_indexOfChar_4cfef_7 rfl ?_
    refine V_iload_n X dJ1_indexOfChar_4cfef_9 rfl rfl ?_
    refine V_icmp_ge X (tgt := 31) dJ1_indexOfChar_4cfef_10 (by decide) (tk_0 (A := none) (B := some ()) (Int.lt_irrefl _) rfl) (fun q => by cases q) (fun _ => ?_)
    refine V_iconst X dJ1_indexOfChar_4cfef_31 ?_
    exact V_iret X hE dJ1_indexOfChar_4cfef_32 rfl
  intro n
  induction n with
  | zero =>
    intro k h1 h2 h3
    have e : k = t.2.2.length := by omega
    subst e
    exact stop h3
  | succ n ih =>
    intro k h1 h2 h3
    by_cases e : k = t.2.2.length
    · subst e
      exact stop h3
    have hk : k < t.2.2.length := by omega
    have hx := t3 _ (List.getElem_mem hk)
    have ed : t.2.2.drop k = t.2.2[k] :: t.2.2.drop (k + 1) := List.drop_eq_getElem_cons hk
    have eg : t.2.2.getD k 0 = t.2.2[k] := by rw [List.getD_eq_getElem?_getD, List.getElem?_eq_getElem hk]; rfl
    rw [ed] at h3
    have h3 : (if t.2.2[k] = c then (k : Int) else kIx (t.2.2.drop (k + 1)) c ((k : Int) + 1)) = kIx t.2.2 c 0 := h3
    refine V_iload X dJ1_indexOfChar_4cfef_7 rfl ?_
    refine V_iload_n X dJ1_indexOfChar_4cfef_9 rfl rfl ?_
    refine V_icmp_ge X (tgt := 31) dJ1_indexOfChar_4cfef_10 (by decide) (tk_1 (A := some ()) (B := none) (by rw [wr_eq (a := (k : Int)) (by omega), wr_eq (by omega)]; omega) rfl) (fun _ => ?_) (fun q => by cases q)
    refine V_aload_n X dJ1_indexOfChar_4cfef_13 rfl rfl ?_
    refine V_iload X dJ1_indexOfChar_4cfef_14 rfl ?_
    refine V_Jb X hJ (by rw [wr_eq (a := (k : Int)) (by omega)]; omega) dJ1_indexOfChar_4cfef_16 ?_
    rw [wr_eq (a := (k : Int)) (by omega), Int.toNat_natCast, eg]
    refine V_iload X dJ1_indexOfChar_4cfef_17 rfl ?_
    have hb1 := Int.bmod_lt (x := c) (m := 256) (by decide)
    have hb2 := Int.le_bmod (x := c) (m := 256) (by decide)
    have hbd : c.bmod 256 = c ∨ c.bmod 256 = c - 256 := by rw [Int.bmod_def]; omega
    by_cases q : t.2.2[k] = c
    · rw [if_pos q] at h3
      rw [← h3] at hE
      refine V_icmp_ne X (tgt := 25) dJ1_indexOfChar_4cfef_19 (by decide) (tk_1 (A := some ()) (B := none) (by rw [wr_eq (by omega), wr_eq (by omega)]; omega) rfl) (fun _ => ?_) (fun q => by cases q)
      refine V_iload X dJ1_indexOfChar_4cfef_22 rfl ?_
      exact V_iret X hE dJ1_indexOfChar_4cfef_24 rfl
    · rw [if_neg q] at h3
      refine V_icmp_ne X (tgt := 25) dJ1_indexOfChar_4cfef_19 (by decide) (tk_0 (A := none) (B := some ()) (by rw [wr_eq (by omega), wr_eq (by omega)]; omega) rfl) (fun q => by cases q) (fun _ => ?_)
      refine V_iinc X dJ1_indexOfChar_4cfef_25 rfl (by decide) ?_
      refine V_goto X (tgt := 7) dJ1_indexOfChar_4cfef_28 (by decide) ?_
      rw [show (k : Int) + 1 = ((k + 1 : Nat) : Int) from by omega] at h3 ⊢
      exact V_cut [0, 3, 4, 5] rfl (ih (k + 1) (by omega) (by omega) h3)
set_option maxRecDepth 20000 in
theorem m_J1_indexOfChar_4cfef {G : GG} {w : WS} {t : TxJ} {sa va : Nat} (ht : tOK t) {c : Int} (hc : 0 ≤ c ∧ c < 256) : MJ G yJ1_indexOfChar_4cfef cJ1_indexOfChar_4cfef 6 (some .int) rmJ1_indexOfChar_4cfef [.ref va, vi c, vi 0, vi (t.2.2.length : Int)] w t sa va (kIx t.2.2 c 0) := by
  refine MJ_of (by decide +kernel) (Nat.le_of_ble_eq_true rfl) (fun E X hJ hE => ?_)
  have X : Cx G E cJ1_indexOfChar_4cfef RJ1 (some .int) rmJ1_indexOfChar_4cfef 6 := X
  refine V_iload_n X dJ1_indexOfChar_4cfef_0 rfl rfl ?_
  refine V_i2b X dJ1_indexOfChar_4cfef_1 ?_
  refine V_istore X dJ1_indexOfChar_4cfef_2 (by decide) ?_
  refine V_iload_n X dJ1_indexOfChar_4cfef_4 rfl rfl ?_
  refine V_istore X dJ1_indexOfChar_4cfef_5 (by decide) ?_
  exact V_cut [0, 3, 4, 5] rfl (v_J1_indexOfChar_4cfef ht hc X hJ hE t.2.2.length 0 (by omega) (by omega) rfl)
abbrev rmJ1_indexOf_4cfef : Room := { frames := 1, cells := 0, slots := 0, locals := 25 }
set_option maxRecDepth 20000 in
theorem m_J1_indexOf_4cfef {G : GG} {w : WS} {t : TxJ} {sa va : Nat} (ht : tOK t) {c : Int} (hc : 0 ≤ c ∧ c < 65536) : MJ G yJ1_indexOf_4cfef cJ1_indexOf_4cfef 4 (some .int) rmJ1_indexOf_4cfef [.ref va, vi c, vi 0, vi (t.2.2.length : Int)] w t sa va (kIx t.2.2 c 0) := by
  refine MJ_of (by decide +kernel) (Nat.le_of_ble_eq_true rfl) (fun E X hJ hE => ?_)
  have X : Cx G E cJ1_indexOf_4cfef RJ1 (some .int) rmJ1_indexOf_4cfef 4 := X
  obtain ⟨t1, t2, t3⟩ := id ht
  refine V_iload_n X dJ1_indexOf_4cfef_0 rfl rfl ?_
  refine V_cJS X hJ [vi c] _ 1 (m_J1_canEncode_9a6ad ht hc) jw_677 jw_21 jw_675 jw_676 dJ1_indexOf_4cfef_1 ⟨by decide +kernel, by decide +kernel, by decide +kernel⟩ ⟨rfl, rfl⟩ ⟨Nat.le_of_ble_eq_true rfl, Nat.le_of_ble_eq_true rfl⟩ rfl (Nat.le_of_ble_eq_true rfl) ⟨Nat.zero_le _, Nat.zero_le _⟩ ?_
  by_cases h : c < 256
  · rw [if_pos h]
    refine V_if_ne X (tgt := 9) dJ1_indexOf_4cfef_4 (by decide) (tk_0 (A := none) (B := some ()) (by decide) rfl) (fun q => by cases q) (fun _ => ?_)
    refine V_iload_n X dJ1_indexOf_4cfef_9 rfl rfl ?_
    refine V_iconst X dJ1_indexOf_4cfef_10 ?_
    refine V_mmax X jw_678 jw_679 jw_22 jw_680 (Nat.le_of_ble_eq_true rfl) (Nat.le_of_ble_eq_true rfl) ⟨Nat.zero_le _, Nat.zero_le _⟩ dJ1_indexOf_4cfef_11 ?_
    rw [if_neg (Int.lt_irrefl _)]
    refine V_istore_n X dJ1_indexOf_4cfef_14 rfl (by decide) ?_
    refine V_iload_n X dJ1_indexOf_4cfef_15 rfl rfl ?_
    refine V_aload_n X dJ1_indexOf_4cfef_16 rfl rfl ?_
    refine V_Jlen X hJ dJ1_indexOf_4cfef_17 ?_
    refine V_mmin X jw_681 jw_682 jw_22 jw_683 (Nat.le_of_ble_eq_true rfl) (Nat.le_of_ble_eq_true rfl) ⟨Nat.zero_le _, Nat.zero_le _⟩ dJ1_indexOf_4cfef_18 ?_
    rw [if_neg (Int.lt_irrefl _)]
    refine V_istore_n X dJ1_indexOf_4cfef_21 rfl (by decide) ?_
    refine V_iload_n X dJ1_indexOf_4cfef_22 rfl rfl ?_
    refine V_iload_n X dJ1_indexOf_4cfef_23 rfl rfl ?_
    refine V_icmp_lt X (tgt := 29) dJ1_indexOf_4cfef_24 (by decide) (tk_1 (A := some ()) (B := none) (by rw [wr_eq (by omega), wr_eq (by omega)]; omega) rfl) (fun _ => ?_) (fun q => by cases q)
    refine V_aload_n X dJ1_indexOf_4cfef_29 rfl rfl ?_
    refine V_iload_n X dJ1_indexOf_4cfef_30 rfl rfl ?_
    refine V_iload_n X dJ1_indexOf_4cfef_31 rfl rfl ?_
    refine V_iload_n X dJ1_indexOf_4cfef_32 rfl rfl ?_
    refine V_cJS X hJ [.ref va, vi c, vi 0, vi (t.2.2.length : Int)] _ 4 (m_J1_indexOfChar_4cfef ht ⟨hc.1, h⟩) jw_686 jw_21 jw_684 jw_685 dJ1_indexOf_4cfef_33 ⟨by decide +kernel, by decide +kernel, by decide +kernel⟩ ⟨rfl, rfl⟩ ⟨Nat.le_of_ble_eq_true rfl, Nat.le_of_ble_eq_true rfl⟩ rfl (Nat.le_of_ble_eq_true rfl) ⟨Nat.zero_le _, Nat.zero_le _⟩ ?_
    exact V_iret X hE dJ1_indexOf_4cfef_36 rfl
  · rw [if_neg h]
    rw [kIx_none t.2.2 c (fun x hx => (t3 x hx).2) (by omega)] at hE
    refine V_if_ne X (tgt := 9) dJ1_indexOf_4cfef_4 (by decide) (tk_1 (A := some ()) (B := none) (by decide) rfl) (fun _ => ?_) (fun q => by cases q)
    refine V_iconst X dJ1_indexOf_4cfef_7 ?_
    exact V_iret X hE dJ1_indexOf_4cfef_8 rfl
abbrev rmJ0_indexOf_7cf53 : Room := { frames := 2, cells := 0, slots := 0, locals := 48 }
set_option maxRecDepth 20000 in
theorem m_J0_indexOf_7cf53 {G : GG} {w : WS} {t : TxJ} {sa va : Nat} (ht : tOK t) {c : Int} (hc : 0 ≤ c ∧ c < 65536) : MJ G yJ0_indexOf_7cf53 cJ0_indexOf_7cf53 3 (some .int) rmJ0_indexOf_7cf53 [.ref sa, vi c, vi 0] w t sa va (kIx t.2.2 c 0) := by
  refine MJ_of (by decide +kernel) (Nat.le_of_ble_eq_true rfl) (fun E X hJ hE => ?_)
  have X : Cx G E cJ0_indexOf_7cf53 RJ0 (some .int) rmJ0_indexOf_7cf53 3 := X
  refine V_aload_n X dJ0_indexOf_7cf53_0 rfl rfl ?_
  refine V_cJV X hJ [] _ 0 (m_J0_isLatin1_aae02 ht) jw_661 jw_19 jw_658 jw_659 jw_660 dJ0_indexOf_7cf53_1 ⟨by decide +kernel, by decide +kernel, by decide +kernel⟩ ⟨rfl, rfl⟩ ⟨Nat.le_of_ble_eq_true rfl, Nat.le_of_ble_eq_true rfl⟩ rfl (Nat.le_of_ble_eq_true rfl) ⟨Nat.zero_le _, Nat.zero_le _⟩ ?_
  refine V_if_eq X (tgt := 23) dJ0_indexOf_7cf53_4 (by decide) (tk_0 (A := none) (B := some ()) (by decide) rfl) (fun q => by cases q) (fun _ => ?_)
  refine V_aload_n X dJ0_indexOf_7cf53_7 rfl rfl ?_
  refine V_Jval X hJ jw_1859 dJ0_indexOf_7cf53_8 ?_
  refine V_iload_n X dJ0_indexOf_7cf53_11 rfl rfl ?_
  refine V_iload_n X dJ0_indexOf_7cf53_12 rfl rfl ?_
  refine V_aload_n X dJ0_indexOf_7cf53_13 rfl rfl ?_
  refine V_cJV X hJ [] _ 0 (m_J0_length_8abf5 ht) jw_667 jw_19 jw_664 jw_665 jw_666 dJ0_indexOf_7cf53_14 ⟨by decide +kernel, by decide +kernel, by decide +kernel⟩ ⟨rfl, rfl⟩ ⟨Nat.le_of_ble_eq_true rfl, Nat.le_of_ble_eq_true rfl⟩ rfl (Nat.le_of_ble_eq_true rfl) ⟨Nat.zero_le _, Nat.zero_le _⟩ ?_
  refine V_cJS X hJ [.ref va, vi c, vi 0, vi (t.2.2.length : Int)] _ 4 (m_J1_indexOf_4cfef ht hc) jw_674 jw_21 jw_672 jw_673 dJ0_indexOf_7cf53_17 ⟨by decide +kernel, by decide +kernel, by decide +kernel⟩ ⟨rfl, rfl⟩ ⟨Nat.le_of_ble_eq_true rfl, Nat.le_of_ble_eq_true rfl⟩ rfl (Nat.le_of_ble_eq_true rfl) ⟨Nat.zero_le _, Nat.zero_le _⟩ ?_
  refine V_goto X (tgt := 36) dJ0_indexOf_7cf53_20 (by decide) ?_
  exact V_iret X hE dJ0_indexOf_7cf53_36 rfl
abbrev rmJ0_indexOf_0f7a4 : Room := { frames := 3, cells := 0, slots := 0, locals := 70 }
set_option maxRecDepth 20000 in
theorem m_J0_indexOf_0f7a4 {G : GG} {w : WS} {t : TxJ} {sa va : Nat} (ht : tOK t) {c : Int} (hc : 0 ≤ c ∧ c < 65536) : MJ G yJ0_indexOf_0f7a4 cJ0_indexOf_0f7a4 2 (some .int) rmJ0_indexOf_0f7a4 [.ref sa, vi c] w t sa va (kIx t.2.2 c 0) := by
  refine MJ_of (by decide +kernel) (Nat.le_of_ble_eq_true rfl) (fun E X hJ hE => ?_)
  have X : Cx G E cJ0_indexOf_0f7a4 RJ0 (some .int) rmJ0_indexOf_0f7a4 2 := X
  refine V_aload_n X dJ0_indexOf_0f7a4_0 rfl rfl ?_
  refine V_iload_n X dJ0_indexOf_0f7a4_1 rfl rfl ?_
  refine V_iconst X dJ0_indexOf_0f7a4_2 ?_
  refine V_cJV X hJ [vi c, vi 0] _ 2 (m_J0_indexOf_7cf53 ht hc) jw_657 jw_19 jw_654 jw_655 jw_656 dJ0_indexOf_0f7a4_3 ⟨by decide +kernel, by decide +kernel, by decide +kernel⟩ ⟨rfl, rfl⟩ ⟨Nat.le_of_ble_eq_true rfl, Nat.le_of_ble_eq_true rfl⟩ rfl (Nat.le_of_ble_eq_true rfl) ⟨Nat.zero_le _, Nat.zero_le _⟩ ?_
  exact V_iret X hE dJ0_indexOf_0f7a4_6 rfl
theorem V_ldcJ {G : GG} {E : EE} {cc : ByteArray} {ret : Option FieldType} {R : Room} {nL : Nat} (X : CX G E cc RX8 ret R nL) {t : TxJ} (ht : t ∈ KT) {k n pc : Nat} {lv : List (Nat × Value)} {st : List Value} {w : WS} (hd : decode cc pc = .ok (.ldc t.1, 2)) (kk : ∀ sa va : Nat, SJ G E t sa va → VV G E k n (pc + 2) lv (.ref sa :: st) w) : VV G E k n pc lv st w := by
  obtain ⟨p, e, R', s, m, args, below, meth, c, Q, nL'⟩ := E
  obtain ⟨⟨hx, hb, hml, hown, hts, hr, hlk, hK, hI, hN, rfl, rfl⟩, ⟨t1, t2, t3, t4, hZ, hT⟩, hno⟩ := X
  obtain ⟨sa, va, h1⟩ := hT t ht
  intro H locs ls hP hS hl
  exact va_ldcS hx hb hown h1.1 hd (kk sa va ⟨hZ, h1⟩ H locs ls hP hS hl)
