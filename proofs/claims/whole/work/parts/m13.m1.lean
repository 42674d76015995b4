abbrev rmX8_type : Room := { frames := 8, cells := 1, slots := 6, locals := 400 }
set_option maxRecDepth 20000 in
theorem m_X8_type {G : GG} {a1 : Int} {w : WS} {q : (Nat × Int × WS)}  (hf : f_X8_type a1 w = some q) : MXI G yX8_type cX8_type 2 (some .int) rmX8_type [gr G 0, vi a1] w q := by
  refine MXI_of (by decide +kernel) (Nat.le_of_ble_eq_true rfl) (fun E X hE => ?_)
  have X : CX G E cX8_type RX8 (some .int) rmX8_type 2 := X
  unfold f_X8_type at hf
  refine V_iload_n X.1 dX8_type_0 rfl rfl ?_
  refine V_cSI X.1 hf [vi a1] _ 1 (fun _ h => m_X8_isSign h) tw_512 tw_86 tw_510 tw_511 dX8_type_1 ⟨by decide +kernel, by decide +kernel, by decide +kernel⟩ ⟨rfl, rfl⟩ ⟨Nat.le_of_ble_eq_true rfl, Nat.le_of_ble_eq_true rfl⟩ rfl (Nat.le_of_ble_eq_true rfl) ⟨Nat.le_of_ble_eq_true rfl, Nat.le_of_ble_eq_true rfl⟩ (fun r1 w1 hf => ?_)
  refine V_if_ne X.1 (tgt := 17) dX8_type_4 (by decide) hf (fun hf => ?_) (fun hf => ?_)
  · exact V_throwS X hE 1 rfl (by decide) (by decide +kernel) tw_515 tw_99 (List.mem_of_getElem? (i := 0) rfl) at_86 dX8_type_7 dX8_type_10 dX8_type_11 dX8_type_13 dX8_type_16 ⟨Nat.le_of_ble_eq_true rfl, Nat.le_of_ble_eq_true rfl, Nat.le_of_ble_eq_true rfl, Nat.le_of_ble_eq_true rfl⟩ ⟨Nat.le_of_ble_eq_true rfl, Nat.le_of_ble_eq_true rfl⟩ hf
  · refine V_gload_n X.1 dX8_type_17 rfl rfl ?_
    refine V_getr X.1 ob_0 rfl rfl hin_X8 0 (Nat.le_of_ble_eq_true rfl) tw_401 rfl dX8_type_18 ?_
    refine V_iconst X.1 dX8_type_21 ?_
    refine V_cVI X.1 hf [vi 0] _ 1 (fun _ h => m_X6_length is_1 h) ob_1 rfl tw_466 tw_87 tw_463 tw_464 tw_465 dX8_type_22 ⟨by decide +kernel, by decide +kernel, by decide +kernel⟩ ⟨rfl, rfl⟩ ⟨Nat.le_of_ble_eq_true rfl, Nat.le_of_ble_eq_true rfl⟩ rfl (Nat.le_of_ble_eq_true rfl) ⟨Nat.le_of_ble_eq_true rfl, Nat.le_of_ble_eq_true rfl⟩ (fun r2 w2 hf => ?_)
    refine V_bipush X.1 dX8_type_25 (by decide) ?_
    refine V_icmp_lt X.1 (tgt := 40) dX8_type_27 (by decide) hf (fun hf => ?_) (fun hf => ?_)
    · refine V_gload_n X.1 dX8_type_40 rfl rfl ?_
      refine V_getr X.1 ob_0 rfl rfl hin_X8 0 (Nat.le_of_ble_eq_true rfl) tw_401 rfl dX8_type_41 ?_
      refine V_iconst X.1 dX8_type_44 ?_
      refine V_iload_n X.1 dX8_type_45 rfl rfl ?_
      refine V_cVV X.1 hf [vi 0, vi a1] _ 2 (fun _ h => m_X6_add is_1 h) ob_1 rfl tw_606 tw_87 tw_603 tw_604 tw_605 dX8_type_46 ⟨by decide +kernel, by decide +kernel, by decide +kernel⟩ ⟨rfl, rfl⟩ ⟨Nat.le_of_ble_eq_true rfl, Nat.le_of_ble_eq_true rfl⟩ rfl (Nat.le_of_ble_eq_true rfl) ⟨Nat.le_of_ble_eq_true rfl, Nat.le_of_ble_eq_true rfl⟩ (fun r3 w3 hf => ?_)
      refine V_gload_n X.1 dX8_type_49 rfl rfl ?_
      refine V_getr X.1 ob_0 rfl rfl hin_X8 0 (Nat.le_of_ble_eq_true rfl) tw_401 rfl dX8_type_50 ?_
      refine V_iconst X.1 dX8_type_53 ?_
      refine V_cVI X.1 hf [vi 0] _ 1 (fun _ h => m_X6_length is_1 h) ob_1 rfl tw_466 tw_87 tw_463 tw_464 tw_465 dX8_type_54 ⟨by decide +kernel, by decide +kernel, by decide +kernel⟩ ⟨rfl, rfl⟩ ⟨Nat.le_of_ble_eq_true rfl, Nat.le_of_ble_eq_true rfl⟩ rfl (Nat.le_of_ble_eq_true rfl) ⟨Nat.le_of_ble_eq_true rfl, Nat.le_of_ble_eq_true rfl⟩ (fun r4 w4 hf => ?_)
      exact V_iretX X hE dX8_type_57 ⟨Nat.le_of_ble_eq_true rfl, Nat.le_of_ble_eq_true rfl⟩ hf
    · exact V_throwS X hE 2 rfl (by decide) (by decide +kernel) tw_587 tw_100 (List.mem_of_getElem? (i := 1) rfl) at_97 dX8_type_30 dX8_type_33 dX8_type_34 dX8_type_36 dX8_type_39 ⟨Nat.le_of_ble_eq_true rfl, Nat.le_of_ble_eq_true rfl, Nat.le_of_ble_eq_true rfl, Nat.le_of_ble_eq_true rfl⟩ ⟨Nat.le_of_ble_eq_true rfl, Nat.le_of_ble_eq_true rfl⟩ hf
abbrev rmX8_text : Room := { frames := 8, cells := 1, slots := 6, locals := 400 }
set_option maxRecDepth 20000 in
theorem m_X8_text {G : GG}  {w : WS} {q : (Nat × Int × WS)}  (hf : f_X8_text  w = some q) : MXI G yX8_text cX8_text 2 (some .int) rmX8_text [gr G 0] w q := by
  refine MXI_of (by decide +kernel) (Nat.le_of_ble_eq_true rfl) (fun E X hE => ?_)
  have X : CX G E cX8_text RX8 (some .int) rmX8_text 2 := X
  unfold f_X8_text at hf
  refine V_gload_n X.1 dX8_text_0 rfl rfl ?_
  refine V_getr X.1 ob_0 rfl rfl hin_X8 0 (Nat.le_of_ble_eq_true rfl) tw_401 rfl dX8_text_1 ?_
  refine V_iconst X.1 dX8_text_4 ?_
  refine V_cVI X.1 hf [vi 0] _ 1 (fun _ h => m_X6_length is_1 h) ob_1 rfl tw_466 tw_87 tw_463 tw_464 tw_465 dX8_text_5 ⟨by decide +kernel, by decide +kernel, by decide +kernel⟩ ⟨rfl, rfl⟩ ⟨Nat.le_of_ble_eq_true rfl, Nat.le_of_ble_eq_true rfl⟩ rfl (Nat.le_of_ble_eq_true rfl) ⟨Nat.le_of_ble_eq_true rfl, Nat.le_of_ble_eq_true rfl⟩ (fun r1 w1 hf => ?_)
  refine V_bipush X.1 dX8_text_8 (by decide) ?_
  refine V_icmp_le X.1 (tgt := 23) dX8_text_10 (by decide) hf (fun hf => ?_) (fun hf => ?_)
  · exact V_throwS X hE 4 rfl (by decide) (by decide +kernel) tw_615 tw_101 (List.mem_of_getElem? (i := 2) rfl) at_108 dX8_text_13 dX8_text_16 dX8_text_17 dX8_text_19 dX8_text_22 ⟨Nat.le_of_ble_eq_true rfl, Nat.le_of_ble_eq_true rfl, Nat.le_of_ble_eq_true rfl, Nat.le_of_ble_eq_true rfl⟩ ⟨Nat.le_of_ble_eq_true rfl, Nat.le_of_ble_eq_true rfl⟩ hf
  · refine V_gload_n X.1 dX8_text_23 rfl rfl ?_
    refine V_geti X.1 ob_0 rfl rfl hin_X8 2 (Nat.le_of_ble_eq_true rfl) tw_403 rfl dX8_text_24 ?_
    refine V_bipush X.1 dX8_text_27 (by decide) ?_
    refine V_icmp_lt X.1 (tgt := 42) dX8_text_29 (by decide) hf (fun hf => ?_) (fun hf => ?_)
    · refine V_gload_n X.1 dX8_text_42 rfl rfl ?_
      refine V_geti X.1 ob_0 rfl rfl hin_X8 2 (Nat.le_of_ble_eq_true rfl) tw_403 rfl dX8_text_43 ?_
      refine V_istore_n X.1 dX8_text_46 rfl (by decide) ?_
      refine V_gload_n X.1 dX8_text_47 rfl rfl ?_
      refine V_getr X.1 ob_0 rfl rfl hin_X8 1 (Nat.le_of_ble_eq_true rfl) tw_402 rfl dX8_text_48 ?_
      refine V_iload_n X.1 dX8_text_51 rfl rfl ?_
      refine V_gload_n X.1 dX8_text_52 rfl rfl ?_
      refine V_getr X.1 ob_0 rfl rfl hin_X8 0 (Nat.le_of_ble_eq_true rfl) tw_401 rfl dX8_text_53 ?_
      refine V_iconst X.1 dX8_text_56 ?_
      refine V_cVV X.1 hf [vi (w1 0 2), gr G 1, vi 0] _ 3 (fun _ h => m_X6_copy is_4 is_1 h) ob_4 rfl tw_635 tw_87 tw_632 tw_633 tw_634 dX8_text_57 ⟨by decide +kernel, by decide +kernel, by decide +kernel⟩ ⟨rfl, rfl⟩ ⟨Nat.le_of_ble_eq_true rfl, Nat.le_of_ble_eq_true rfl⟩ rfl (Nat.le_of_ble_eq_true rfl) ⟨Nat.le_of_ble_eq_true rfl, Nat.le_of_ble_eq_true rfl⟩ (fun r2 w2 hf => ?_)
      refine V_gload_n X.1 dX8_text_60 rfl rfl ?_
      refine V_getr X.1 ob_0 rfl rfl hin_X8 0 (Nat.le_of_ble_eq_true rfl) tw_401 rfl dX8_text_61 ?_
      refine V_iconst X.1 dX8_text_64 ?_
      refine V_cVV X.1 hf [vi 0] _ 1 (fun _ h => m_X6_clear is_1 h) ob_1 rfl tw_470 tw_87 tw_467 tw_468 tw_469 dX8_text_65 ⟨by decide +kernel, by decide +kernel, by decide +kernel⟩ ⟨rfl, rfl⟩ ⟨Nat.le_of_ble_eq_true rfl, Nat.le_of_ble_eq_true rfl⟩ rfl (Nat.le_of_ble_eq_true rfl) ⟨Nat.le_of_ble_eq_true rfl, Nat.le_of_ble_eq_true rfl⟩ (fun r3 w3 hf => ?_)
      refine V_gload_n X.1 dX8_text_68 rfl rfl ?_
      refine V_dup X.1 dX8_text_69 rfl ?_
      refine V_geti X.1 ob_0 rfl rfl hin_X8 2 (Nat.le_of_ble_eq_true rfl) tw_403 rfl dX8_text_70 ?_
      refine V_iconst X.1 dX8_text_73 ?_
      refine V_iadd X.1 dX8_text_74 ?_
      refine V_puti X.1 ob_0 rfl rfl hin_X8 2 (Nat.le_of_ble_eq_true rfl) tw_403 tyX8 tyX8_ok nmX8 rfl (by decide +kernel) rfl dX8_text_75 ?_
      refine V_iload_n X.1 dX8_text_78 rfl rfl ?_
      exact V_iretX X hE dX8_text_79 ⟨Nat.le_of_ble_eq_true rfl, Nat.le_of_ble_eq_true rfl⟩ hf
    · exact V_throwS X hE 2 rfl (by decide) (by decide +kernel) tw_587 tw_100 (List.mem_of_getElem? (i := 3) rfl) at_97 dX8_text_32 dX8_text_35 dX8_text_36 dX8_text_38 dX8_text_41 ⟨Nat.le_of_ble_eq_true rfl, Nat.le_of_ble_eq_true rfl, Nat.le_of_ble_eq_true rfl, Nat.le_of_ble_eq_true rfl⟩ ⟨Nat.le_of_ble_eq_true rfl, Nat.le_of_ble_eq_true rfl⟩ hf
abbrev rmX8_needVariable : Room := { frames := 8, cells := 1, slots := 6, locals := 400 }
set_option maxRecDepth 20000 in
theorem m_X8_needVariable {G : GG} {a0 : Int} {w : WS} {q : (Nat × Int × WS)}  (hf : f_X8_needVariable a0 w = some q) : MXV G yX8_needVariable cX8_needVariable 1 none rmX8_needVariable [vi a0] w q := by
  refine MXV_of (by decide +kernel) (Nat.le_of_ble_eq_true rfl) (fun E X hE => ?_)
  have X : CX G E cX8_needVariable RX8 none rmX8_needVariable 1 := X
  unfold f_X8_needVariable at hf
  refine V_iload_n X.1 dX8_needVariable_0 rfl rfl ?_
  refine V_bipush X.1 dX8_needVariable_1 (by decide) ?_
  refine V_cSI X.1 hf [vi a0, vi 26] _ 2 (fun _ h => m_X8_isBelow h) tw_678 tw_86 tw_676 tw_677 dX8_needVariable_3 ⟨by decide +kernel, by decide +kernel, by decide +kernel⟩ ⟨rfl, rfl⟩ ⟨Nat.le_of_ble_eq_true rfl, Nat.le_of_ble_eq_true rfl⟩ rfl (Nat.le_of_ble_eq_true rfl) ⟨Nat.le_of_ble_eq_true rfl, Nat.le_of_ble_eq_true rfl⟩ (fun r1 w1 hf => ?_)
  refine V_if_ne X.1 (tgt := 20) dX8_needVariable_6 (by decide) hf (fun hf => ?_) (fun hf => ?_)
  · exact V_throwW X hE 3 rfl (by decide) (by decide +kernel) tw_679 tw_102 (List.mem_of_getElem? (i := 21) rfl) at_152 dX8_needVariable_9 dX8_needVariable_12 dX8_needVariable_13 dX8_needVariable_16 dX8_needVariable_19 ⟨Nat.le_of_ble_eq_true rfl, Nat.le_of_ble_eq_true rfl, Nat.le_of_ble_eq_true rfl, Nat.le_of_ble_eq_true rfl⟩ ⟨Nat.le_of_ble_eq_true rfl, Nat.le_of_ble_eq_true rfl⟩ hf
  · exact V_vretX X hE dX8_needVariable_20 ⟨Nat.le_of_ble_eq_true rfl, Nat.le_of_ble_eq_true rfl⟩ hf
abbrev rmX8_set : Room := { frames := 9, cells := 1, slots := 6, locals := 420 }
set_option maxRecDepth 20000 in
theorem m_X8_set {G : GG} {a1 : Int} {w : WS} {q : (Nat × Int × WS)}  (hf : f_X8_set a1 w = some q) : MXI G yX8_set cX8_set 3 (some .int) rmX8_set [gr G 0, vi a1] w q := by
  refine MXI_of (by decide +kernel) (Nat.le_of_ble_eq_true rfl) (fun E X hE => ?_)
  have X : CX G E cX8_set RX8 (some .int) rmX8_set 3 := X
  unfold f_X8_set at hf
  refine V_iload_n X.1 dX8_set_0 rfl rfl ?_
  refine V_xSV X hE hf [vi a1] _ 1 (fun _ h => m_X8_needVariable h) tw_675 tw_86 tw_673 tw_674 dX8_set_1 ⟨by decide +kernel, by decide +kernel, by decide +kernel⟩ ⟨Nat.le_of_ble_eq_true rfl, Nat.le_of_ble_eq_true rfl⟩ rfl (Nat.le_of_ble_eq_true rfl) ⟨Nat.le_of_ble_eq_true rfl, Nat.le_of_ble_eq_true rfl⟩ ⟨Nat.le_of_ble_eq_true rfl, Nat.le_of_ble_eq_true rfl⟩ (fun r1 w1 hf => ?_)
  refine V_gload_n X.1 dX8_set_4 rfl rfl ?_
  refine V_getr X.1 ob_0 rfl rfl hin_X8 3 (Nat.le_of_ble_eq_true rfl) tw_404 rfl dX8_set_5 ?_
  refine V_iload_n X.1 dX8_set_8 rfl rfl ?_
  refine V_cVI X.1 hf [vi a1] _ 1 (fun _ h => m_X6_length is_7 h) ob_7 rfl tw_466 tw_87 tw_463 tw_464 tw_465 dX8_set_9 ⟨by decide +kernel, by decide +kernel, by decide +kernel⟩ ⟨rfl, rfl⟩ ⟨Nat.le_of_ble_eq_true rfl, Nat.le_of_ble_eq_true rfl⟩ rfl (Nat.le_of_ble_eq_true rfl) ⟨Nat.le_of_ble_eq_true rfl, Nat.le_of_ble_eq_true rfl⟩ (fun r2 w2 hf => ?_)
  refine V_istore_n X.1 dX8_set_12 rfl (by decide) ?_
  refine V_gload_n X.1 dX8_set_13 rfl rfl ?_
  refine V_getr X.1 ob_0 rfl rfl hin_X8 3 (Nat.le_of_ble_eq_true rfl) tw_404 rfl dX8_set_14 ?_
  refine V_iload_n X.1 dX8_set_17 rfl rfl ?_
  refine V_gload_n X.1 dX8_set_18 rfl rfl ?_
  refine V_getr X.1 ob_0 rfl rfl hin_X8 0 (Nat.le_of_ble_eq_true rfl) tw_401 rfl dX8_set_19 ?_
  refine V_iconst X.1 dX8_set_22 ?_
  refine V_cVV X.1 hf [vi a1, gr G 1, vi 0] _ 3 (fun _ h => m_X6_copy is_7 is_1 h) ob_7 rfl tw_635 tw_87 tw_632 tw_633 tw_634 dX8_set_23 ⟨by decide +kernel, by decide +kernel, by decide +kernel⟩ ⟨rfl, rfl⟩ ⟨Nat.le_of_ble_eq_true rfl, Nat.le_of_ble_eq_true rfl⟩ rfl (Nat.le_of_ble_eq_true rfl) ⟨Nat.le_of_ble_eq_true rfl, Nat.le_of_ble_eq_true rfl⟩ (fun r3 w3 hf => ?_)
  refine V_gload_n X.1 dX8_set_26 rfl rfl ?_
  refine V_getr X.1 ob_0 rfl rfl hin_X8 0 (Nat.le_of_ble_eq_true rfl) tw_401 rfl dX8_set_27 ?_
  refine V_iconst X.1 dX8_set_30 ?_
  refine V_cVV X.1 hf [vi 0] _ 1 (fun _ h => m_X6_clear is_1 h) ob_1 rfl tw_470 tw_87 tw_467 tw_468 tw_469 dX8_set_31 ⟨by decide +kernel, by decide +kernel, by decide +kernel⟩ ⟨rfl, rfl⟩ ⟨Nat.le_of_ble_eq_true rfl, Nat.le_of_ble_eq_true rfl⟩ rfl (Nat.le_of_ble_eq_true rfl) ⟨Nat.le_of_ble_eq_true rfl, Nat.le_of_ble_eq_true rfl⟩ (fun r4 w4 hf => ?_)
  refine V_iload_n X.1 dX8_set_34 rfl rfl ?_
  exact V_iretX X hE dX8_set_35 ⟨Nat.le_of_ble_eq_true rfl, Nat.le_of_ble_eq_true rfl⟩ hf
abbrev rmX8_size : Room := { frames := 9, cells := 1, slots := 6, locals := 420 }
set_option maxRecDepth 20000 in
theorem m_X8_size {G : GG} {a1 : Int} {w : WS} {q : (Nat × Int × WS)}  (hf : f_X8_size a1 w = some q) : MXI G yX8_size cX8_size 2 (some .int) rmX8_size [gr G 0, vi a1] w q := by
  refine MXI_of (by decide +kernel) (Nat.le_of_ble_eq_true rfl) (fun E X hE => ?_)
  have X : CX G E cX8_size RX8 (some .int) rmX8_size 2 := X
  unfold f_X8_size at hf
  refine V_iload_n X.1 dX8_size_0 rfl rfl ?_
  refine V_xSV X hE hf [vi a1] _ 1 (fun _ h => m_X8_needVariable h) tw_675 tw_86 tw_673 tw_674 dX8_size_1 ⟨by decide +kernel, by decide +kernel, by decide +kernel⟩ ⟨Nat.le_of_ble_eq_true rfl, Nat.le_of_ble_eq_true rfl⟩ rfl (Nat.le_of_ble_eq_true rfl) ⟨Nat.le_of_ble_eq_true rfl, Nat.le_of_ble_eq_true rfl⟩ ⟨Nat.le_of_ble_eq_true rfl, Nat.le_of_ble_eq_true rfl⟩ (fun r1 w1 hf => ?_)
  refine V_gload_n X.1 dX8_size_4 rfl rfl ?_
  refine V_getr X.1 ob_0 rfl rfl hin_X8 3 (Nat.le_of_ble_eq_true rfl) tw_404 rfl dX8_size_5 ?_
  refine V_iload_n X.1 dX8_size_8 rfl rfl ?_
  refine V_cVI X.1 hf [vi a1] _ 1 (fun _ h => m_X6_length is_7 h) ob_7 rfl tw_466 tw_87 tw_463 tw_464 tw_465 dX8_size_9 ⟨by decide +kernel, by decide +kernel, by decide +kernel⟩ ⟨rfl, rfl⟩ ⟨Nat.le_of_ble_eq_true rfl, Nat.le_of_ble_eq_true rfl⟩ rfl (Nat.le_of_ble_eq_true rfl) ⟨Nat.le_of_ble_eq_true rfl, Nat.le_of_ble_eq_true rfl⟩ (fun r2 w2 hf => ?_)
  exact V_iretX X hE dX8_size_12 ⟨Nat.le_of_ble_eq_true rfl, Nat.le_of_ble_eq_true rfl⟩ hf
abbrev rmX8_at : Room := { frames := 9, cells := 2, slots := 12, locals := 420 }
set_option maxRecDepth 20000 in
theorem m_X8_at {G : GG} {a1 : Int} {a2 : Int} {w : WS} {q : (Nat × Int × WS)}  (hf : f_X8_at a1 a2 w = some q) : MXI G yX8_at cX8_at 3 (some .int) rmX8_at [gr G 0, vi a1, vi a2] w q := by
  refine MXI_of (by decide +kernel) (Nat.le_of_ble_eq_true rfl) (fun E X hE => ?_)
  have X : CX G E cX8_at RX8 (some .int) rmX8_at 3 := X
  unfold f_X8_at at hf
  refine V_iload_n X.1 dX8_at_0 rfl rfl ?_
  refine V_xSV X hE hf [vi a1] _ 1 (fun _ h => m_X8_needVariable h) tw_675 tw_86 tw_673 tw_674 dX8_at_1 ⟨by decide +kernel, by decide +kernel, by decide +kernel⟩ ⟨Nat.le_of_ble_eq_true rfl, Nat.le_of_ble_eq_true rfl⟩ rfl (Nat.le_of_ble_eq_true rfl) ⟨Nat.le_of_ble_eq_true rfl, Nat.le_of_ble_eq_true rfl⟩ ⟨Nat.le_of_ble_eq_true rfl, Nat.le_of_ble_eq_true rfl⟩ (fun r1 w1 hf => ?_)
  refine V_gload_n X.1 dX8_at_4 rfl rfl ?_
  refine V_getr X.1 ob_0 rfl rfl hin_X8 3 (Nat.le_of_ble_eq_true rfl) tw_404 rfl dX8_at_5 ?_
  refine V_iload_n X.1 dX8_at_8 rfl rfl ?_
  refine V_iload_n X.1 dX8_at_9 rfl rfl ?_
  refine V_cVI X.1 hf [vi a1, vi a2] _ 2 (fun _ h => m_X6_holds is_7 h) ob_7 rfl tw_710 tw_87 tw_707 tw_708 tw_709 dX8_at_10 ⟨by decide +kernel, by decide +kernel, by decide +kernel⟩ ⟨rfl, rfl⟩ ⟨Nat.le_of_ble_eq_true rfl, Nat.le_of_ble_eq_true rfl⟩ rfl (Nat.le_of_ble_eq_true rfl) ⟨Nat.le_of_ble_eq_true rfl, Nat.le_of_ble_eq_true rfl⟩ (fun r2 w2 hf => ?_)
  refine V_if_ne X.1 (tgt := 26) dX8_at_13 (by decide) hf (fun hf => ?_) (fun hf => ?_)
  · exact V_throwNS X hE tw_711 tw_105 (List.mem_of_getElem? (i := 4) rfl) dX8_at_16 dX8_at_19 dX8_at_20 dX8_at_22 dX8_at_25 ⟨Nat.le_of_ble_eq_true rfl, Nat.le_of_ble_eq_true rfl, Nat.le_of_ble_eq_true rfl, Nat.le_of_ble_eq_true rfl⟩ ⟨Nat.le_of_ble_eq_true rfl, Nat.le_of_ble_eq_true rfl⟩ hf
  · refine V_gload_n X.1 dX8_at_26 rfl rfl ?_
    refine V_getr X.1 ob_0 rfl rfl hin_X8 3 (Nat.le_of_ble_eq_true rfl) tw_404 rfl dX8_at_27 ?_
    refine V_iload_n X.1 dX8_at_30 rfl rfl ?_
    refine V_iload_n X.1 dX8_at_31 rfl rfl ?_
    refine V_cVI X.1 hf [vi a1, vi a2] _ 2 (fun _ h => m_X6_sign is_7 h) ob_7 rfl tw_488 tw_87 tw_485 tw_486 tw_487 dX8_at_32 ⟨by decide +kernel, by decide +kernel, by decide +kernel⟩ ⟨rfl, rfl⟩ ⟨Nat.le_of_ble_eq_true rfl, Nat.le_of_ble_eq_true rfl⟩ rfl (Nat.le_of_ble_eq_true rfl) ⟨Nat.le_of_ble_eq_true rfl, Nat.le_of_ble_eq_true rfl⟩ (fun r3 w3 hf => ?_)
    exact V_iretX X hE dX8_at_35 ⟨Nat.le_of_ble_eq_true rfl, Nat.le_of_ble_eq_true rfl⟩ hf
abbrev rmX8_needTerm : Room := { frames := 8, cells := 1, slots := 6, locals := 400 }
set_option maxRecDepth 20000 in
theorem m_X8_needTerm {G : GG} {a1 : Int} {w : WS} {q : (Nat × Int × WS)}  (hf : f_X8_needTerm a1 w = some q) : MXV G yX8_needTerm cX8_needTerm 2 none rmX8_needTerm [gr G 0, vi a1] w q := by
  refine MXV_of (by decide +kernel) (Nat.le_of_ble_eq_true rfl) (fun E X hE => ?_)
  have X : CX G E cX8_needTerm RX8 none rmX8_needTerm 2 := X
  unfold f_X8_needTerm at hf
  refine V_iload_n X.1 dX8_needTerm_0 rfl rfl ?_
  refine V_gload_n X.1 dX8_needTerm_1 rfl rfl ?_
  refine V_getr X.1 ob_0 rfl rfl hin_X8 6 (Nat.le_of_ble_eq_true rfl) tw_407 rfl dX8_needTerm_2 ?_
  refine V_getiN X.1 ob_32 rfl rfl hin_X0 4 (Nat.le_of_ble_eq_true rfl) nw_6 rfl dX8_needTerm_5 ?_
  refine V_cSI X.1 hf [vi a1, vi (w 32 4)] _ 2 (fun _ h => m_X8_isBelow h) tw_678 tw_86 tw_676 tw_677 dX8_needTerm_8 ⟨by decide +kernel, by decide +kernel, by decide +kernel⟩ ⟨rfl, rfl⟩ ⟨Nat.le_of_ble_eq_true rfl, Nat.le_of_ble_eq_true rfl⟩ rfl (Nat.le_of_ble_eq_true rfl) ⟨Nat.le_of_ble_eq_true rfl, Nat.le_of_ble_eq_true rfl⟩ (fun r1 w1 hf => ?_)
  refine V_if_ne X.1 (tgt := 25) dX8_needTerm_11 (by decide) hf (fun hf => ?_) (fun hf => ?_)
  · exact V_throwW X hE 3 rfl (by decide) (by decide +kernel) tw_679 tw_102 (List.mem_of_getElem? (i := 23) rfl) at_152 dX8_needTerm_14 dX8_needTerm_17 dX8_needTerm_18 dX8_needTerm_21 dX8_needTerm_24 ⟨Nat.le_of_ble_eq_true rfl, Nat.le_of_ble_eq_true rfl, Nat.le_of_ble_eq_true rfl, Nat.le_of_ble_eq_true rfl⟩ ⟨Nat.le_of_ble_eq_true rfl, Nat.le_of_ble_eq_true rfl⟩ hf
  · exact V_vretX X hE dX8_needTerm_25 ⟨Nat.le_of_ble_eq_true rfl, Nat.le_of_ble_eq_true rfl⟩ hf
abbrev rmX8_needWays : Room := { frames := 8, cells := 1, slots := 6, locals := 400 }
set_option maxRecDepth 20000 in
theorem v_X8_needWays_14 {G : GG} {E : EE} (X : CX G E cX8_needWays RX8 none rmX8_needWays 2) {q : (Nat × Int × WS)} (hE : EndX G E (QXV G q) q rmX8_needWays.cells rmX8_needWays.slots)   {w : WS} (hf : f_X8_needWays_14    w = some q) : VV G E 0 0 14 [] [] w := by
  unfold f_X8_needWays_14 at hf
  exact V_throwW X hE 1 rfl (by decide) (by decide +kernel) tw_515 tw_99 (List.mem_of_getElem? (i := 25) rfl) at_86 dX8_needWays_14 dX8_needWays_17 dX8_needWays_18 dX8_needWays_21 dX8_needWays_24 ⟨Nat.le_of_ble_eq_true rfl, Nat.le_of_ble_eq_true rfl, Nat.le_of_ble_eq_true rfl, Nat.le_of_ble_eq_true rfl⟩ ⟨Nat.le_of_ble_eq_true rfl, Nat.le_of_ble_eq_true rfl⟩ hf
set_option maxRecDepth 20000 in
theorem m_X8_needWays {G : GG} {a0 : Int} {a1 : Int} {w : WS} {q : (Nat × Int × WS)}  (hf : f_X8_needWays a0 a1 w = some q) : MXV G yX8_needWays cX8_needWays 2 none rmX8_needWays [vi a0, vi a1] w q := by
  refine MXV_of (by decide +kernel) (Nat.le_of_ble_eq_true rfl) (fun E X hE => ?_)
  have X : CX G E cX8_needWays RX8 none rmX8_needWays 2 := X
  unfold f_X8_needWays at hf
  refine V_iload_n X.1 dX8_needWays_0 rfl rfl ?_
  refine V_cSI X.1 hf [vi a0] _ 1 (fun _ h => m_X4_isWay h) tw_872 tw_93 tw_870 tw_871 dX8_needWays_1 ⟨by decide +kernel, by decide +kernel, by decide +kernel⟩ ⟨rfl, rfl⟩ ⟨Nat.le_of_ble_eq_true rfl, Nat.le_of_ble_eq_true rfl⟩ rfl (Nat.le_of_ble_eq_true rfl) ⟨Nat.le_of_ble_eq_true rfl, Nat.le_of_ble_eq_true rfl⟩ (fun r1 w1 hf => ?_)
  refine V_if_eq X.1 (tgt := 14) dX8_needWays_4 (by decide) hf (fun hf => ?_) (fun hf => ?_)
  · exact V_widen 0 0 ⟨Nat.le_of_ble_eq_true rfl, Nat.le_of_ble_eq_true rfl⟩ (by exact V_cut [] rfl (v_X8_needWays_14 X hE hf))
  · refine V_iload_n X.1 dX8_needWays_7 rfl rfl ?_
    refine V_cSI X.1 hf [vi a1] _ 1 (fun _ h => m_X4_isWay h) tw_872 tw_93 tw_870 tw_871 dX8_needWays_8 ⟨by decide +kernel, by decide +kernel, by decide +kernel⟩ ⟨rfl, rfl⟩ ⟨Nat.le_of_ble_eq_true rfl, Nat.le_of_ble_eq_true rfl⟩ rfl (Nat.le_of_ble_eq_true rfl) ⟨Nat.le_of_ble_eq_true rfl, Nat.le_of_ble_eq_true rfl⟩ (fun r2 w2 hf => ?_)
    refine V_if_ne X.1 (tgt := 25) dX8_needWays_11 (by decide) hf (fun hf => ?_) (fun hf => ?_)
    · exact V_widen 0 0 ⟨Nat.le_of_ble_eq_true rfl, Nat.le_of_ble_eq_true rfl⟩ (by exact V_cut [] rfl (v_X8_needWays_14 X hE hf))
    · exact V_vretX X hE dX8_needWays_25 ⟨Nat.le_of_ble_eq_true rfl, Nat.le_of_ble_eq_true rfl⟩ hf
abbrev rmX8_needRoomForStatement : Room := { frames := 8, cells := 1, slots := 6, locals := 400 }
set_option maxRecDepth 20000 in
theorem m_X8_needRoomForStatement {G : GG}  {w : WS} {q : (Nat × Int × WS)}  (hf : f_X8_needRoomForStatement  w = some q) : MXV G yX8_needRoomForStatement cX8_needRoomForStatement 1 none rmX8_needRoomForStatement [gr G 0] w q := by
  refine MXV_of (by decide +kernel) (Nat.le_of_ble_eq_true rfl) (fun E X hE => ?_)
  have X : CX G E cX8_needRoomForStatement RX8 none rmX8_needRoomForStatement 1 := X
  unfold f_X8_needRoomForStatement at hf
  refine V_gload_n X.1 dX8_needRoomForStatement_0 rfl rfl ?_
  refine V_getr X.1 ob_0 rfl rfl hin_X8 9 (Nat.le_of_ble_eq_true rfl) tw_410 rfl dX8_needRoomForStatement_1 ?_
  refine V_getiN X.1 ob_57 rfl rfl hin_X4 6 (Nat.le_of_ble_eq_true rfl) nw_21 rfl dX8_needRoomForStatement_4 ?_
  refine V_bipush X.1 dX8_needRoomForStatement_7 (by decide) ?_
  refine V_icmp_lt X.1 (tgt := 23) dX8_needRoomForStatement_9 (by decide) hf (fun hf => ?_) (fun hf => ?_)
  · exact V_vretX X hE dX8_needRoomForStatement_23 ⟨Nat.le_of_ble_eq_true rfl, Nat.le_of_ble_eq_true rfl⟩ hf
  · exact V_throwW X hE 2 rfl (by decide) (by decide +kernel) tw_587 tw_100 (List.mem_of_getElem? (i := 26) rfl) at_97 dX8_needRoomForStatement_12 dX8_needRoomForStatement_15 dX8_needRoomForStatement_16 dX8_needRoomForStatement_19 dX8_needRoomForStatement_22 ⟨Nat.le_of_ble_eq_true rfl, Nat.le_of_ble_eq_true rfl, Nat.le_of_ble_eq_true rfl, Nat.le_of_ble_eq_true rfl⟩ ⟨Nat.le_of_ble_eq_true rfl, Nat.le_of_ble_eq_true rfl⟩ hf
abbrev rmX8_assign : Room := { frames := 9, cells := 4, slots := 24, locals := 421 }
set_option maxRecDepth 20000 in
theorem m_X8_assign {G : GG} {a1 : Int} {a2 : Int} {a3 : Int} {a4 : Int} {w : WS} {q : (Nat × Int × WS)}  (hf : f_X8_assign a1 a2 a3 a4 w = some q) : MXI G yX8_assign cX8_assign 5 (some .int) rmX8_assign [gr G 0, vi a1, vi a2, vi a3, vi a4] w q := by
  refine MXI_of (by decide +kernel) (Nat.le_of_ble_eq_true rfl) (fun E X hE => ?_)
  have X : CX G E cX8_assign RX8 (some .int) rmX8_assign 5 := X
  unfold f_X8_assign at hf
  refine V_iload_n X.1 dX8_assign_0 rfl rfl ?_
  refine V_xSV X hE hf [vi a1] _ 1 (fun _ h => m_X8_needVariable h) tw_675 tw_86 tw_673 tw_674 dX8_assign_1 ⟨by decide +kernel, by decide +kernel, by decide +kernel⟩ ⟨Nat.le_of_ble_eq_true rfl, Nat.le_of_ble_eq_true rfl⟩ rfl (Nat.le_of_ble_eq_true rfl) ⟨Nat.le_of_ble_eq_true rfl, Nat.le_of_ble_eq_true rfl⟩ ⟨Nat.le_of_ble_eq_true rfl, Nat.le_of_ble_eq_true rfl⟩ (fun r1 w1 hf => ?_)
  refine V_gload_n X.1 dX8_assign_4 rfl rfl ?_
  refine V_iload_n X.1 dX8_assign_5 rfl rfl ?_
  refine V_xVV X hE hf [vi a2] _ 1 (fun _ h => m_X8_needTerm h) ob_0 rfl tw_865 tw_86 tw_862 tw_864 tw_3 dX8_assign_6 ⟨by decide +kernel, by decide +kernel, by decide +kernel⟩ ⟨Nat.le_of_ble_eq_true rfl, Nat.le_of_ble_eq_true rfl⟩ rfl (Nat.le_of_ble_eq_true rfl) ⟨Nat.le_of_ble_eq_true rfl, Nat.le_of_ble_eq_true rfl⟩ ⟨Nat.le_of_ble_eq_true rfl, Nat.le_of_ble_eq_true rfl⟩ (fun r2 w2 hf => ?_)
  refine V_iload_n X.1 dX8_assign_9 rfl rfl ?_
  refine V_iload X.1 dX8_assign_10 rfl ?_
  refine V_xSV X hE hf [vi a3, vi a4] _ 2 (fun _ h => m_X8_needWays h) tw_869 tw_86 tw_867 tw_868 dX8_assign_12 ⟨by decide +kernel, by decide +kernel, by decide +kernel⟩ ⟨Nat.le_of_ble_eq_true rfl, Nat.le_of_ble_eq_true rfl⟩ rfl (Nat.le_of_ble_eq_true rfl) ⟨Nat.le_of_ble_eq_true rfl, Nat.le_of_ble_eq_true rfl⟩ ⟨Nat.le_of_ble_eq_true rfl, Nat.le_of_ble_eq_true rfl⟩ (fun r3 w3 hf => ?_)
  refine V_gload_n X.1 dX8_assign_15 rfl rfl ?_
  refine V_xVV X hE hf [] _ 0 (fun _ h => m_X8_needRoomForStatement h) ob_0 rfl tw_877 tw_86 tw_874 tw_876 tw_4 dX8_assign_16 ⟨by decide +kernel, by decide +kernel, by decide +kernel⟩ ⟨Nat.le_of_ble_eq_true rfl, Nat.le_of_ble_eq_true rfl⟩ rfl (Nat.le_of_ble_eq_true rfl) ⟨Nat.le_of_ble_eq_true rfl, Nat.le_of_ble_eq_true rfl⟩ ⟨Nat.le_of_ble_eq_true rfl, Nat.le_of_ble_eq_true rfl⟩ (fun r4 w4 hf => ?_)
  refine V_gload_n X.1 dX8_assign_19 rfl rfl ?_
  refine V_getr X.1 ob_0 rfl rfl hin_X8 9 (Nat.le_of_ble_eq_true rfl) tw_410 rfl dX8_assign_20 ?_
  refine V_bipush X.1 dX8_assign_23 (by decide) ?_
  refine V_iload_n X.1 dX8_assign_25 rfl rfl ?_
  refine V_iconst X.1 dX8_assign_26 ?_
  refine V_iload_n X.1 dX8_assign_27 rfl rfl ?_
  refine V_iload_n X.1 dX8_assign_28 rfl rfl ?_
  refine V_iload X.1 dX8_assign_29 rfl ?_
  refine V_cVI X.1 hf [vi 97, vi a1, vi (-1), vi a2, vi a3, vi a4] _ 6 (fun _ h => m_X4_add h) ob_57 rfl tw_882 tw_93 tw_879 tw_880 tw_881 dX8_assign_31 ⟨by decide +kernel, by decide +kernel, by decide +kernel⟩ ⟨rfl, rfl⟩ ⟨Nat.le_of_ble_eq_true rfl, Nat.le_of_ble_eq_true rfl⟩ rfl (Nat.le_of_ble_eq_true rfl) ⟨Nat.le_of_ble_eq_true rfl, Nat.le_of_ble_eq_true rfl⟩ (fun r5 w5 hf => ?_)
  exact V_iretX X hE dX8_assign_34 ⟨Nat.le_of_ble_eq_true rfl, Nat.le_of_ble_eq_true rfl⟩ hf
abbrev rmX8_needPattern : Room := { frames := 8, cells := 1, slots := 6, locals := 400 }
set_option maxRecDepth 20000 in
theorem m_X8_needPattern {G : GG} {a1 : Int} {w : WS} {q : (Nat × Int × WS)}  (hf : f_X8_needPattern a1 w = some q) : MXV G yX8_needPattern cX8_needPattern 2 none rmX8_needPattern [gr G 0, vi a1] w q := by
  refine MXV_of (by decide +kernel) (Nat.le_of_ble_eq_true rfl) (fun E X hE => ?_)
  have X : CX G E cX8_needPattern RX8 none rmX8_needPattern 2 := X
  unfold f_X8_needPattern at hf
  refine V_iload_n X.1 dX8_needPattern_0 rfl rfl ?_
  refine V_gload_n X.1 dX8_needPattern_1 rfl rfl ?_
  refine V_getr X.1 ob_0 rfl rfl hin_X8 5 (Nat.le_of_ble_eq_true rfl) tw_406 rfl dX8_needPattern_2 ?_
  refine V_getiN X.1 ob_25 rfl rfl hin_X0 4 (Nat.le_of_ble_eq_true rfl) nw_6 rfl dX8_needPattern_5 ?_
  refine V_cSI X.1 hf [vi a1, vi (w 25 4)] _ 2 (fun _ h => m_X8_isBelow h) tw_678 tw_86 tw_676 tw_677 dX8_needPattern_8 ⟨by decide +kernel, by decide +kernel, by decide +kernel⟩ ⟨rfl, rfl⟩ ⟨Nat.le_of_ble_eq_true rfl, Nat.le_of_ble_eq_true rfl⟩ rfl (Nat.le_of_ble_eq_true rfl) ⟨Nat.le_of_ble_eq_true rfl, Nat.le_of_ble_eq_true rfl⟩ (fun r1 w1 hf => ?_)
  refine V_if_ne X.1 (tgt := 25) dX8_needPattern_11 (by decide) hf (fun hf => ?_) (fun hf => ?_)
  · exact V_throwW X hE 3 rfl (by decide) (by decide +kernel) tw_679 tw_102 (List.mem_of_getElem? (i := 22) rfl) at_152 dX8_needPattern_14 dX8_needPattern_17 dX8_needPattern_18 dX8_needPattern_21 dX8_needPattern_24 ⟨Nat.le_of_ble_eq_true rfl, Nat.le_of_ble_eq_true rfl, Nat.le_of_ble_eq_true rfl, Nat.le_of_ble_eq_true rfl⟩ ⟨Nat.le_of_ble_eq_true rfl, Nat.le_of_ble_eq_true rfl⟩ hf
  · exact V_vretX X hE dX8_needPattern_25 ⟨Nat.le_of_ble_eq_true rfl, Nat.le_of_ble_eq_true rfl⟩ hf
abbrev rmX8_scan : Room := { frames := 9, cells := 5, slots := 30, locals := 421 }
set_option maxRecDepth 20000 in
theorem v_X8_scan_19 {G : GG} {E : EE} (X : CX G E cX8_scan RX8 (some .int) rmX8_scan 6) {q : (Nat × Int × WS)} (hE : EndX G E (QXI G q) q rmX8_scan.cells rmX8_scan.slots)   {a1 a2 a3 a4 a5 : Int} {w : WS} (hf : f_X8_scan_19   a1 a2 a3 a4 a5 w = some q) : VV G E 3 18 19 [(0, gr G 0), (1, vi a1), (2, vi a2), (3, vi a3), (4, vi a4), (5, vi a5)] [] w := by
  unfold f_X8_scan_19 at hf
  refine V_iload X.1 dX8_scan_19 rfl ?_
  refine V_iload X.1 dX8_scan_21 rfl ?_
  refine V_xSV X hE hf [vi a4, vi a5] _ 2 (fun _ h => m_X8_needWays h) tw_869 tw_86 tw_867 tw_868 dX8_scan_23 ⟨by decide +kernel, by decide +kernel, by decide +kernel⟩ ⟨Nat.le_of_ble_eq_true rfl, Nat.le_of_ble_eq_true rfl⟩ rfl (Nat.le_of_ble_eq_true rfl) ⟨Nat.le_of_ble_eq_true rfl, Nat.le_of_ble_eq_true rfl⟩ ⟨Nat.le_of_ble_eq_true rfl, Nat.le_of_ble_eq_true rfl⟩ (fun r3 w3 hf => ?_)
  refine V_gload_n X.1 dX8_scan_26 rfl rfl ?_
  refine V_xVV X hE hf [] _ 0 (fun _ h => m_X8_needRoomForStatement h) ob_0 rfl tw_877 tw_86 tw_874 tw_876 tw_4 dX8_scan_27 ⟨by decide +kernel, by decide +kernel, by decide +kernel⟩ ⟨Nat.le_of_ble_eq_true rfl, Nat.le_of_ble_eq_true rfl⟩ rfl (Nat.le_of_ble_eq_true rfl) ⟨Nat.le_of_ble_eq_true rfl, Nat.le_of_ble_eq_true rfl⟩ ⟨Nat.le_of_ble_eq_true rfl, Nat.le_of_ble_eq_true rfl⟩ (fun r4 w4 hf => ?_)
  refine V_gload_n X.1 dX8_scan_30 rfl rfl ?_
  refine V_getr X.1 ob_0 rfl rfl hin_X8 9 (Nat.le_of_ble_eq_true rfl) tw_410 rfl dX8_scan_31 ?_
  refine V_bipush X.1 dX8_scan_34 (by decide) ?_
  refine V_iload_n X.1 dX8_scan_36 rfl rfl ?_
  refine V_iload_n X.1 dX8_scan_37 rfl rfl ?_
  refine V_iload_n X.1 dX8_scan_38 rfl rfl ?_
  refine V_iload X.1 dX8_scan_39 rfl ?_
  refine V_iload X.1 dX8_scan_41 rfl ?_
  refine V_cVI X.1 hf [vi 115, vi a1, vi a2, vi a3, vi a4, vi a5] _ 6 (fun _ h => m_X4_add h) ob_57 rfl tw_882 tw_93 tw_879 tw_880 tw_881 dX8_scan_43 ⟨by decide +kernel, by decide +kernel, by decide +kernel⟩ ⟨rfl, rfl⟩ ⟨Nat.le_of_ble_eq_true rfl, Nat.le_of_ble_eq_true rfl⟩ rfl (Nat.le_of_ble_eq_true rfl) ⟨Nat.le_of_ble_eq_true rfl, Nat.le_of_ble_eq_true rfl⟩ (fun r5 w5 hf => ?_)
  exact V_iretX X hE dX8_scan_46 ⟨Nat.le_of_ble_eq_true rfl, Nat.le_of_ble_eq_true rfl⟩ hf
set_option maxRecDepth 20000 in
theorem m_X8_scan {G : GG} {a1 : Int} {a2 : Int} {a3 : Int} {a4 : Int} {a5 : Int} {w : WS} {q : (Nat × Int × WS)}  (hf : f_X8_scan a1 a2 a3 a4 a5 w = some q) : MXI G yX8_scan cX8_scan 6 (some .int) rmX8_scan [gr G 0, vi a1, vi a2, vi a3, vi a4, vi a5] w q := by
  refine MXI_of (by decide +kernel) (Nat.le_of_ble_eq_true rfl) (fun E X hE => ?_)
  have X : CX G E cX8_scan RX8 (some .int) rmX8_scan 6 := X
  unfold f_X8_scan at hf
  refine V_iload_n X.1 dX8_scan_0 rfl rfl ?_
  refine V_xSV X hE hf [vi a1] _ 1 (fun _ h => m_X8_needVariable h) tw_675 tw_86 tw_673 tw_674 dX8_scan_1 ⟨by decide +kernel, by decide +kernel, by decide +kernel⟩ ⟨Nat.le_of_ble_eq_true rfl, Nat.le_of_ble_eq_true rfl⟩ rfl (Nat.le_of_ble_eq_true rfl) ⟨Nat.le_of_ble_eq_true rfl, Nat.le_of_ble_eq_true rfl⟩ ⟨Nat.le_of_ble_eq_true rfl, Nat.le_of_ble_eq_true rfl⟩ (fun r1 w1 hf => ?_)
  refine V_gload_n X.1 dX8_scan_4 rfl rfl ?_
  refine V_iload_n X.1 dX8_scan_5 rfl rfl ?_
  refine V_xVV X hE hf [vi a2] _ 1 (fun _ h => m_X8_needPattern h) ob_0 rfl tw_894 tw_86 tw_891 tw_893 tw_5 dX8_scan_6 ⟨by decide +kernel, by decide +kernel, by decide +kernel⟩ ⟨Nat.le_of_ble_eq_true rfl, Nat.le_of_ble_eq_true rfl⟩ rfl (Nat.le_of_ble_eq_true rfl) ⟨Nat.le_of_ble_eq_true rfl, Nat.le_of_ble_eq_true rfl⟩ ⟨Nat.le_of_ble_eq_true rfl, Nat.le_of_ble_eq_true rfl⟩ (fun r2 w2 hf => ?_)
  refine V_iload_n X.1 dX8_scan_9 rfl rfl ?_
  refine V_iconst X.1 dX8_scan_10 ?_
  refine V_icmp_eq X.1 (tgt := 19) dX8_scan_11 (by decide) hf (fun hf => ?_) (fun hf => ?_)
  · exact V_widen 3 18 ⟨Nat.le_of_ble_eq_true rfl, Nat.le_of_ble_eq_true rfl⟩ (by exact V_cut [0, 1, 2, 3, 4, 5] rfl (v_X8_scan_19 X hE hf))
  · refine V_gload_n X.1 dX8_scan_14 rfl rfl ?_
    refine V_iload_n X.1 dX8_scan_15 rfl rfl ?_
    refine V_xVV X hE hf [vi a3] _ 1 (fun _ h => m_X8_needTerm h) ob_0 rfl tw_865 tw_86 tw_862 tw_864 tw_3 dX8_scan_16 ⟨by decide +kernel, by decide +kernel, by decide +kernel⟩ ⟨Nat.le_of_ble_eq_true rfl, Nat.le_of_ble_eq_true rfl⟩ rfl (Nat.le_of_ble_eq_true rfl) ⟨Nat.le_of_ble_eq_true rfl, Nat.le_of_ble_eq_true rfl⟩ ⟨Nat.le_of_ble_eq_true rfl, Nat.le_of_ble_eq_true rfl⟩ (fun r6 w6 hf => ?_)
    exact V_widen 3 18 ⟨Nat.le_of_ble_eq_true rfl, Nat.le_of_ble_eq_true rfl⟩ (by exact V_cut [0, 1, 2, 3, 4, 5] rfl (v_X8_scan_19 X hE hf))
abbrev rmX8_call : Room := { frames := 9, cells := 4, slots := 24, locals := 421 }
set_option maxRecDepth 20000 in
theorem m_X8_call {G : GG} {a1 : Int} {a2 : Int} {a3 : Int} {a4 : Int} {a5 : Int} {w : WS} {q : (Nat × Int × WS)}  (hf : f_X8_call a1 a2 a3 a4 a5 w = some q) : MXI G yX8_call cX8_call 6 (some .int) rmX8_call [gr G 0, vi a1, vi a2, vi a3, vi a4, vi a5] w q := by
  refine MXI_of (by decide +kernel) (Nat.le_of_ble_eq_true rfl) (fun E X hE => ?_)
  have X : CX G E cX8_call RX8 (some .int) rmX8_call 6 := X
  unfold f_X8_call at hf
  refine V_iload_n X.1 dX8_call_0 rfl rfl ?_
  refine V_xSV X hE hf [vi a1] _ 1 (fun _ h => m_X8_needVariable h) tw_675 tw_86 tw_673 tw_674 dX8_call_1 ⟨by decide +kernel, by decide +kernel, by decide +kernel⟩ ⟨Nat.le_of_ble_eq_true rfl, Nat.le_of_ble_eq_true rfl⟩ rfl (Nat.le_of_ble_eq_true rfl) ⟨Nat.le_of_ble_eq_true rfl, Nat.le_of_ble_eq_true rfl⟩ ⟨Nat.le_of_ble_eq_true rfl, Nat.le_of_ble_eq_true rfl⟩ (fun r1 w1 hf => ?_)
  refine V_gload_n X.1 dX8_call_4 rfl rfl ?_
  refine V_iload_n X.1 dX8_call_5 rfl rfl ?_
  refine V_xVV X hE hf [vi a3] _ 1 (fun _ h => m_X8_needTerm h) ob_0 rfl tw_865 tw_86 tw_862 tw_864 tw_3 dX8_call_6 ⟨by decide +kernel, by decide +kernel, by decide +kernel⟩ ⟨Nat.le_of_ble_eq_true rfl, Nat.le_of_ble_eq_true rfl⟩ rfl (Nat.le_of_ble_eq_true rfl) ⟨Nat.le_of_ble_eq_true rfl, Nat.le_of_ble_eq_true rfl⟩ ⟨Nat.le_of_ble_eq_true rfl, Nat.le_of_ble_eq_true rfl⟩ (fun r2 w2 hf => ?_)
  refine V_iload_n X.1 dX8_call_9 rfl rfl ?_
  refine V_iconst X.1 dX8_call_10 ?_
  refine V_cSI X.1 hf [vi a2, vi 5] _ 2 (fun _ h => m_X8_isBelow h) tw_678 tw_86 tw_676 tw_677 dX8_call_11 ⟨by decide +kernel, by decide +kernel, by decide +kernel⟩ ⟨rfl, rfl⟩ ⟨Nat.le_of_ble_eq_true rfl, Nat.le_of_ble_eq_true rfl⟩ rfl (Nat.le_of_ble_eq_true rfl) ⟨Nat.le_of_ble_eq_true rfl, Nat.le_of_ble_eq_true rfl⟩ (fun r3 w3 hf => ?_)
  refine V_if_ne X.1 (tgt := 27) dX8_call_14 (by decide) hf (fun hf => ?_) (fun hf => ?_)
  · exact V_throwS X hE 1 rfl (by decide) (by decide +kernel) tw_515 tw_99 (List.mem_of_getElem? (i := 11) rfl) at_86 dX8_call_17 dX8_call_20 dX8_call_21 dX8_call_23 dX8_call_26 ⟨Nat.le_of_ble_eq_true rfl, Nat.le_of_ble_eq_true rfl, Nat.le_of_ble_eq_true rfl, Nat.le_of_ble_eq_true rfl⟩ ⟨Nat.le_of_ble_eq_true rfl, Nat.le_of_ble_eq_true rfl⟩ hf
  · refine V_iload X.1 dX8_call_27 rfl ?_
    refine V_iload X.1 dX8_call_29 rfl ?_
    refine V_xSV X hE hf [vi a4, vi a5] _ 2 (fun _ h => m_X8_needWays h) tw_869 tw_86 tw_867 tw_868 dX8_call_31 ⟨by decide +kernel, by decide +kernel, by decide +kernel⟩ ⟨Nat.le_of_ble_eq_true rfl, Nat.le_of_ble_eq_true rfl⟩ rfl (Nat.le_of_ble_eq_true rfl) ⟨Nat.le_of_ble_eq_true rfl, Nat.le_of_ble_eq_true rfl⟩ ⟨Nat.le_of_ble_eq_true rfl, Nat.le_of_ble_eq_true rfl⟩ (fun r4 w4 hf => ?_)
    refine V_gload_n X.1 dX8_call_34 rfl rfl ?_
    refine V_xVV X hE hf [] _ 0 (fun _ h => m_X8_needRoomForStatement h) ob_0 rfl tw_877 tw_86 tw_874 tw_876 tw_4 dX8_call_35 ⟨by decide +kernel, by decide +kernel, by decide +kernel⟩ ⟨Nat.le_of_ble_eq_true rfl, Nat.le_of_ble_eq_true rfl⟩ rfl (Nat.le_of_ble_eq_true rfl) ⟨Nat.le_of_ble_eq_true rfl, Nat.le_of_ble_eq_true rfl⟩ ⟨Nat.le_of_ble_eq_true rfl, Nat.le_of_ble_eq_true rfl⟩ (fun r5 w5 hf => ?_)
    refine V_gload_n X.1 dX8_call_38 rfl rfl ?_
    refine V_getr X.1 ob_0 rfl rfl hin_X8 9 (Nat.le_of_ble_eq_true rfl) tw_410 rfl dX8_call_39 ?_
    refine V_bipush X.1 dX8_call_42 (by decide) ?_
    refine V_iload_n X.1 dX8_call_44 rfl rfl ?_
    refine V_iload_n X.1 dX8_call_45 rfl rfl ?_
    refine V_iload_n X.1 dX8_call_46 rfl rfl ?_
    refine V_iload X.1 dX8_call_47 rfl ?_
    refine V_iload X.1 dX8_call_49 rfl ?_
    refine V_cVI X.1 hf [vi 99, vi a1, vi a2, vi a3, vi a4, vi a5] _ 6 (fun _ h => m_X4_add h) ob_57 rfl tw_882 tw_93 tw_879 tw_880 tw_881 dX8_call_51 ⟨by decide +kernel, by decide +kernel, by decide +kernel⟩ ⟨rfl, rfl⟩ ⟨Nat.le_of_ble_eq_true rfl, Nat.le_of_ble_eq_true rfl⟩ rfl (Nat.le_of_ble_eq_true rfl) ⟨Nat.le_of_ble_eq_true rfl, Nat.le_of_ble_eq_true rfl⟩ (fun r6 w6 hf => ?_)
    exact V_iretX X hE dX8_call_54 ⟨Nat.le_of_ble_eq_true rfl, Nat.le_of_ble_eq_true rfl⟩ hf
abbrev rmX8_define : Room := { frames := 9, cells := 3, slots := 18, locals := 420 }
set_option maxRecDepth 20000 in
theorem v_X8_define_17 {G : GG} {E : EE} (X : CX G E cX8_define RX8 (some .boolean) rmX8_define 6) {q : (Nat × Int × WS)} (hE : EndX G E (QXI G q) q rmX8_define.cells rmX8_define.slots)   {w : WS} (hf : f_X8_define_17    w = some q) : VV G E 0 0 17 [] [] w := by
  unfold f_X8_define_17 at hf
  exact V_throwS X hE 1 rfl (by decide) (by decide +kernel) tw_515 tw_99 (List.mem_of_getElem? (i := 12) rfl) at_86 dX8_define_17 dX8_define_20 dX8_define_21 dX8_define_23 dX8_define_26 ⟨Nat.le_of_ble_eq_true rfl, Nat.le_of_ble_eq_true rfl, Nat.le_of_ble_eq_true rfl, Nat.le_of_ble_eq_true rfl⟩ ⟨Nat.le_of_ble_eq_true rfl, Nat.le_of_ble_eq_true rfl⟩ hf
set_option maxRecDepth 20000 in
theorem v_X8_define_46 {G : GG} {E : EE} (X : CX G E cX8_define RX8 (some .boolean) rmX8_define 6) {q : (Nat × Int × WS)} (hE : EndX G E (QXI G q) q rmX8_define.cells rmX8_define.slots)   {w : WS} (hf : f_X8_define_46    w = some q) : VV G E 0 0 46 [] [] w := by
  unfold f_X8_define_46 at hf
  exact V_throwS X hE 1 rfl (by decide) (by decide +kernel) tw_515 tw_99 (List.mem_of_getElem? (i := 13) rfl) at_86 dX8_define_46 dX8_define_49 dX8_define_50 dX8_define_52 dX8_define_55 ⟨Nat.le_of_ble_eq_true rfl, Nat.le_of_ble_eq_true rfl, Nat.le_of_ble_eq_true rfl, Nat.le_of_ble_eq_true rfl⟩ ⟨Nat.le_of_ble_eq_true rfl, Nat.le_of_ble_eq_true rfl⟩ hf
set_option maxRecDepth 20000 in
theorem m_X8_define {G : GG} {a1 : Int} {a2 : Int} {a3 : Int} {a4 : Int} {a5 : Int} {w : WS} {q : (Nat × Int × WS)}  (hf : f_X8_define a1 a2 a3 a4 a5 w = some q) : MXI G yX8_define cX8_define 6 (some .boolean) rmX8_define [gr G 0, vi a1, vi a2, vi a3, vi a4, vi a5] w q := by
  refine MXI_of (by decide +kernel) (Nat.le_of_ble_eq_true rfl) (fun E X hE => ?_)
  have X : CX G E cX8_define RX8 (some .boolean) rmX8_define 6 := X
  unfold f_X8_define at hf
  refine V_iload_n X.1 dX8_define_0 rfl rfl ?_
  refine V_iconst X.1 dX8_define_1 ?_
  refine V_cSI X.1 hf [vi a1, vi 5] _ 2 (fun _ h => m_X8_isBelow h) tw_678 tw_86 tw_676 tw_677 dX8_define_2 ⟨by decide +kernel, by decide +kernel, by decide +kernel⟩ ⟨rfl, rfl⟩ ⟨Nat.le_of_ble_eq_true rfl, Nat.le_of_ble_eq_true rfl⟩ rfl (Nat.le_of_ble_eq_true rfl) ⟨Nat.le_of_ble_eq_true rfl, Nat.le_of_ble_eq_true rfl⟩ (fun r1 w1 hf => ?_)
  refine V_if_eq X.1 (tgt := 17) dX8_define_5 (by decide) hf (fun hf => ?_) (fun hf => ?_)
  · exact V_widen 0 0 ⟨Nat.le_of_ble_eq_true rfl, Nat.le_of_ble_eq_true rfl⟩ (by exact V_cut [] rfl (v_X8_define_17 X hE hf))
  · refine V_iload_n X.1 dX8_define_8 rfl rfl ?_
    refine V_bipush X.1 dX8_define_9 (by decide) ?_
    refine V_cSI X.1 hf [vi a2, vi 40] _ 2 (fun _ h => m_X8_isBelow h) tw_678 tw_86 tw_676 tw_677 dX8_define_11 ⟨by decide +kernel, by decide +kernel, by decide +kernel⟩ ⟨rfl, rfl⟩ ⟨Nat.le_of_ble_eq_true rfl, Nat.le_of_ble_eq_true rfl⟩ rfl (Nat.le_of_ble_eq_true rfl) ⟨Nat.le_of_ble_eq_true rfl, Nat.le_of_ble_eq_true rfl⟩ (fun r2 w2 hf => ?_)
    refine V_if_ne X.1 (tgt := 27) dX8_define_14 (by decide) hf (fun hf => ?_) (fun hf => ?_)
    · exact V_widen 0 0 ⟨Nat.le_of_ble_eq_true rfl, Nat.le_of_ble_eq_true rfl⟩ (by exact V_cut [] rfl (v_X8_define_17 X hE hf))
    · refine V_iload_n X.1 dX8_define_27 rfl rfl ?_
      refine V_iload X.1 dX8_define_28 rfl ?_
      refine V_icmp_eq X.1 (tgt := 46) dX8_define_30 (by decide) hf (fun hf => ?_) (fun hf => ?_)
      · exact V_widen 0 0 ⟨Nat.le_of_ble_eq_true rfl, Nat.le_of_ble_eq_true rfl⟩ (by exact V_cut [] rfl (v_X8_define_46 X hE hf))
      · refine V_iload_n X.1 dX8_define_33 rfl rfl ?_
        refine V_iload X.1 dX8_define_34 rfl ?_
        refine V_icmp_eq X.1 (tgt := 46) dX8_define_36 (by decide) hf (fun hf => ?_) (fun hf => ?_)
        · exact V_widen 0 0 ⟨Nat.le_of_ble_eq_true rfl, Nat.le_of_ble_eq_true rfl⟩ (by exact V_cut [] rfl (v_X8_define_46 X hE hf))
        · refine V_iload X.1 dX8_define_39 rfl ?_
          refine V_iload X.1 dX8_define_41 rfl ?_
          refine V_icmp_ne X.1 (tgt := 56) dX8_define_43 (by decide) hf (fun hf => ?_) (fun hf => ?_)
          · exact V_widen 0 0 ⟨Nat.le_of_ble_eq_true rfl, Nat.le_of_ble_eq_true rfl⟩ (by exact V_cut [] rfl (v_X8_define_46 X hE hf))
          · refine V_iload_n X.1 dX8_define_56 rfl rfl ?_
            refine V_xSV X hE hf [vi a3] _ 1 (fun _ h => m_X8_needVariable h) tw_675 tw_86 tw_673 tw_674 dX8_define_57 ⟨by decide +kernel, by decide +kernel, by decide +kernel⟩ ⟨Nat.le_of_ble_eq_true rfl, Nat.le_of_ble_eq_true rfl⟩ rfl (Nat.le_of_ble_eq_true rfl) ⟨Nat.le_of_ble_eq_true rfl, Nat.le_of_ble_eq_true rfl⟩ ⟨Nat.le_of_ble_eq_true rfl, Nat.le_of_ble_eq_true rfl⟩ (fun r3 w3 hf => ?_)
            refine V_iload X.1 dX8_define_60 rfl ?_
            refine V_xSV X hE hf [vi a4] _ 1 (fun _ h => m_X8_needVariable h) tw_675 tw_86 tw_673 tw_674 dX8_define_62 ⟨by decide +kernel, by decide +kernel, by decide +kernel⟩ ⟨Nat.le_of_ble_eq_true rfl, Nat.le_of_ble_eq_true rfl⟩ rfl (Nat.le_of_ble_eq_true rfl) ⟨Nat.le_of_ble_eq_true rfl, Nat.le_of_ble_eq_true rfl⟩ ⟨Nat.le_of_ble_eq_true rfl, Nat.le_of_ble_eq_true rfl⟩ (fun r4 w4 hf => ?_)
            refine V_iload X.1 dX8_define_65 rfl ?_
            refine V_xSV X hE hf [vi a5] _ 1 (fun _ h => m_X8_needVariable h) tw_675 tw_86 tw_673 tw_674 dX8_define_67 ⟨by decide +kernel, by decide +kernel, by decide +kernel⟩ ⟨Nat.le_of_ble_eq_true rfl, Nat.le_of_ble_eq_true rfl⟩ rfl (Nat.le_of_ble_eq_true rfl) ⟨Nat.le_of_ble_eq_true rfl, Nat.le_of_ble_eq_true rfl⟩ ⟨Nat.le_of_ble_eq_true rfl, Nat.le_of_ble_eq_true rfl⟩ (fun r5 w5 hf => ?_)
            refine V_gload_n X.1 dX8_define_70 rfl rfl ?_
            refine V_getr X.1 ob_0 rfl rfl hin_X8 9 (Nat.le_of_ble_eq_true rfl) tw_410 rfl dX8_define_71 ?_
            refine V_iload_n X.1 dX8_define_74 rfl rfl ?_
            refine V_iload_n X.1 dX8_define_75 rfl rfl ?_
            refine V_iload_n X.1 dX8_define_76 rfl rfl ?_
            refine V_iload X.1 dX8_define_77 rfl ?_
            refine V_iload X.1 dX8_define_79 rfl ?_
            refine V_cVI X.1 hf [vi a1, vi a2, vi a3, vi a4, vi a5] _ 5 (fun _ h => m_X4_tell h) ob_57 rfl tw_916 tw_93 tw_913 tw_914 tw_915 dX8_define_81 ⟨by decide +kernel, by decide +kernel, by decide +kernel⟩ ⟨rfl, rfl⟩ ⟨Nat.le_of_ble_eq_true rfl, Nat.le_of_ble_eq_true rfl⟩ rfl (Nat.le_of_ble_eq_true rfl) ⟨Nat.le_of_ble_eq_true rfl, Nat.le_of_ble_eq_true rfl⟩ (fun r6 w6 hf => ?_)
            obtain ⟨hz, hf⟩ := ite_n hf
            exact V_zretX X hE dX8_define_84 hz ⟨Nat.le_of_ble_eq_true rfl, Nat.le_of_ble_eq_true rfl⟩ hf
abbrev rmX8_needStatement : Room := { frames := 8, cells := 1, slots := 6, locals := 400 }
set_option maxRecDepth 20000 in
theorem m_X8_needStatement {G : GG} {a1 : Int} {w : WS} {q : (Nat × Int × WS)}  (hf : f_X8_needStatement a1 w = some q) : MXV G yX8_needStatement cX8_needStatement 2 none rmX8_needStatement [gr G 0, vi a1] w q := by
  refine MXV_of (by decide +kernel) (Nat.le_of_ble_eq_true rfl) (fun E X hE => ?_)
  have X : CX G E cX8_needStatement RX8 none rmX8_needStatement 2 := X
  unfold f_X8_needStatement at hf
  refine V_iload_n X.1 dX8_needStatement_0 rfl rfl ?_
  refine V_gload_n X.1 dX8_needStatement_1 rfl rfl ?_
  refine V_getr X.1 ob_0 rfl rfl hin_X8 9 (Nat.le_of_ble_eq_true rfl) tw_410 rfl dX8_needStatement_2 ?_
  refine V_getiN X.1 ob_57 rfl rfl hin_X4 6 (Nat.le_of_ble_eq_true rfl) nw_21 rfl dX8_needStatement_5 ?_
  refine V_cSI X.1 hf [vi a1, vi (w 57 6)] _ 2 (fun _ h => m_X8_isBelow h) tw_678 tw_86 tw_676 tw_677 dX8_needStatement_8 ⟨by decide +kernel, by decide +kernel, by decide +kernel⟩ ⟨rfl, rfl⟩ ⟨Nat.le_of_ble_eq_true rfl, Nat.le_of_ble_eq_true rfl⟩ rfl (Nat.le_of_ble_eq_true rfl) ⟨Nat.le_of_ble_eq_true rfl, Nat.le_of_ble_eq_true rfl⟩ (fun r1 w1 hf => ?_)
  refine V_if_ne X.1 (tgt := 25) dX8_needStatement_11 (by decide) hf (fun hf => ?_) (fun hf => ?_)
  · exact V_throwW X hE 3 rfl (by decide) (by decide +kernel) tw_679 tw_102 (List.mem_of_getElem? (i := 24) rfl) at_152 dX8_needStatement_14 dX8_needStatement_17 dX8_needStatement_18 dX8_needStatement_21 dX8_needStatement_24 ⟨Nat.le_of_ble_eq_true rfl, Nat.le_of_ble_eq_true rfl, Nat.le_of_ble_eq_true rfl, Nat.le_of_ble_eq_true rfl⟩ ⟨Nat.le_of_ble_eq_true rfl, Nat.le_of_ble_eq_true rfl⟩ hf
  · exact V_vretX X hE dX8_needStatement_25 ⟨Nat.le_of_ble_eq_true rfl, Nat.le_of_ble_eq_true rfl⟩ hf
abbrev rmX8_run : Room := { frames := 9, cells := 1, slots := 6, locals := 421 }
set_option maxRecDepth 20000 in
theorem v_X8_run_12 {G : GG} {E : EE} (X : CX G E cX8_run RX8 (some .char) rmX8_run 3) {q : (Nat × Int × WS)} (hE : EndX G E (QXI G q) q rmX8_run.cells rmX8_run.slots)   {w : WS} (hf : f_X8_run_12    w = some q) : VV G E 0 0 12 [] [] w := by
  unfold f_X8_run_12 at hf
  exact V_throwS X hE 1 rfl (by decide) (by decide +kernel) tw_515 tw_99 (List.mem_of_getElem? (i := 14) rfl) at_86 dX8_run_12 dX8_run_15 dX8_run_16 dX8_run_18 dX8_run_21 ⟨Nat.le_of_ble_eq_true rfl, Nat.le_of_ble_eq_true rfl, Nat.le_of_ble_eq_true rfl, Nat.le_of_ble_eq_true rfl⟩ ⟨Nat.le_of_ble_eq_true rfl, Nat.le_of_ble_eq_true rfl⟩ hf
set_option maxRecDepth 20000 in
theorem m_X8_run {G : GG} {a1 : Int} {a2 : Int} {w : WS} {q : (Nat × Int × WS)}  (hf : f_X8_run a1 a2 w = some q) : MXI G yX8_run cX8_run 3 (some .char) rmX8_run [gr G 0, vi a1, vi a2] w q := by
  refine MXI_of (by decide +kernel) (Nat.le_of_ble_eq_true rfl) (fun E X hE => ?_)
  have X : CX G E cX8_run RX8 (some .char) rmX8_run 3 := X
  unfold f_X8_run at hf
  refine V_iload_n X.1 dX8_run_0 rfl rfl ?_
  refine V_iconst X.1 dX8_run_1 ?_
  refine V_icmp_lt X.1 (tgt := 12) dX8_run_2 (by decide) hf (fun hf => ?_) (fun hf => ?_)
  · exact V_widen 0 0 ⟨Nat.le_of_ble_eq_true rfl, Nat.le_of_ble_eq_true rfl⟩ (by exact V_cut [] rfl (v_X8_run_12 X hE hf))
  · refine V_iload_n X.1 dX8_run_5 rfl rfl ?_
    refine V_sipush X.1 dX8_run_6 (by decide) ?_
    refine V_icmp_le X.1 (tgt := 22) dX8_run_9 (by decide) hf (fun hf => ?_) (fun hf => ?_)
    · exact V_widen 0 0 ⟨Nat.le_of_ble_eq_true rfl, Nat.le_of_ble_eq_true rfl⟩ (by exact V_cut [] rfl (v_X8_run_12 X hE hf))
    · refine V_gload_n X.1 dX8_run_22 rfl rfl ?_
      refine V_iload_n X.1 dX8_run_23 rfl rfl ?_
      refine V_xVV X hE hf [vi a1] _ 1 (fun _ h => m_X8_needStatement h) ob_0 rfl tw_929 tw_86 tw_926 tw_928 tw_6 dX8_run_24 ⟨by decide +kernel, by decide +kernel, by decide +kernel⟩ ⟨Nat.le_of_ble_eq_true rfl, Nat.le_of_ble_eq_true rfl⟩ rfl (Nat.le_of_ble_eq_true rfl) ⟨Nat.le_of_ble_eq_true rfl, Nat.le_of_ble_eq_true rfl⟩ ⟨Nat.le_of_ble_eq_true rfl, Nat.le_of_ble_eq_true rfl⟩ (fun r1 w1 hf => ?_)
      refine V_gload_n X.1 dX8_run_27 rfl rfl ?_
      refine V_getr X.1 ob_0 rfl rfl hin_X8 10 (Nat.le_of_ble_eq_true rfl) tw_411 rfl dX8_run_28 ?_
      refine V_iload_n X.1 dX8_run_31 rfl rfl ?_
      refine V_iload_n X.1 dX8_run_32 rfl rfl ?_
      refine V_gload_n X.1 dX8_run_33 rfl rfl ?_
      refine V_geti X.1 ob_0 rfl rfl hin_X8 12 (Nat.le_of_ble_eq_true rfl) tw_413 rfl dX8_run_34 ?_
      refine V_cVI X.1 hf [vi a1, vi a2, vi (w1 0 12)] _ 3 (fun _ h => m_X7_go h) ob_76 rfl tw_934 tw_94 tw_931 tw_932 tw_933 dX8_run_37 ⟨by decide +kernel, by decide +kernel, by decide +kernel⟩ ⟨rfl, rfl⟩ ⟨Nat.le_of_ble_eq_true rfl, Nat.le_of_ble_eq_true rfl⟩ rfl (Nat.le_of_ble_eq_true rfl) ⟨Nat.le_of_ble_eq_true rfl, Nat.le_of_ble_eq_true rfl⟩ (fun r2 w2 hf => ?_)
      obtain ⟨hz, hf⟩ := ite_n hf
      exact V_cretX X hE dX8_run_40 hz ⟨Nat.le_of_ble_eq_true rfl, Nat.le_of_ble_eq_true rfl⟩ hf
abbrev rmX8_needRun : Room := { frames := 8, cells := 1, slots := 6, locals := 400 }
set_option maxRecDepth 20000 in
theorem m_X8_needRun {G : GG}  {w : WS} {q : (Nat × Int × WS)}  (hf : f_X8_needRun  w = some q) : MXV G yX8_needRun cX8_needRun 1 none rmX8_needRun [gr G 0] w q := by
  refine MXV_of (by decide +kernel) (Nat.le_of_ble_eq_true rfl) (fun E X hE => ?_)
  have X : CX G E cX8_needRun RX8 none rmX8_needRun 1 := X
  unfold f_X8_needRun at hf
  refine V_gload_n X.1 dX8_needRun_0 rfl rfl ?_
  refine V_getr X.1 ob_0 rfl rfl hin_X8 10 (Nat.le_of_ble_eq_true rfl) tw_411 rfl dX8_needRun_1 ?_
  refine V_getiN X.1 ob_76 rfl rfl hin_X7 10 (Nat.le_of_ble_eq_true rfl) nw_27 rfl dX8_needRun_4 ?_
  refine V_if_ne X.1 (tgt := 21) dX8_needRun_7 (by decide) hf (fun hf => ?_) (fun hf => ?_)
  · exact V_throwW X hE 2 rfl (by decide) (by decide +kernel) tw_587 tw_100 (List.mem_of_getElem? (i := 27) rfl) at_97 dX8_needRun_10 dX8_needRun_13 dX8_needRun_14 dX8_needRun_17 dX8_needRun_20 ⟨Nat.le_of_ble_eq_true rfl, Nat.le_of_ble_eq_true rfl, Nat.le_of_ble_eq_true rfl, Nat.le_of_ble_eq_true rfl⟩ ⟨Nat.le_of_ble_eq_true rfl, Nat.le_of_ble_eq_true rfl⟩ hf
  · exact V_vretX X hE dX8_needRun_21 ⟨Nat.le_of_ble_eq_true rfl, Nat.le_of_ble_eq_true rfl⟩ hf
abbrev rmX8_error : Room := { frames := 9, cells := 2, slots := 12, locals := 420 }
set_option maxRecDepth 20000 in
theorem m_X8_error {G : GG}  {w : WS} {q : (Nat × Int × WS)}  (hf : f_X8_error  w = some q) : MXI G yX8_error cX8_error 1 (some .int) rmX8_error [gr G 0] w q := by
  refine MXI_of (by decide +kernel) (Nat.le_of_ble_eq_true rfl) (fun E X hE => ?_)
  have X : CX G E cX8_error RX8 (some .int) rmX8_error 1 := X
  unfold f_X8_error at hf
  refine V_gload_n X.1 dX8_error_0 rfl rfl ?_
  refine V_xVV X hE hf [] _ 0 (fun _ h => m_X8_needRun h) ob_0 rfl tw_1156 tw_86 tw_1153 tw_1155 tw_34 dX8_error_1 ⟨by decide +kernel, by decide +kernel, by decide +kernel⟩ ⟨Nat.le_of_ble_eq_true rfl, Nat.le_of_ble_eq_true rfl⟩ rfl (Nat.le_of_ble_eq_true rfl) ⟨Nat.le_of_ble_eq_true rfl, Nat.le_of_ble_eq_true rfl⟩ ⟨Nat.le_of_ble_eq_true rfl, Nat.le_of_ble_eq_true rfl⟩ (fun r1 w1 hf => ?_)
  refine V_gload_n X.1 dX8_error_4 rfl rfl ?_
  refine V_getr X.1 ob_0 rfl rfl hin_X8 10 (Nat.le_of_ble_eq_true rfl) tw_411 rfl dX8_error_5 ?_
  refine V_getiN X.1 ob_76 rfl rfl hin_X7 11 (Nat.le_of_ble_eq_true rfl) nw_28 rfl dX8_error_8 ?_
  refine V_if_ne X.1 (tgt := 24) dX8_error_11 (by decide) hf (fun hf => ?_) (fun hf => ?_)
  · exact V_throwNS X hE tw_711 tw_105 (List.mem_of_getElem? (i := 15) rfl) dX8_error_14 dX8_error_17 dX8_error_18 dX8_error_20 dX8_error_23 ⟨Nat.le_of_ble_eq_true rfl, Nat.le_of_ble_eq_true rfl, Nat.le_of_ble_eq_true rfl, Nat.le_of_ble_eq_true rfl⟩ ⟨Nat.le_of_ble_eq_true rfl, Nat.le_of_ble_eq_true rfl⟩ hf
  · refine V_gload_n X.1 dX8_error_24 rfl rfl ?_
    refine V_getr X.1 ob_0 rfl rfl hin_X8 10 (Nat.le_of_ble_eq_true rfl) tw_411 rfl dX8_error_25 ?_
    refine V_getiN X.1 ob_76 rfl rfl hin_X7 11 (Nat.le_of_ble_eq_true rfl) nw_28 rfl dX8_error_28 ?_
    exact V_iretX X hE dX8_error_31 ⟨Nat.le_of_ble_eq_true rfl, Nat.le_of_ble_eq_true rfl⟩ hf
abbrev rmX8_last : Room := { frames := 9, cells := 1, slots := 6, locals := 420 }
set_option maxRecDepth 20000 in
theorem m_X8_last {G : GG}  {w : WS} {q : (Nat × Int × WS)}  (hf : f_X8_last  w = some q) : MXI G yX8_last cX8_last 1 (some .int) rmX8_last [gr G 0] w q := by
  refine MXI_of (by decide +kernel) (Nat.le_of_ble_eq_true rfl) (fun E X hE => ?_)
  have X : CX G E cX8_last RX8 (some .int) rmX8_last 1 := X
  unfold f_X8_last at hf
  refine V_gload_n X.1 dX8_last_0 rfl rfl ?_
  refine V_xVV X hE hf [] _ 0 (fun _ h => m_X8_needRun h) ob_0 rfl tw_1156 tw_86 tw_1153 tw_1155 tw_34 dX8_last_1 ⟨by decide +kernel, by decide +kernel, by decide +kernel⟩ ⟨Nat.le_of_ble_eq_true rfl, Nat.le_of_ble_eq_true rfl⟩ rfl (Nat.le_of_ble_eq_true rfl) ⟨Nat.le_of_ble_eq_true rfl, Nat.le_of_ble_eq_true rfl⟩ ⟨Nat.le_of_ble_eq_true rfl, Nat.le_of_ble_eq_true rfl⟩ (fun r1 w1 hf => ?_)
  refine V_gload_n X.1 dX8_last_4 rfl rfl ?_
  refine V_getr X.1 ob_0 rfl rfl hin_X8 10 (Nat.le_of_ble_eq_true rfl) tw_411 rfl dX8_last_5 ?_
  refine V_getiN X.1 ob_76 rfl rfl hin_X7 12 (Nat.le_of_ble_eq_true rfl) nw_29 rfl dX8_last_8 ?_
  exact V_iretX X hE dX8_last_11 ⟨Nat.le_of_ble_eq_true rfl, Nat.le_of_ble_eq_true rfl⟩ hf
abbrev rmX8_steps : Room := { frames := 9, cells := 1, slots := 6, locals := 420 }
set_option maxRecDepth 20000 in
theorem m_X8_steps {G : GG}  {w : WS} {q : (Nat × Int × WS)}  (hf : f_X8_steps  w = some q) : MXI G yX8_steps cX8_steps 1 (some .int) rmX8_steps [gr G 0] w q := by
  refine MXI_of (by decide +kernel) (Nat.le_of_ble_eq_true rfl) (fun E X hE => ?_)
  have X : CX G E cX8_steps RX8 (some .int) rmX8_steps 1 := X
  unfold f_X8_steps at hf
  refine V_gload_n X.1 dX8_steps_0 rfl rfl ?_
  refine V_xVV X hE hf [] _ 0 (fun _ h => m_X8_needRun h) ob_0 rfl tw_1156 tw_86 tw_1153 tw_1155 tw_34 dX8_steps_1 ⟨by decide +kernel, by decide +kernel, by decide +kernel⟩ ⟨Nat.le_of_ble_eq_true rfl, Nat.le_of_ble_eq_true rfl⟩ rfl (Nat.le_of_ble_eq_true rfl) ⟨Nat.le_of_ble_eq_true rfl, Nat.le_of_ble_eq_true rfl⟩ ⟨Nat.le_of_ble_eq_true rfl, Nat.le_of_ble_eq_true rfl⟩ (fun r1 w1 hf => ?_)
  refine V_gload_n X.1 dX8_steps_4 rfl rfl ?_
  refine V_getr X.1 ob_0 rfl rfl hin_X8 10 (Nat.le_of_ble_eq_true rfl) tw_411 rfl dX8_steps_5 ?_
  refine V_getiN X.1 ob_76 rfl rfl hin_X7 13 (Nat.le_of_ble_eq_true rfl) nw_30 rfl dX8_steps_8 ?_
  exact V_iretX X hE dX8_steps_11 ⟨Nat.le_of_ble_eq_true rfl, Nat.le_of_ble_eq_true rfl⟩ hf
abbrev rmX8_done : Room := { frames := 9, cells := 2, slots := 12, locals := 421 }
set_option maxRecDepth 20000 in
theorem m_X8_done {G : GG} {a1 : Int} {w : WS} {q : (Nat × Int × WS)}  (hf : f_X8_done a1 w = some q) : MXI G yX8_done cX8_done 2 (some .int) rmX8_done [gr G 0, vi a1] w q := by
  refine MXI_of (by decide +kernel) (Nat.le_of_ble_eq_true rfl) (fun E X hE => ?_)
  have X : CX G E cX8_done RX8 (some .int) rmX8_done 2 := X
  unfold f_X8_done at hf
  refine V_gload_n X.1 dX8_done_0 rfl rfl ?_
  refine V_xVV X hE hf [] _ 0 (fun _ h => m_X8_needRun h) ob_0 rfl tw_1156 tw_86 tw_1153 tw_1155 tw_34 dX8_done_1 ⟨by decide +kernel, by decide +kernel, by decide +kernel⟩ ⟨Nat.le_of_ble_eq_true rfl, Nat.le_of_ble_eq_true rfl⟩ rfl (Nat.le_of_ble_eq_true rfl) ⟨Nat.le_of_ble_eq_true rfl, Nat.le_of_ble_eq_true rfl⟩ ⟨Nat.le_of_ble_eq_true rfl, Nat.le_of_ble_eq_true rfl⟩ (fun r1 w1 hf => ?_)
  refine V_gload_n X.1 dX8_done_4 rfl rfl ?_
  refine V_iload_n X.1 dX8_done_5 rfl rfl ?_
  refine V_xVV X hE hf [vi a1] _ 1 (fun _ h => m_X8_needStatement h) ob_0 rfl tw_929 tw_86 tw_926 tw_928 tw_6 dX8_done_6 ⟨by decide +kernel, by decide +kernel, by decide +kernel⟩ ⟨Nat.le_of_ble_eq_true rfl, Nat.le_of_ble_eq_true rfl⟩ rfl (Nat.le_of_ble_eq_true rfl) ⟨Nat.le_of_ble_eq_true rfl, Nat.le_of_ble_eq_true rfl⟩ ⟨Nat.le_of_ble_eq_true rfl, Nat.le_of_ble_eq_true rfl⟩ (fun r2 w2 hf => ?_)
  refine V_gload_n X.1 dX8_done_9 rfl rfl ?_
  refine V_getr X.1 ob_0 rfl rfl hin_X8 10 (Nat.le_of_ble_eq_true rfl) tw_411 rfl dX8_done_10 ?_
  refine V_getrN X.1 ob_76 rfl rfl hin_X7 7 (Nat.le_of_ble_eq_true rfl) nw_25 rfl dX8_done_13 ?_
  refine V_iload_n X.1 dX8_done_16 rfl rfl ?_
  refine V_cVI X.1 hf [vi a1] _ 1 (fun _ h => m_X1_get is_79 h) ob_79 rfl tw_500 tw_89 tw_1180 tw_498 tw_499 dX8_done_17 ⟨by decide +kernel, by decide +kernel, by decide +kernel⟩ ⟨rfl, rfl⟩ ⟨Nat.le_of_ble_eq_true rfl, Nat.le_of_ble_eq_true rfl⟩ rfl (Nat.le_of_ble_eq_true rfl) ⟨Nat.le_of_ble_eq_true rfl, Nat.le_of_ble_eq_true rfl⟩ (fun r3 w3 hf => ?_)
  exact V_iretX X hE dX8_done_20 ⟨Nat.le_of_ble_eq_true rfl, Nat.le_of_ble_eq_true rfl⟩ hf
abbrev rmX8_failed : Room := { frames := 9, cells := 2, slots := 12, locals := 421 }
set_option maxRecDepth 20000 in
theorem m_X8_failed {G : GG} {a1 : Int} {w : WS} {q : (Nat × Int × WS)}  (hf : f_X8_failed a1 w = some q) : MXI G yX8_failed cX8_failed 2 (some .int) rmX8_failed [gr G 0, vi a1] w q := by
  refine MXI_of (by decide +kernel) (Nat.le_of_ble_eq_true rfl) (fun E X hE => ?_)
  have X : CX G E cX8_failed RX8 (some .int) rmX8_failed 2 := X
  unfold f_X8_failed at hf
  refine V_gload_n X.1 dX8_failed_0 rfl rfl ?_
  refine V_xVV X hE hf [] _ 0 (fun _ h => m_X8_needRun h) ob_0 rfl tw_1156 tw_86 tw_1153 tw_1155 tw_34 dX8_failed_1 ⟨by decide +kernel, by decide +kernel, by decide +kernel⟩ ⟨Nat.le_of_ble_eq_true rfl, Nat.le_of_ble_eq_true rfl⟩ rfl (Nat.le_of_ble_eq_true rfl) ⟨Nat.le_of_ble_eq_true rfl, Nat.le_of_ble_eq_true rfl⟩ ⟨Nat.le_of_ble_eq_true rfl, Nat.le_of_ble_eq_true rfl⟩ (fun r1 w1 hf => ?_)
  refine V_gload_n X.1 dX8_failed_4 rfl rfl ?_
  refine V_iload_n X.1 dX8_failed_5 rfl rfl ?_
  refine V_xVV X hE hf [vi a1] _ 1 (fun _ h => m_X8_needStatement h) ob_0 rfl tw_929 tw_86 tw_926 tw_928 tw_6 dX8_failed_6 ⟨by decide +kernel, by decide +kernel, by decide +kernel⟩ ⟨Nat.le_of_ble_eq_true rfl, Nat.le_of_ble_eq_true rfl⟩ rfl (Nat.le_of_ble_eq_true rfl) ⟨Nat.le_of_ble_eq_true rfl, Nat.le_of_ble_eq_true rfl⟩ ⟨Nat.le_of_ble_eq_true rfl, Nat.le_of_ble_eq_true rfl⟩ (fun r2 w2 hf => ?_)
  refine V_gload_n X.1 dX8_failed_9 rfl rfl ?_
  refine V_getr X.1 ob_0 rfl rfl hin_X8 10 (Nat.le_of_ble_eq_true rfl) tw_411 rfl dX8_failed_10 ?_
  refine V_getrN X.1 ob_76 rfl rfl hin_X7 8 (Nat.le_of_ble_eq_true rfl) nw_26 rfl dX8_failed_13 ?_
  refine V_iload_n X.1 dX8_failed_16 rfl rfl ?_
  refine V_cVI X.1 hf [vi a1] _ 1 (fun _ h => m_X1_get is_81 h) ob_81 rfl tw_500 tw_89 tw_1180 tw_498 tw_499 dX8_failed_17 ⟨by decide +kernel, by decide +kernel, by decide +kernel⟩ ⟨rfl, rfl⟩ ⟨Nat.le_of_ble_eq_true rfl, Nat.le_of_ble_eq_true rfl⟩ rfl (Nat.le_of_ble_eq_true rfl) ⟨Nat.le_of_ble_eq_true rfl, Nat.le_of_ble_eq_true rfl⟩ (fun r3 w3 hf => ?_)
  exact V_iretX X hE dX8_failed_20 ⟨Nat.le_of_ble_eq_true rfl, Nat.le_of_ble_eq_true rfl⟩ hf
abbrev rmX8_depth : Room := { frames := 9, cells := 1, slots := 6, locals := 420 }
set_option maxRecDepth 20000 in
theorem m_X8_depth {G : GG}  {w : WS} {q : (Nat × Int × WS)}  (hf : f_X8_depth  w = some q) : MXI G yX8_depth cX8_depth 1 (some .int) rmX8_depth [gr G 0] w q := by
  refine MXI_of (by decide +kernel) (Nat.le_of_ble_eq_true rfl) (fun E X hE => ?_)
  have X : CX G E cX8_depth RX8 (some .int) rmX8_depth 1 := X
  unfold f_X8_depth at hf
  refine V_gload_n X.1 dX8_depth_0 rfl rfl ?_
  refine V_xVV X hE hf [] _ 0 (fun _ h => m_X8_needRun h) ob_0 rfl tw_1156 tw_86 tw_1153 tw_1155 tw_34 dX8_depth_1 ⟨by decide +kernel, by decide +kernel, by decide +kernel⟩ ⟨Nat.le_of_ble_eq_true rfl, Nat.le_of_ble_eq_true rfl⟩ rfl (Nat.le_of_ble_eq_true rfl) ⟨Nat.le_of_ble_eq_true rfl, Nat.le_of_ble_eq_true rfl⟩ ⟨Nat.le_of_ble_eq_true rfl, Nat.le_of_ble_eq_true rfl⟩ (fun r1 w1 hf => ?_)
  refine V_gload_n X.1 dX8_depth_4 rfl rfl ?_
  refine V_getr X.1 ob_0 rfl rfl hin_X8 10 (Nat.le_of_ble_eq_true rfl) tw_411 rfl dX8_depth_5 ?_
  refine V_getiN X.1 ob_76 rfl rfl hin_X7 14 (Nat.le_of_ble_eq_true rfl) nw_31 rfl dX8_depth_8 ?_
  exact V_iretX X hE dX8_depth_11 ⟨Nat.le_of_ble_eq_true rfl, Nat.le_of_ble_eq_true rfl⟩ hf
abbrev rmX8_match : Room := { frames := 9, cells := 2, slots := 12, locals := 421 }
set_option maxRecDepth 20000 in
theorem v_X8_match_83 {G : GG} {E : EE} (X : CX G E cX8_match RX8 (some .boolean) rmX8_match 3) {q : (Nat × Int × WS)} (hE : EndX G E (QXI G q) q rmX8_match.cells rmX8_match.slots)   {s0 : Int} {w : WS} (hf : f_X8_match_83   s0 w = some q) : VV G E 1 6 83 [(0, gr G 0)] [vi s0, gr G 0] w := by
  unfold f_X8_match_83 at hf
  obtain ⟨hz, hf⟩ := ite_n hf
  refine V_putz X.1 ob_0 rfl rfl hin_X8 14 (Nat.le_of_ble_eq_true rfl) tw_415 tyX8 tyX8_ok nmX8 rfl (by decide +kernel) hz rfl dX8_match_83 ?_
  refine V_gload_n X.1 dX8_match_86 rfl rfl ?_
  refine V_gload_n X.1 dX8_match_87 rfl rfl ?_
  refine V_getr X.1 ob_0 rfl rfl hin_X8 7 (Nat.le_of_ble_eq_true rfl) tw_408 rfl dX8_match_88 ?_
  refine V_getiN X.1 ob_39 rfl rfl hin_X2 12 (Nat.le_of_ble_eq_true rfl) nw_9 rfl dX8_match_91 ?_
  refine V_puti X.1 ob_0 rfl rfl hin_X8 17 (Nat.le_of_ble_eq_true rfl) tw_418 tyX8 tyX8_ok nmX8 rfl (by decide +kernel) rfl dX8_match_94 ?_
  refine V_gload_n X.1 dX8_match_97 rfl rfl ?_
  refine V_gload_n X.1 dX8_match_98 rfl rfl ?_
  refine V_getr X.1 ob_0 rfl rfl hin_X8 7 (Nat.le_of_ble_eq_true rfl) tw_408 rfl dX8_match_99 ?_
  refine V_getiN X.1 ob_39 rfl rfl hin_X2 11 (Nat.le_of_ble_eq_true rfl) nw_8 rfl dX8_match_102 ?_
  refine V_puti X.1 ob_0 rfl rfl hin_X8 15 (Nat.le_of_ble_eq_true rfl) tw_416 tyX8 tyX8_ok nmX8 rfl (by decide +kernel) rfl dX8_match_105 ?_
  refine V_gload_n X.1 dX8_match_108 rfl rfl ?_
  refine V_gload_n X.1 dX8_match_109 rfl rfl ?_
  refine V_getr X.1 ob_0 rfl rfl hin_X8 7 (Nat.le_of_ble_eq_true rfl) tw_408 rfl dX8_match_110 ?_
  refine V_getiN X.1 ob_39 rfl rfl hin_X2 14 (Nat.le_of_ble_eq_true rfl) nw_10 rfl dX8_match_113 ?_
  refine V_puti X.1 ob_0 rfl rfl hin_X8 16 (Nat.le_of_ble_eq_true rfl) tw_417 tyX8 tyX8_ok nmX8 rfl (by decide +kernel) rfl dX8_match_116 ?_
  refine V_gload_n X.1 dX8_match_119 rfl rfl ?_
  refine V_gload_n X.1 dX8_match_120 rfl rfl ?_
  refine V_getr X.1 ob_0 rfl rfl hin_X8 0 (Nat.le_of_ble_eq_true rfl) tw_401 rfl dX8_match_121 ?_
  refine V_iconst X.1 dX8_match_124 ?_
  refine V_cVI X.1 hf [vi 0] _ 1 (fun _ h => m_X6_length is_1 h) ob_1 rfl tw_466 tw_87 tw_463 tw_464 tw_465 dX8_match_125 ⟨by decide +kernel, by decide +kernel, by decide +kernel⟩ ⟨rfl, rfl⟩ ⟨Nat.le_of_ble_eq_true rfl, Nat.le_of_ble_eq_true rfl⟩ rfl (Nat.le_of_ble_eq_true rfl) ⟨Nat.le_of_ble_eq_true rfl, Nat.le_of_ble_eq_true rfl⟩ (fun r6 w6 hf => ?_)
  refine V_puti X.1 ob_0 rfl rfl hin_X8 18 (Nat.le_of_ble_eq_true rfl) tw_419 tyX8 tyX8_ok nmX8 rfl (by decide +kernel) rfl dX8_match_128 ?_
  refine V_gload_n X.1 dX8_match_131 rfl rfl ?_
  refine V_geti X.1 ob_0 rfl rfl hin_X8 14 (Nat.le_of_ble_eq_true rfl) tw_415 rfl dX8_match_132 ?_
  refine V_if_eq X.1 (tgt := 145) dX8_match_135 (by decide) hf (fun hf => ?_) (fun hf => ?_)
  · refine V_gload_n X.1 dX8_match_145 rfl rfl ?_
    refine V_geti X.1 ob_0 rfl rfl hin_X8 14 (Nat.le_of_ble_eq_true rfl) tw_415 rfl dX8_match_146 ?_
    obtain ⟨hz, hf⟩ := ite_n hf
    exact V_zretX X hE dX8_match_149 hz ⟨Nat.le_of_ble_eq_true rfl, Nat.le_of_ble_eq_true rfl⟩ hf
  · refine V_gload_n X.1 dX8_match_138 rfl rfl ?_
    refine V_getr X.1 ob_0 rfl rfl hin_X8 7 (Nat.le_of_ble_eq_true rfl) tw_408 rfl dX8_match_139 ?_
    refine V_cVV X.1 hf [] _ 0 (fun _ h => m_X2_assignTaken h) ob_39 rfl tw_1113 tw_90 tw_1226 tw_1111 tw_1112 dX8_match_142 ⟨by decide +kernel, by decide +kernel, by decide +kernel⟩ ⟨rfl, rfl⟩ ⟨Nat.le_of_ble_eq_true rfl, Nat.le_of_ble_eq_true rfl⟩ rfl (Nat.le_of_ble_eq_true rfl) ⟨Nat.le_of_ble_eq_true rfl, Nat.le_of_ble_eq_true rfl⟩ (fun r7 w7 hf => ?_)
    refine V_gload_n X.1 dX8_match_145 rfl rfl ?_
    refine V_geti X.1 ob_0 rfl rfl hin_X8 14 (Nat.le_of_ble_eq_true rfl) tw_415 rfl dX8_match_146 ?_
    obtain ⟨hz, hf⟩ := ite_n hf
    exact V_zretX X hE dX8_match_149 hz ⟨Nat.le_of_ble_eq_true rfl, Nat.le_of_ble_eq_true rfl⟩ hf
set_option maxRecDepth 20000 in
theorem m_X8_match {G : GG} {a1 : Int} {w : WS} {q : (Nat × Int × WS)}  (hf : f_X8_match a1 w = some q) : MXI G yX8_match cX8_match 3 (some .boolean) rmX8_match [gr G 0, vi a1] w q := by
  refine MXI_of (by decide +kernel) (Nat.le_of_ble_eq_true rfl) (fun E X hE => ?_)
  have X : CX G E cX8_match RX8 (some .boolean) rmX8_match 3 := X
  unfold f_X8_match at hf
  refine V_gload_n X.1 dX8_match_0 rfl rfl ?_
  refine V_iload_n X.1 dX8_match_1 rfl rfl ?_
  refine V_xVV X hE hf [vi a1] _ 1 (fun _ h => m_X8_needPattern h) ob_0 rfl tw_894 tw_86 tw_891 tw_893 tw_5 dX8_match_2 ⟨by decide +kernel, by decide +kernel, by decide +kernel⟩ ⟨Nat.le_of_ble_eq_true rfl, Nat.le_of_ble_eq_true rfl⟩ rfl (Nat.le_of_ble_eq_true rfl) ⟨Nat.le_of_ble_eq_true rfl, Nat.le_of_ble_eq_true rfl⟩ ⟨Nat.le_of_ble_eq_true rfl, Nat.le_of_ble_eq_true rfl⟩ (fun r1 w1 hf => ?_)
  refine V_gload_n X.1 dX8_match_5 rfl rfl ?_
  refine V_getr X.1 ob_0 rfl rfl hin_X8 4 (Nat.le_of_ble_eq_true rfl) tw_405 rfl dX8_match_6 ?_
  refine V_gload_n X.1 dX8_match_9 rfl rfl ?_
  refine V_getr X.1 ob_0 rfl rfl hin_X8 3 (Nat.le_of_ble_eq_true rfl) tw_404 rfl dX8_match_10 ?_
  refine V_cVV X.1 hf [gr G 7] _ 1 (fun _ h => m_X6_copyAll is_10 is_7 h) ob_10 rfl tw_1219 tw_87 tw_1216 tw_1217 tw_1218 dX8_match_13 ⟨by decide +kernel, by decide +kernel, by decide +kernel⟩ ⟨rfl, rfl⟩ ⟨Nat.le_of_ble_eq_true rfl, Nat.le_of_ble_eq_true rfl⟩ rfl (Nat.le_of_ble_eq_true rfl) ⟨Nat.le_of_ble_eq_true rfl, Nat.le_of_ble_eq_true rfl⟩ (fun r2 w2 hf => ?_)
  refine V_gload_n X.1 dX8_match_16 rfl rfl ?_
  refine V_getr X.1 ob_0 rfl rfl hin_X8 7 (Nat.le_of_ble_eq_true rfl) tw_408 rfl dX8_match_17 ?_
  refine V_gload_n X.1 dX8_match_20 rfl rfl ?_
  refine V_getr X.1 ob_0 rfl rfl hin_X8 0 (Nat.le_of_ble_eq_true rfl) tw_401 rfl dX8_match_21 ?_
  refine V_iconst X.1 dX8_match_24 ?_
  refine V_iload_n X.1 dX8_match_25 rfl rfl ?_
  refine V_gload_n X.1 dX8_match_26 rfl rfl ?_
  refine V_geti X.1 ob_0 rfl rfl hin_X8 12 (Nat.le_of_ble_eq_true rfl) tw_413 rfl dX8_match_27 ?_
  refine V_cVV X.1 hf [gr G 1, vi 0, vi a1, vi (w2 0 12)] _ 4 (fun _ h => m_X2_prepare is_1 h) ob_39 rfl tw_1023 tw_90 tw_1221 tw_1021 tw_1022 dX8_match_30 ⟨by decide +kernel, by decide +kernel, by decide +kernel⟩ ⟨rfl, rfl⟩ ⟨Nat.le_of_ble_eq_true rfl, Nat.le_of_ble_eq_true rfl⟩ rfl (Nat.le_of_ble_eq_true rfl) ⟨Nat.le_of_ble_eq_true rfl, Nat.le_of_ble_eq_true rfl⟩ (fun r3 w3 hf => ?_)
  refine V_gload_n X.1 dX8_match_33 rfl rfl ?_
  refine V_getr X.1 ob_0 rfl rfl hin_X8 7 (Nat.le_of_ble_eq_true rfl) tw_408 rfl dX8_match_34 ?_
  refine V_cVI X.1 hf [] _ 0 (fun _ h => m_X2_seek h) ob_39 rfl tw_1029 tw_90 tw_1222 tw_1027 tw_1028 dX8_match_37 ⟨by decide +kernel, by decide +kernel, by decide +kernel⟩ ⟨rfl, rfl⟩ ⟨Nat.le_of_ble_eq_true rfl, Nat.le_of_ble_eq_true rfl⟩ rfl (Nat.le_of_ble_eq_true rfl) ⟨Nat.le_of_ble_eq_true rfl, Nat.le_of_ble_eq_true rfl⟩ (fun r4 w4 hf => ?_)
  refine V_istore_n X.1 dX8_match_40 rfl (by decide) ?_
  refine V_iload_n X.1 dX8_match_41 rfl rfl ?_
  refine V_iconst X.1 dX8_match_42 ?_
  refine V_icmp_ne X.1 (tgt := 67) dX8_match_43 (by decide) hf (fun hf => ?_) (fun hf => ?_)
  · refine V_gload_n X.1 dX8_match_46 rfl rfl ?_
    refine V_getr X.1 ob_0 rfl rfl hin_X8 3 (Nat.le_of_ble_eq_true rfl) tw_404 rfl dX8_match_47 ?_
    refine V_gload_n X.1 dX8_match_50 rfl rfl ?_
    refine V_getr X.1 ob_0 rfl rfl hin_X8 4 (Nat.le_of_ble_eq_true rfl) tw_405 rfl dX8_match_51 ?_
    refine V_cVV X.1 hf [gr G 10] _ 1 (fun _ h => m_X6_copyAll is_7 is_10 h) ob_7 rfl tw_1219 tw_87 tw_1216 tw_1217 tw_1218 dX8_match_54 ⟨by decide +kernel, by decide +kernel, by decide +kernel⟩ ⟨rfl, rfl⟩ ⟨Nat.le_of_ble_eq_true rfl, Nat.le_of_ble_eq_true rfl⟩ rfl (Nat.le_of_ble_eq_true rfl) ⟨Nat.le_of_ble_eq_true rfl, Nat.le_of_ble_eq_true rfl⟩ (fun r5 w5 hf => ?_)
    exact V_throwS X hE 6 rfl (by decide) (by decide +kernel) tw_1223 tw_111 (List.mem_of_getElem? (i := 16) rfl) at_256 dX8_match_57 dX8_match_60 dX8_match_61 dX8_match_63 dX8_match_66 ⟨Nat.le_of_ble_eq_true rfl, Nat.le_of_ble_eq_true rfl, Nat.le_of_ble_eq_true rfl, Nat.le_of_ble_eq_true rfl⟩ ⟨Nat.le_of_ble_eq_true rfl, Nat.le_of_ble_eq_true rfl⟩ hf
  · refine V_gload_n X.1 dX8_match_67 rfl rfl ?_
    refine V_iconst X.1 dX8_match_68 ?_
    refine V_putz X.1 ob_0 rfl rfl hin_X8 13 (Nat.le_of_ble_eq_true rfl) tw_414 tyX8 tyX8_ok nmX8 rfl (by decide +kernel) (Or.inr rfl) rfl dX8_match_69 ?_
    refine V_gload_n X.1 dX8_match_72 rfl rfl ?_
    refine V_iload_n X.1 dX8_match_73 rfl rfl ?_
    refine V_iconst X.1 dX8_match_74 ?_
    refine V_icmp_ne X.1 (tgt := 82) dX8_match_75 (by decide) hf (fun hf => ?_) (fun hf => ?_)
    · refine V_iconst X.1 dX8_match_78 ?_
      refine V_goto X.1 (tgt := 83) dX8_match_79 (by decide) ?_
      exact V_widen 1 6 ⟨Nat.le_of_ble_eq_true rfl, Nat.le_of_ble_eq_true rfl⟩ (by exact V_cut [0] rfl (v_X8_match_83 X hE hf))
    · refine V_iconst X.1 dX8_match_82 ?_
      exact V_widen 1 6 ⟨Nat.le_of_ble_eq_true rfl, Nat.le_of_ble_eq_true rfl⟩ (by exact V_cut [0] rfl (v_X8_match_83 X hE hf))
abbrev rmX8_needMatch : Room := { frames := 8, cells := 1, slots := 6, locals := 400 }
set_option maxRecDepth 20000 in
theorem m_X8_needMatch {G : GG}  {w : WS} {q : (Nat × Int × WS)}  (hf : f_X8_needMatch  w = some q) : MXV G yX8_needMatch cX8_needMatch 1 none rmX8_needMatch [gr G 0] w q := by
  refine MXV_of (by decide +kernel) (Nat.le_of_ble_eq_true rfl) (fun E X hE => ?_)
  have X : CX G E cX8_needMatch RX8 none rmX8_needMatch 1 := X
  unfold f_X8_needMatch at hf
  refine V_gload_n X.1 dX8_needMatch_0 rfl rfl ?_
  refine V_geti X.1 ob_0 rfl rfl hin_X8 13 (Nat.le_of_ble_eq_true rfl) tw_414 rfl dX8_needMatch_1 ?_
  refine V_if_ne X.1 (tgt := 18) dX8_needMatch_4 (by decide) hf (fun hf => ?_) (fun hf => ?_)
  · exact V_throwW X hE 2 rfl (by decide) (by decide +kernel) tw_587 tw_100 (List.mem_of_getElem? (i := 28) rfl) at_97 dX8_needMatch_7 dX8_needMatch_10 dX8_needMatch_11 dX8_needMatch_14 dX8_needMatch_17 ⟨Nat.le_of_ble_eq_true rfl, Nat.le_of_ble_eq_true rfl, Nat.le_of_ble_eq_true rfl, Nat.le_of_ble_eq_true rfl⟩ ⟨Nat.le_of_ble_eq_true rfl, Nat.le_of_ble_eq_true rfl⟩ hf
  · exact V_vretX X hE dX8_needMatch_18 ⟨Nat.le_of_ble_eq_true rfl, Nat.le_of_ble_eq_true rfl⟩ hf
abbrev rmX8_needMatched : Room := { frames := 8, cells := 1, slots := 6, locals := 400 }
set_option maxRecDepth 20000 in
theorem m_X8_needMatched {G : GG}  {w : WS} {q : (Nat × Int × WS)}  (hf : f_X8_needMatched  w = some q) : MXV G yX8_needMatched cX8_needMatched 1 none rmX8_needMatched [gr G 0] w q := by
  refine MXV_of (by decide +kernel) (Nat.le_of_ble_eq_true rfl) (fun E X hE => ?_)
  have X : CX G E cX8_needMatched RX8 none rmX8_needMatched 1 := X
  unfold f_X8_needMatched at hf
  refine V_gload_n X.1 dX8_needMatched_0 rfl rfl ?_
  refine V_geti X.1 ob_0 rfl rfl hin_X8 14 (Nat.le_of_ble_eq_true rfl) tw_415 rfl dX8_needMatched_1 ?_
  refine V_if_ne X.1 (tgt := 18) dX8_needMatched_4 (by decide) hf (fun hf => ?_) (fun hf => ?_)
  · exact V_throwNW X hE tw_711 tw_105 (List.mem_of_getElem? (i := 29) rfl) dX8_needMatched_7 dX8_needMatched_10 dX8_needMatched_11 dX8_needMatched_14 dX8_needMatched_17 ⟨Nat.le_of_ble_eq_true rfl, Nat.le_of_ble_eq_true rfl, Nat.le_of_ble_eq_true rfl, Nat.le_of_ble_eq_true rfl⟩ ⟨Nat.le_of_ble_eq_true rfl, Nat.le_of_ble_eq_true rfl⟩ hf
  · exact V_vretX X hE dX8_needMatched_18 ⟨Nat.le_of_ble_eq_true rfl, Nat.le_of_ble_eq_true rfl⟩ hf
abbrev rmX8_from : Room := { frames := 9, cells := 2, slots := 12, locals := 420 }
set_option maxRecDepth 20000 in
theorem m_X8_from {G : GG}  {w : WS} {q : (Nat × Int × WS)}  (hf : f_X8_from  w = some q) : MXI G yX8_from cX8_from 1 (some .int) rmX8_from [gr G 0] w q := by
  refine MXI_of (by decide +kernel) (Nat.le_of_ble_eq_true rfl) (fun E X hE => ?_)
  have X : CX G E cX8_from RX8 (some .int) rmX8_from 1 := X
  unfold f_X8_from at hf
  refine V_gload_n X.1 dX8_from_0 rfl rfl ?_
  refine V_xVV X hE hf [] _ 0 (fun _ h => m_X8_needMatch h) ob_0 rfl tw_1237 tw_86 tw_1234 tw_1236 tw_35 dX8_from_1 ⟨by decide +kernel, by decide +kernel, by decide +kernel⟩ ⟨Nat.le_of_ble_eq_true rfl, Nat.le_of_ble_eq_true rfl⟩ rfl (Nat.le_of_ble_eq_true rfl) ⟨Nat.le_of_ble_eq_true rfl, Nat.le_of_ble_eq_true rfl⟩ ⟨Nat.le_of_ble_eq_true rfl, Nat.le_of_ble_eq_true rfl⟩ (fun r1 w1 hf => ?_)
  refine V_gload_n X.1 dX8_from_4 rfl rfl ?_
  refine V_xVV X hE hf [] _ 0 (fun _ h => m_X8_needMatched h) ob_0 rfl tw_1242 tw_86 tw_1239 tw_1241 tw_36 dX8_from_5 ⟨by decide +kernel, by decide +kernel, by decide +kernel⟩ ⟨Nat.le_of_ble_eq_true rfl, Nat.le_of_ble_eq_true rfl⟩ rfl (Nat.le_of_ble_eq_true rfl) ⟨Nat.le_of_ble_eq_true rfl, Nat.le_of_ble_eq_true rfl⟩ ⟨Nat.le_of_ble_eq_true rfl, Nat.le_of_ble_eq_true rfl⟩ (fun r2 w2 hf => ?_)
  refine V_gload_n X.1 dX8_from_8 rfl rfl ?_
  refine V_geti X.1 ob_0 rfl rfl hin_X8 15 (Nat.le_of_ble_eq_true rfl) tw_416 rfl dX8_from_9 ?_
  exact V_iretX X hE dX8_from_12 ⟨Nat.le_of_ble_eq_true rfl, Nat.le_of_ble_eq_true rfl⟩ hf
abbrev rmX8_to : Room := { frames := 9, cells := 2, slots := 12, locals := 420 }
set_option maxRecDepth 20000 in
theorem m_X8_to {G : GG}  {w : WS} {q : (Nat × Int × WS)}  (hf : f_X8_to  w = some q) : MXI G yX8_to cX8_to 1 (some .int) rmX8_to [gr G 0] w q := by
  refine MXI_of (by decide +kernel) (Nat.le_of_ble_eq_true rfl) (fun E X hE => ?_)
  have X : CX G E cX8_to RX8 (some .int) rmX8_to 1 := X
  unfold f_X8_to at hf
  refine V_gload_n X.1 dX8_to_0 rfl rfl ?_
  refine V_xVV X hE hf [] _ 0 (fun _ h => m_X8_needMatch h) ob_0 rfl tw_1237 tw_86 tw_1234 tw_1236 tw_35 dX8_to_1 ⟨by decide +kernel, by decide +kernel, by decide +kernel⟩ ⟨Nat.le_of_ble_eq_true rfl, Nat.le_of_ble_eq_true rfl⟩ rfl (Nat.le_of_ble_eq_true rfl) ⟨Nat.le_of_ble_eq_true rfl, Nat.le_of_ble_eq_true rfl⟩ ⟨Nat.le_of_ble_eq_true rfl, Nat.le_of_ble_eq_true rfl⟩ (fun r1 w1 hf => ?_)
  refine V_gload_n X.1 dX8_to_4 rfl rfl ?_
  refine V_xVV X hE hf [] _ 0 (fun _ h => m_X8_needMatched h) ob_0 rfl tw_1242 tw_86 tw_1239 tw_1241 tw_36 dX8_to_5 ⟨by decide +kernel, by decide +kernel, by decide +kernel⟩ ⟨Nat.le_of_ble_eq_true rfl, Nat.le_of_ble_eq_true rfl⟩ rfl (Nat.le_of_ble_eq_true rfl) ⟨Nat.le_of_ble_eq_true rfl, Nat.le_of_ble_eq_true rfl⟩ ⟨Nat.le_of_ble_eq_true rfl, Nat.le_of_ble_eq_true rfl⟩ (fun r2 w2 hf => ?_)
  refine V_gload_n X.1 dX8_to_8 rfl rfl ?_
  refine V_geti X.1 ob_0 rfl rfl hin_X8 16 (Nat.le_of_ble_eq_true rfl) tw_417 rfl dX8_to_9 ?_
  exact V_iretX X hE dX8_to_12 ⟨Nat.le_of_ble_eq_true rfl, Nat.le_of_ble_eq_true rfl⟩ hf
abbrev rmX8_begun : Room := { frames := 9, cells := 1, slots := 6, locals := 420 }
set_option maxRecDepth 20000 in
theorem m_X8_begun {G : GG}  {w : WS} {q : (Nat × Int × WS)}  (hf : f_X8_begun  w = some q) : MXI G yX8_begun cX8_begun 1 (some .int) rmX8_begun [gr G 0] w q := by
  refine MXI_of (by decide +kernel) (Nat.le_of_ble_eq_true rfl) (fun E X hE => ?_)
  have X : CX G E cX8_begun RX8 (some .int) rmX8_begun 1 := X
  unfold f_X8_begun at hf
  refine V_gload_n X.1 dX8_begun_0 rfl rfl ?_
  refine V_xVV X hE hf [] _ 0 (fun _ h => m_X8_needMatch h) ob_0 rfl tw_1237 tw_86 tw_1234 tw_1236 tw_35 dX8_begun_1 ⟨by decide +kernel, by decide +kernel, by decide +kernel⟩ ⟨Nat.le_of_ble_eq_true rfl, Nat.le_of_ble_eq_true rfl⟩ rfl (Nat.le_of_ble_eq_true rfl) ⟨Nat.le_of_ble_eq_true rfl, Nat.le_of_ble_eq_true rfl⟩ ⟨Nat.le_of_ble_eq_true rfl, Nat.le_of_ble_eq_true rfl⟩ (fun r1 w1 hf => ?_)
  refine V_gload_n X.1 dX8_begun_4 rfl rfl ?_
  refine V_geti X.1 ob_0 rfl rfl hin_X8 17 (Nat.le_of_ble_eq_true rfl) tw_418 rfl dX8_begun_5 ?_
  exact V_iretX X hE dX8_begun_8 ⟨Nat.le_of_ble_eq_true rfl, Nat.le_of_ble_eq_true rfl⟩ hf
abbrev rmX8_ways : Room := { frames := 9, cells := 2, slots := 12, locals := 421 }
set_option maxRecDepth 20000 in
theorem m_X8_ways {G : GG} {a1 : Int} {w : WS} {q : (Nat × Int × WS)}  (hf : f_X8_ways a1 w = some q) : MXI G yX8_ways cX8_ways 3 (some .int) rmX8_ways [gr G 0, vi a1] w q := by
  refine MXI_of (by decide +kernel) (Nat.le_of_ble_eq_true rfl) (fun E X hE => ?_)
  have X : CX G E cX8_ways RX8 (some .int) rmX8_ways 3 := X
  unfold f_X8_ways at hf
  refine V_gload_n X.1 dX8_ways_0 rfl rfl ?_
  refine V_iload_n X.1 dX8_ways_1 rfl rfl ?_
  refine V_xVV X hE hf [vi a1] _ 1 (fun _ h => m_X8_needPattern h) ob_0 rfl tw_894 tw_86 tw_891 tw_893 tw_5 dX8_ways_2 ⟨by decide +kernel, by decide +kernel, by decide +kernel⟩ ⟨Nat.le_of_ble_eq_true rfl, Nat.le_of_ble_eq_true rfl⟩ rfl (Nat.le_of_ble_eq_true rfl) ⟨Nat.le_of_ble_eq_true rfl, Nat.le_of_ble_eq_true rfl⟩ ⟨Nat.le_of_ble_eq_true rfl, Nat.le_of_ble_eq_true rfl⟩ (fun r1 w1 hf => ?_)
  refine V_gload_n X.1 dX8_ways_5 rfl rfl ?_
  refine V_iload_n X.1 dX8_ways_6 rfl rfl ?_
  refine V_cVI X.1 hf [vi a1] _ 1 (fun _ h => m_X8_findWays h) ob_0 rfl tw_1268 tw_86 tw_1265 tw_1267 tw_37 dX8_ways_7 ⟨by decide +kernel, by decide +kernel, by decide +kernel⟩ ⟨rfl, rfl⟩ ⟨Nat.le_of_ble_eq_true rfl, Nat.le_of_ble_eq_true rfl⟩ rfl (Nat.le_of_ble_eq_true rfl) ⟨Nat.le_of_ble_eq_true rfl, Nat.le_of_ble_eq_true rfl⟩ (fun r2 w2 hf => ?_)
  refine V_istore_n X.1 dX8_ways_10 rfl (by decide) ?_
  refine V_iload_n X.1 dX8_ways_11 rfl rfl ?_
  refine V_if_ge X.1 (tgt := 36) dX8_ways_12 (by decide) hf (fun hf => ?_) (fun hf => ?_)
  · refine V_gload_n X.1 dX8_ways_15 rfl rfl ?_
    refine V_getr X.1 ob_0 rfl rfl hin_X8 3 (Nat.le_of_ble_eq_true rfl) tw_404 rfl dX8_ways_16 ?_
    refine V_gload_n X.1 dX8_ways_19 rfl rfl ?_
    refine V_getr X.1 ob_0 rfl rfl hin_X8 4 (Nat.le_of_ble_eq_true rfl) tw_405 rfl dX8_ways_20 ?_
    refine V_cVV X.1 hf [gr G 10] _ 1 (fun _ h => m_X6_copyAll is_7 is_10 h) ob_7 rfl tw_1219 tw_87 tw_1216 tw_1217 tw_1218 dX8_ways_23 ⟨by decide +kernel, by decide +kernel, by decide +kernel⟩ ⟨rfl, rfl⟩ ⟨Nat.le_of_ble_eq_true rfl, Nat.le_of_ble_eq_true rfl⟩ rfl (Nat.le_of_ble_eq_true rfl) ⟨Nat.le_of_ble_eq_true rfl, Nat.le_of_ble_eq_true rfl⟩ (fun r3 w3 hf => ?_)
    exact V_throwS X hE 6 rfl (by decide) (by decide +kernel) tw_1223 tw_111 (List.mem_of_getElem? (i := 16) rfl) at_256 dX8_ways_26 dX8_ways_29 dX8_ways_30 dX8_ways_32 dX8_ways_35 ⟨Nat.le_of_ble_eq_true rfl, Nat.le_of_ble_eq_true rfl, Nat.le_of_ble_eq_true rfl, Nat.le_of_ble_eq_true rfl⟩ ⟨Nat.le_of_ble_eq_true rfl, Nat.le_of_ble_eq_true rfl⟩ hf
  · refine V_iload_n X.1 dX8_ways_36 rfl rfl ?_
    exact V_iretX X hE dX8_ways_37 ⟨Nat.le_of_ble_eq_true rfl, Nat.le_of_ble_eq_true rfl⟩ hf
abbrev rmX8_way : Room := { frames := 9, cells := 2, slots := 12, locals := 421 }
set_option maxRecDepth 20000 in
theorem m_X8_way {G : GG} {a1 : Int} {a2 : Int} {w : WS} {q : (Nat × Int × WS)}  (hf : f_X8_way a1 a2 w = some q) : MXI G yX8_way cX8_way 4 (some .int) rmX8_way [gr G 0, vi a1, vi a2] w q := by
  refine MXI_of (by decide +kernel) (Nat.le_of_ble_eq_true rfl) (fun E X hE => ?_)
  have X : CX G E cX8_way RX8 (some .int) rmX8_way 4 := X
  unfold f_X8_way at hf
  refine V_gload_n X.1 dX8_way_0 rfl rfl ?_
  refine V_iload_n X.1 dX8_way_1 rfl rfl ?_
  refine V_xVV X hE hf [vi a1] _ 1 (fun _ h => m_X8_needPattern h) ob_0 rfl tw_894 tw_86 tw_891 tw_893 tw_5 dX8_way_2 ⟨by decide +kernel, by decide +kernel, by decide +kernel⟩ ⟨Nat.le_of_ble_eq_true rfl, Nat.le_of_ble_eq_true rfl⟩ rfl (Nat.le_of_ble_eq_true rfl) ⟨Nat.le_of_ble_eq_true rfl, Nat.le_of_ble_eq_true rfl⟩ ⟨Nat.le_of_ble_eq_true rfl, Nat.le_of_ble_eq_true rfl⟩ (fun r1 w1 hf => ?_)
  refine V_gload_n X.1 dX8_way_5 rfl rfl ?_
  refine V_iload_n X.1 dX8_way_6 rfl rfl ?_
  refine V_cVI X.1 hf [vi a1] _ 1 (fun _ h => m_X8_findWays h) ob_0 rfl tw_1268 tw_86 tw_1265 tw_1267 tw_37 dX8_way_7 ⟨by decide +kernel, by decide +kernel, by decide +kernel⟩ ⟨rfl, rfl⟩ ⟨Nat.le_of_ble_eq_true rfl, Nat.le_of_ble_eq_true rfl⟩ rfl (Nat.le_of_ble_eq_true rfl) ⟨Nat.le_of_ble_eq_true rfl, Nat.le_of_ble_eq_true rfl⟩ (fun r2 w2 hf => ?_)
  refine V_istore_n X.1 dX8_way_10 rfl (by decide) ?_
  refine V_iload_n X.1 dX8_way_11 rfl rfl ?_
  refine V_if_ge X.1 (tgt := 36) dX8_way_12 (by decide) hf (fun hf => ?_) (fun hf => ?_)
  · refine V_gload_n X.1 dX8_way_15 rfl rfl ?_
    refine V_getr X.1 ob_0 rfl rfl hin_X8 3 (Nat.le_of_ble_eq_true rfl) tw_404 rfl dX8_way_16 ?_
    refine V_gload_n X.1 dX8_way_19 rfl rfl ?_
    refine V_getr X.1 ob_0 rfl rfl hin_X8 4 (Nat.le_of_ble_eq_true rfl) tw_405 rfl dX8_way_20 ?_
    refine V_cVV X.1 hf [gr G 10] _ 1 (fun _ h => m_X6_copyAll is_7 is_10 h) ob_7 rfl tw_1219 tw_87 tw_1216 tw_1217 tw_1218 dX8_way_23 ⟨by decide +kernel, by decide +kernel, by decide +kernel⟩ ⟨rfl, rfl⟩ ⟨Nat.le_of_ble_eq_true rfl, Nat.le_of_ble_eq_true rfl⟩ rfl (Nat.le_of_ble_eq_true rfl) ⟨Nat.le_of_ble_eq_true rfl, Nat.le_of_ble_eq_true rfl⟩ (fun r3 w3 hf => ?_)
    exact V_throwS X hE 6 rfl (by decide) (by decide +kernel) tw_1223 tw_111 (List.mem_of_getElem? (i := 16) rfl) at_256 dX8_way_26 dX8_way_29 dX8_way_30 dX8_way_32 dX8_way_35 ⟨Nat.le_of_ble_eq_true rfl, Nat.le_of_ble_eq_true rfl, Nat.le_of_ble_eq_true rfl, Nat.le_of_ble_eq_true rfl⟩ ⟨Nat.le_of_ble_eq_true rfl, Nat.le_of_ble_eq_true rfl⟩ hf
  · refine V_iload_n X.1 dX8_way_36 rfl rfl ?_
    refine V_iload_n X.1 dX8_way_37 rfl rfl ?_
    refine V_cSI X.1 hf [vi a2, vi r2] _ 2 (fun _ h => m_X8_isBelow h) tw_678 tw_86 tw_676 tw_677 dX8_way_38 ⟨by decide +kernel, by decide +kernel, by decide +kernel⟩ ⟨rfl, rfl⟩ ⟨Nat.le_of_ble_eq_true rfl, Nat.le_of_ble_eq_true rfl⟩ rfl (Nat.le_of_ble_eq_true rfl) ⟨Nat.le_of_ble_eq_true rfl, Nat.le_of_ble_eq_true rfl⟩ (fun r4 w4 hf => ?_)
    refine V_if_ne X.1 (tgt := 66) dX8_way_41 (by decide) hf (fun hf => ?_) (fun hf => ?_)
    · refine V_gload_n X.1 dX8_way_44 rfl rfl ?_
      refine V_getr X.1 ob_0 rfl rfl hin_X8 3 (Nat.le_of_ble_eq_true rfl) tw_404 rfl dX8_way_45 ?_
      refine V_gload_n X.1 dX8_way_48 rfl rfl ?_
      refine V_getr X.1 ob_0 rfl rfl hin_X8 4 (Nat.le_of_ble_eq_true rfl) tw_405 rfl dX8_way_49 ?_
      refine V_cVV X.1 hf [gr G 10] _ 1 (fun _ h => m_X6_copyAll is_7 is_10 h) ob_7 rfl tw_1219 tw_87 tw_1216 tw_1217 tw_1218 dX8_way_52 ⟨by decide +kernel, by decide +kernel, by decide +kernel⟩ ⟨rfl, rfl⟩ ⟨Nat.le_of_ble_eq_true rfl, Nat.le_of_ble_eq_true rfl⟩ rfl (Nat.le_of_ble_eq_true rfl) ⟨Nat.le_of_ble_eq_true rfl, Nat.le_of_ble_eq_true rfl⟩ (fun r5 w5 hf => ?_)
      exact V_throwNW X hE tw_711 tw_105 (List.mem_of_getElem? (i := 17) rfl) dX8_way_55 dX8_way_58 dX8_way_59 dX8_way_62 dX8_way_65 ⟨Nat.le_of_ble_eq_true rfl, Nat.le_of_ble_eq_true rfl, Nat.le_of_ble_eq_true rfl, Nat.le_of_ble_eq_true rfl⟩ ⟨Nat.le_of_ble_eq_true rfl, Nat.le_of_ble_eq_true rfl⟩ hf
    · refine V_gload_n X.1 dX8_way_66 rfl rfl ?_
      refine V_getr X.1 ob_0 rfl rfl hin_X8 11 (Nat.le_of_ble_eq_true rfl) tw_412 rfl dX8_way_67 ?_
      refine V_iload_n X.1 dX8_way_70 rfl rfl ?_
      refine V_cVI X.1 hf [vi a2] _ 1 (fun _ h => m_X1_get is_83 h) ob_83 rfl tw_500 tw_89 tw_1180 tw_498 tw_499 dX8_way_71 ⟨by decide +kernel, by decide +kernel, by decide +kernel⟩ ⟨rfl, rfl⟩ ⟨Nat.le_of_ble_eq_true rfl, Nat.le_of_ble_eq_true rfl⟩ rfl (Nat.le_of_ble_eq_true rfl) ⟨Nat.le_of_ble_eq_true rfl, Nat.le_of_ble_eq_true rfl⟩ (fun r6 w6 hf => ?_)
      exact V_iretX X hE dX8_way_74 ⟨Nat.le_of_ble_eq_true rfl, Nat.le_of_ble_eq_true rfl⟩ hf
abbrev rmX8_work : Room := { frames := 9, cells := 2, slots := 12, locals := 421 }
set_option maxRecDepth 20000 in
theorem v_X8_work_49 {G : GG} {E : EE} (X : CX G E cX8_work RX8 (some .boolean) rmX8_work 3) {q : (Nat × Int × WS)} (hE : EndX G E (QXI G q) q rmX8_work.cells rmX8_work.slots)   {a2 : Int} {w : WS} (hf : f_X8_work_49   a2 w = some q) : VV G E 1 6 49 [(2, vi a2)] [] w := by
  unfold f_X8_work_49 at hf
  refine V_iload_n X.1 dX8_work_49 rfl rfl ?_
  refine V_if_ne X.1 (tgt := 57) dX8_work_50 (by decide) hf (fun hf => ?_) (fun hf => ?_)
  · refine V_iconst X.1 dX8_work_53 ?_
    refine V_goto X.1 (tgt := 58) dX8_work_54 (by decide) ?_
    exact V_zretX X hE dX8_work_58 (Or.inr rfl) ⟨Nat.le_of_ble_eq_true rfl, Nat.le_of_ble_eq_true rfl⟩ hf
  · refine V_iconst X.1 dX8_work_57 ?_
    exact V_zretX X hE dX8_work_58 (Or.inl rfl) ⟨Nat.le_of_ble_eq_true rfl, Nat.le_of_ble_eq_true rfl⟩ hf
set_option maxRecDepth 20000 in
theorem m_X8_work {G : GG} {a1 : Int} {w : WS} {q : (Nat × Int × WS)}  (hf : f_X8_work a1 w = some q) : MXI G yX8_work cX8_work 3 (some .boolean) rmX8_work [gr G 0, vi a1] w q := by
  refine MXI_of (by decide +kernel) (Nat.le_of_ble_eq_true rfl) (fun E X hE => ?_)
  have X : CX G E cX8_work RX8 (some .boolean) rmX8_work 3 := X
  unfold f_X8_work at hf
  refine V_gload_n X.1 dX8_work_0 rfl rfl ?_
  refine V_iload_n X.1 dX8_work_1 rfl rfl ?_
  refine V_xVV X hE hf [vi a1] _ 1 (fun _ h => m_X8_needTerm h) ob_0 rfl tw_865 tw_86 tw_862 tw_864 tw_3 dX8_work_2 ⟨by decide +kernel, by decide +kernel, by decide +kernel⟩ ⟨Nat.le_of_ble_eq_true rfl, Nat.le_of_ble_eq_true rfl⟩ rfl (Nat.le_of_ble_eq_true rfl) ⟨Nat.le_of_ble_eq_true rfl, Nat.le_of_ble_eq_true rfl⟩ ⟨Nat.le_of_ble_eq_true rfl, Nat.le_of_ble_eq_true rfl⟩ (fun r1 w1 hf => ?_)
  refine V_gload_n X.1 dX8_work_5 rfl rfl ?_
  refine V_getr X.1 ob_0 rfl rfl hin_X8 8 (Nat.le_of_ble_eq_true rfl) tw_409 rfl dX8_work_6 ?_
  refine V_iload_n X.1 dX8_work_9 rfl rfl ?_
  refine V_cVI X.1 hf [vi a1] _ 1 (fun _ h => m_X5_workOut h) ob_54 rfl tw_952 tw_92 tw_1285 tw_950 tw_951 dX8_work_10 ⟨by decide +kernel, by decide +kernel, by decide +kernel⟩ ⟨rfl, rfl⟩ ⟨Nat.le_of_ble_eq_true rfl, Nat.le_of_ble_eq_true rfl⟩ rfl (Nat.le_of_ble_eq_true rfl) ⟨Nat.le_of_ble_eq_true rfl, Nat.le_of_ble_eq_true rfl⟩ (fun r2 w2 hf => ?_)
  refine V_istore_n X.1 dX8_work_13 rfl (by decide) ?_
  refine V_iload_n X.1 dX8_work_14 rfl rfl ?_
  refine V_if_le X.1 (tgt := 29) dX8_work_15 (by decide) hf (fun hf => ?_) (fun hf => ?_)
  · exact V_throwW X hE 6 rfl (by decide) (by decide +kernel) tw_1223 tw_111 (List.mem_of_getElem? (i := 18) rfl) at_256 dX8_work_18 dX8_work_21 dX8_work_22 dX8_work_25 dX8_work_28 ⟨Nat.le_of_ble_eq_true rfl, Nat.le_of_ble_eq_true rfl, Nat.le_of_ble_eq_true rfl, Nat.le_of_ble_eq_true rfl⟩ ⟨Nat.le_of_ble_eq_true rfl, Nat.le_of_ble_eq_true rfl⟩ hf
  · refine V_iload_n X.1 dX8_work_29 rfl rfl ?_
    refine V_if_ne X.1 (tgt := 49) dX8_work_30 (by decide) hf (fun hf => ?_) (fun hf => ?_)
    · refine V_gload_n X.1 dX8_work_33 rfl rfl ?_
      refine V_getr X.1 ob_0 rfl rfl hin_X8 0 (Nat.le_of_ble_eq_true rfl) tw_401 rfl dX8_work_34 ?_
      refine V_iconst X.1 dX8_work_37 ?_
      refine V_gload_n X.1 dX8_work_38 rfl rfl ?_
      refine V_getr X.1 ob_0 rfl rfl hin_X8 8 (Nat.le_of_ble_eq_true rfl) tw_409 rfl dX8_work_39 ?_
      refine V_getrN X.1 ob_54 rfl rfl hin_X5 3 (Nat.le_of_ble_eq_true rfl) nw_12 rfl dX8_work_42 ?_
      refine V_iload_n X.1 dX8_work_45 rfl rfl ?_
      refine V_cVV X.1 hf [vi 0, gr G 16, vi a1] _ 3 (fun _ h => m_X6_copy is_1 is_16 h) ob_1 rfl tw_635 tw_87 tw_632 tw_633 tw_634 dX8_work_46 ⟨by decide +kernel, by decide +kernel, by decide +kernel⟩ ⟨rfl, rfl⟩ ⟨Nat.le_of_ble_eq_true rfl, Nat.le_of_ble_eq_true rfl⟩ rfl (Nat.le_of_ble_eq_true rfl) ⟨Nat.le_of_ble_eq_true rfl, Nat.le_of_ble_eq_true rfl⟩ (fun r3 w3 hf => ?_)
      exact V_widen 1 6 ⟨Nat.le_of_ble_eq_true rfl, Nat.le_of_ble_eq_true rfl⟩ (by exact V_cut [2] rfl (v_X8_work_49 X hE hf))
    · exact V_widen 1 6 ⟨Nat.le_of_ble_eq_true rfl, Nat.le_of_ble_eq_true rfl⟩ (by exact V_cut [2] rfl (v_X8_work_49 X hE hf))
abbrev rmX8_typed : Room := { frames := 8, cells := 1, slots := 6, locals := 400 }
set_option maxRecDepth 20000 in
theorem m_X8_typed {G : GG} {a1 : Int} {w : WS} {q : (Nat × Int × WS)}  (hf : f_X8_typed a1 w = some q) : MXI G yX8_typed cX8_typed 2 (some .int) rmX8_typed [gr G 0, vi a1] w q := by
  refine MXI_of (by decide +kernel) (Nat.le_of_ble_eq_true rfl) (fun E X hE => ?_)
  have X : CX G E cX8_typed RX8 (some .int) rmX8_typed 2 := X
  unfold f_X8_typed at hf
  refine V_gload_n X.1 dX8_typed_0 rfl rfl ?_
  refine V_getr X.1 ob_0 rfl rfl hin_X8 0 (Nat.le_of_ble_eq_true rfl) tw_401 rfl dX8_typed_1 ?_
  refine V_iconst X.1 dX8_typed_4 ?_
  refine V_iload_n X.1 dX8_typed_5 rfl rfl ?_
  refine V_cVI X.1 hf [vi 0, vi a1] _ 2 (fun _ h => m_X6_holds is_1 h) ob_1 rfl tw_710 tw_87 tw_707 tw_708 tw_709 dX8_typed_6 ⟨by decide +kernel, by decide +kernel, by decide +kernel⟩ ⟨rfl, rfl⟩ ⟨Nat.le_of_ble_eq_true rfl, Nat.le_of_ble_eq_true rfl⟩ rfl (Nat.le_of_ble_eq_true rfl) ⟨Nat.le_of_ble_eq_true rfl, Nat.le_of_ble_eq_true rfl⟩ (fun r1 w1 hf => ?_)
  refine V_if_ne X.1 (tgt := 23) dX8_typed_9 (by decide) hf (fun hf => ?_) (fun hf => ?_)
  · exact V_throwNW X hE tw_711 tw_105 (List.mem_of_getElem? (i := 19) rfl) dX8_typed_12 dX8_typed_15 dX8_typed_16 dX8_typed_19 dX8_typed_22 ⟨Nat.le_of_ble_eq_true rfl, Nat.le_of_ble_eq_true rfl, Nat.le_of_ble_eq_true rfl, Nat.le_of_ble_eq_true rfl⟩ ⟨Nat.le_of_ble_eq_true rfl, Nat.le_of_ble_eq_true rfl⟩ hf
  · refine V_gload_n X.1 dX8_typed_23 rfl rfl ?_
    refine V_getr X.1 ob_0 rfl rfl hin_X8 0 (Nat.le_of_ble_eq_true rfl) tw_401 rfl dX8_typed_24 ?_
    refine V_iconst X.1 dX8_typed_27 ?_
    refine V_iload_n X.1 dX8_typed_28 rfl rfl ?_
    refine V_cVI X.1 hf [vi 0, vi a1] _ 2 (fun _ h => m_X6_sign is_1 h) ob_1 rfl tw_488 tw_87 tw_485 tw_486 tw_487 dX8_typed_29 ⟨by decide +kernel, by decide +kernel, by decide +kernel⟩ ⟨rfl, rfl⟩ ⟨Nat.le_of_ble_eq_true rfl, Nat.le_of_ble_eq_true rfl⟩ rfl (Nat.le_of_ble_eq_true rfl) ⟨Nat.le_of_ble_eq_true rfl, Nat.le_of_ble_eq_true rfl⟩ (fun r2 w2 hf => ?_)
    exact V_iretX X hE dX8_typed_32 ⟨Nat.le_of_ble_eq_true rfl, Nat.le_of_ble_eq_true rfl⟩ hf
