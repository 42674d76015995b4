abbrev rmX2_prepare : Room := { frames := 2, cells := 0, slots := 0, locals := 54 }
set_option maxRecDepth 20000 in
theorem m_X2_prepare {G : GG} {j : Nat} {a2 : Int} {a3 : Int} {a4 : Int} {w : WS} {q : (Int × WS)} (hj : isX6 j) (hf : f_X2_prepare j a2 a3 a4 w = some q) : MV G yX2_prepare cX2_prepare 5 none rmX2_prepare [gr G 39, gr G j, vi a2, vi a3, vi a4] w q := by
  refine MV_of (by decide +kernel) (Nat.le_of_ble_eq_true rfl) (fun E X hE => ?_)
  have X : Cx G E cX2_prepare RX2 none rmX2_prepare 5 := X
  unfold f_X2_prepare at hf
  refine V_gload_n X dX2_prepare_0 rfl rfl ?_
  refine V_getr X ob_39 rfl rfl hin_X2 3 (Nat.le_of_ble_eq_true rfl) tw_209 rfl dX2_prepare_1 ?_
  refine V_iconst X dX2_prepare_4 ?_
  refine V_gload_n X dX2_prepare_5 rfl rfl ?_
  refine V_iload_n X dX2_prepare_6 rfl rfl ?_
  refine V_cVV X hf [vi 0, gr G j, vi a2] _ 3 (fun _ h => m_X6_copy is_13 hj h) ob_13 rfl tw_635 tw_87 tw_1024 tw_633 tw_634 dX2_prepare_7 ⟨by decide +kernel, by decide +kernel, by decide +kernel⟩ ⟨rfl, rfl⟩ ⟨Nat.le_of_ble_eq_true rfl, Nat.le_of_ble_eq_true rfl⟩ rfl (Nat.le_of_ble_eq_true rfl) ⟨Nat.zero_le _, Nat.zero_le _⟩ (fun r1 w1 hf => ?_)
  refine V_gload_n X dX2_prepare_10 rfl rfl ?_
  refine V_gload_n X dX2_prepare_11 rfl rfl ?_
  refine V_getr X ob_39 rfl rfl hin_X2 3 (Nat.le_of_ble_eq_true rfl) tw_209 rfl dX2_prepare_12 ?_
  refine V_iconst X dX2_prepare_15 ?_
  refine V_cVI X hf [vi 0] _ 1 (fun _ h => m_X6_length is_13 h) ob_13 rfl tw_466 tw_87 tw_1025 tw_464 tw_465 dX2_prepare_16 ⟨by decide +kernel, by decide +kernel, by decide +kernel⟩ ⟨rfl, rfl⟩ ⟨Nat.le_of_ble_eq_true rfl, Nat.le_of_ble_eq_true rfl⟩ rfl (Nat.le_of_ble_eq_true rfl) ⟨Nat.zero_le _, Nat.zero_le _⟩ (fun r2 w2 hf => ?_)
  refine V_puti X ob_39 rfl rfl hin_X2 10 (Nat.le_of_ble_eq_true rfl) tw_216 tyX2 tyX2_ok nmX2 rfl (by decide +kernel) rfl dX2_prepare_19 ?_
  refine V_gload_n X dX2_prepare_22 rfl rfl ?_
  refine V_iload_n X dX2_prepare_23 rfl rfl ?_
  refine V_puti X ob_39 rfl rfl hin_X2 8 (Nat.le_of_ble_eq_true rfl) tw_214 tyX2 tyX2_ok nmX2 rfl (by decide +kernel) rfl dX2_prepare_24 ?_
  refine V_gload_n X dX2_prepare_27 rfl rfl ?_
  refine V_iload X dX2_prepare_28 rfl ?_
  obtain ⟨hz, hf⟩ := ite_n hf
  refine V_putz X ob_39 rfl rfl hin_X2 9 (Nat.le_of_ble_eq_true rfl) tw_215 tyX2 tyX2_ok nmX2 rfl (by decide +kernel) hz rfl dX2_prepare_30 ?_
  refine V_gload_n X dX2_prepare_33 rfl rfl ?_
  refine V_iconst X dX2_prepare_34 ?_
  refine V_puti X ob_39 rfl rfl hin_X2 11 (Nat.le_of_ble_eq_true rfl) tw_217 tyX2 tyX2_ok nmX2 rfl (by decide +kernel) rfl dX2_prepare_35 ?_
  refine V_gload_n X dX2_prepare_38 rfl rfl ?_
  refine V_iconst X dX2_prepare_39 ?_
  refine V_puti X ob_39 rfl rfl hin_X2 12 (Nat.le_of_ble_eq_true rfl) tw_219 tyX2 tyX2_ok nmX2 rfl (by decide +kernel) rfl dX2_prepare_40 ?_
  refine V_gload_n X dX2_prepare_43 rfl rfl ?_
  refine V_getr X ob_39 rfl rfl hin_X2 4 (Nat.le_of_ble_eq_true rfl) tw_210 rfl dX2_prepare_44 ?_
  refine V_iconst X dX2_prepare_47 ?_
  refine V_putiN X ob_40 rfl rfl hin_X3 3 (Nat.le_of_ble_eq_true rfl) nw_7 tyX3 tyX3_ok nmX3 rfl (by decide +kernel) rfl dX2_prepare_48 ?_
  refine V_gload_n X dX2_prepare_51 rfl rfl ?_
  refine V_getr X ob_39 rfl rfl hin_X2 5 (Nat.le_of_ble_eq_true rfl) tw_211 rfl dX2_prepare_52 ?_
  refine V_iconst X dX2_prepare_55 ?_
  refine V_putiN X ob_44 rfl rfl hin_X3 3 (Nat.le_of_ble_eq_true rfl) nw_7 tyX3 tyX3_ok nmX3 rfl (by decide +kernel) rfl dX2_prepare_56 ?_
  exact V_vret X hE dX2_prepare_59 hf
abbrev rmX2_addNode : Room := { frames := 1, cells := 0, slots := 0, locals := 23 }
set_option maxRecDepth 20000 in
theorem m_X2_addNode {G : GG}  {w : WS} {q : (Int × WS)}  (hf : f_X2_addNode  w = some q) : MV G yX2_addNode cX2_addNode 1 none rmX2_addNode [gr G 39] w q := by
  refine MV_of (by decide +kernel) (Nat.le_of_ble_eq_true rfl) (fun E X hE => ?_)
  have X : Cx G E cX2_addNode RX2 none rmX2_addNode 1 := X
  unfold f_X2_addNode at hf
  refine V_gload_n X dX2_addNode_0 rfl rfl ?_
  refine V_getr X ob_39 rfl rfl hin_X2 4 (Nat.le_of_ble_eq_true rfl) tw_210 rfl dX2_addNode_1 ?_
  refine V_gload_n X dX2_addNode_4 rfl rfl ?_
  refine V_geti X ob_39 rfl rfl hin_X2 13 (Nat.le_of_ble_eq_true rfl) tw_221 rfl dX2_addNode_5 ?_
  refine V_gload_n X dX2_addNode_8 rfl rfl ?_
  refine V_geti X ob_39 rfl rfl hin_X2 14 (Nat.le_of_ble_eq_true rfl) tw_222 rfl dX2_addNode_9 ?_
  refine V_gload_n X dX2_addNode_12 rfl rfl ?_
  refine V_geti X ob_39 rfl rfl hin_X2 15 (Nat.le_of_ble_eq_true rfl) tw_224 rfl dX2_addNode_13 ?_
  refine V_cVV X hf [vi (w 39 13), vi (w 39 14), vi (w 39 15)] _ 3 (fun _ h => m_X3_push is_40 h) ob_40 rfl tw_1043 tw_91 tw_1040 tw_1041 tw_1042 dX2_addNode_16 ⟨by decide +kernel, by decide +kernel, by decide +kernel⟩ ⟨rfl, rfl⟩ ⟨Nat.le_of_ble_eq_true rfl, Nat.le_of_ble_eq_true rfl⟩ rfl (Nat.le_of_ble_eq_true rfl) ⟨Nat.zero_le _, Nat.zero_le _⟩ (fun r1 w1 hf => ?_)
  refine V_gload_n X dX2_addNode_19 rfl rfl ?_
  refine V_gload_n X dX2_addNode_20 rfl rfl ?_
  refine V_getr X ob_39 rfl rfl hin_X2 4 (Nat.le_of_ble_eq_true rfl) tw_210 rfl dX2_addNode_21 ?_
  refine V_getiN X ob_40 rfl rfl hin_X3 3 (Nat.le_of_ble_eq_true rfl) nw_7 rfl dX2_addNode_24 ?_
  refine V_iconst X dX2_addNode_27 ?_
  refine V_isub X dX2_addNode_28 ?_
  refine V_puti X ob_39 rfl rfl hin_X2 15 (Nat.le_of_ble_eq_true rfl) tw_224 tyX2 tyX2_ok nmX2 rfl (by decide +kernel) rfl dX2_addNode_29 ?_
  exact V_vret X hE dX2_addNode_32 hf
abbrev rmX2_beginPart : Room := { frames := 0, cells := 0, slots := 0, locals := 0 }
set_option maxRecDepth 20000 in
theorem m_X2_beginPart {G : GG} {a1 : Int} {w : WS} {q : (Int × WS)}  (hf : f_X2_beginPart a1 w = some q) : MI G yX2_beginPart cX2_beginPart 2 (some .int) rmX2_beginPart [gr G 39, vi a1] w q := by
  refine MI_of (by decide +kernel) (Nat.le_of_ble_eq_true rfl) (fun E X hE => ?_)
  have X : Cx G E cX2_beginPart RX2 (some .int) rmX2_beginPart 2 := X
  unfold f_X2_beginPart at hf
  refine V_gload_n X dX2_beginPart_0 rfl rfl ?_
  refine V_iload_n X dX2_beginPart_1 rfl rfl ?_
  refine V_puti X ob_39 rfl rfl hin_X2 13 (Nat.le_of_ble_eq_true rfl) tw_221 tyX2 tyX2_ok nmX2 rfl (by decide +kernel) rfl dX2_beginPart_2 ?_
  refine V_iconst X dX2_beginPart_5 ?_
  exact V_iret X hE dX2_beginPart_6 hf
abbrev rmX2_addChoice : Room := { frames := 1, cells := 0, slots := 0, locals := 23 }
set_option maxRecDepth 20000 in
theorem m_X2_addChoice {G : GG}  {w : WS} {q : (Int × WS)}  (hf : f_X2_addChoice  w = some q) : MV G yX2_addChoice cX2_addChoice 1 none rmX2_addChoice [gr G 39] w q := by
  refine MV_of (by decide +kernel) (Nat.le_of_ble_eq_true rfl) (fun E X hE => ?_)
  have X : Cx G E cX2_addChoice RX2 none rmX2_addChoice 1 := X
  unfold f_X2_addChoice at hf
  refine V_gload_n X dX2_addChoice_0 rfl rfl ?_
  refine V_getr X ob_39 rfl rfl hin_X2 6 (Nat.le_of_ble_eq_true rfl) tw_212 rfl dX2_addChoice_1 ?_
  refine V_gload_n X dX2_addChoice_4 rfl rfl ?_
  refine V_getr X ob_39 rfl rfl hin_X2 5 (Nat.le_of_ble_eq_true rfl) tw_211 rfl dX2_addChoice_5 ?_
  refine V_getiN X ob_44 rfl rfl hin_X3 3 (Nat.le_of_ble_eq_true rfl) nw_7 rfl dX2_addChoice_8 ?_
  refine V_gload_n X dX2_addChoice_11 rfl rfl ?_
  refine V_getr X ob_39 rfl rfl hin_X2 7 (Nat.le_of_ble_eq_true rfl) tw_213 rfl dX2_addChoice_12 ?_
  refine V_getiN X ob_50 rfl rfl hin_X3 3 (Nat.le_of_ble_eq_true rfl) nw_7 rfl dX2_addChoice_15 ?_
  refine V_cVV X hf [vi (w 44 3), vi (w 50 3)] _ 2 (fun _ h => m_X1_put is_48 h) ob_48 rfl tw_839 tw_89 tw_1052 tw_837 tw_838 dX2_addChoice_18 ⟨by decide +kernel, by decide +kernel, by decide +kernel⟩ ⟨rfl, rfl⟩ ⟨Nat.le_of_ble_eq_true rfl, Nat.le_of_ble_eq_true rfl⟩ rfl (Nat.le_of_ble_eq_true rfl) ⟨Nat.zero_le _, Nat.zero_le _⟩ (fun r1 w1 hf => ?_)
  refine V_gload_n X dX2_addChoice_21 rfl rfl ?_
  refine V_getr X ob_39 rfl rfl hin_X2 5 (Nat.le_of_ble_eq_true rfl) tw_211 rfl dX2_addChoice_22 ?_
  refine V_gload_n X dX2_addChoice_25 rfl rfl ?_
  refine V_geti X ob_39 rfl rfl hin_X2 13 (Nat.le_of_ble_eq_true rfl) tw_221 rfl dX2_addChoice_26 ?_
  refine V_gload_n X dX2_addChoice_29 rfl rfl ?_
  refine V_geti X ob_39 rfl rfl hin_X2 14 (Nat.le_of_ble_eq_true rfl) tw_222 rfl dX2_addChoice_30 ?_
  refine V_gload_n X dX2_addChoice_33 rfl rfl ?_
  refine V_geti X ob_39 rfl rfl hin_X2 15 (Nat.le_of_ble_eq_true rfl) tw_224 rfl dX2_addChoice_34 ?_
  refine V_cVV X hf [vi (w1 39 13), vi (w1 39 14), vi (w1 39 15)] _ 3 (fun _ h => m_X3_push is_44 h) ob_44 rfl tw_1043 tw_91 tw_1040 tw_1041 tw_1042 dX2_addChoice_37 ⟨by decide +kernel, by decide +kernel, by decide +kernel⟩ ⟨rfl, rfl⟩ ⟨Nat.le_of_ble_eq_true rfl, Nat.le_of_ble_eq_true rfl⟩ rfl (Nat.le_of_ble_eq_true rfl) ⟨Nat.zero_le _, Nat.zero_le _⟩ (fun r2 w2 hf => ?_)
  exact V_vret X hE dX2_addChoice_40 hf
abbrev rmX2_begin : Room := { frames := 2, cells := 0, slots := 0, locals := 52 }
set_option maxRecDepth 20000 in
theorem m_X2_begin {G : GG}  {w : WS} {q : (Int × WS)}  (hf : f_X2_begin  w = some q) : MI G yX2_begin cX2_begin 1 (some .int) rmX2_begin [gr G 39] w q := by
  refine MI_of (by decide +kernel) (Nat.le_of_ble_eq_true rfl) (fun E X hE => ?_)
  have X : Cx G E cX2_begin RX2 (some .int) rmX2_begin 1 := X
  unfold f_X2_begin at hf
  refine V_gload_n X dX2_begin_0 rfl rfl ?_
  refine V_geti X ob_39 rfl rfl hin_X2 12 (Nat.le_of_ble_eq_true rfl) tw_219 rfl dX2_begin_1 ?_
  refine V_sipush X dX2_begin_4 (by decide) ?_
  refine V_icmp_lt X (tgt := 12) dX2_begin_7 (by decide) hf (fun hf => ?_) (fun hf => ?_)
  · refine V_gload_n X dX2_begin_12 rfl rfl ?_
    refine V_dup X dX2_begin_13 rfl ?_
    refine V_geti X ob_39 rfl rfl hin_X2 12 (Nat.le_of_ble_eq_true rfl) tw_219 rfl dX2_begin_14 ?_
    refine V_iconst X dX2_begin_17 ?_
    refine V_iadd X dX2_begin_18 ?_
    refine V_puti X ob_39 rfl rfl hin_X2 12 (Nat.le_of_ble_eq_true rfl) tw_219 tyX2 tyX2_ok nmX2 rfl (by decide +kernel) rfl dX2_begin_19 ?_
    refine V_gload_n X dX2_begin_22 rfl rfl ?_
    refine V_getr X ob_39 rfl rfl hin_X2 0 (Nat.le_of_ble_eq_true rfl) tw_206 rfl dX2_begin_23 ?_
    refine V_getrN X ob_25 rfl rfl hin_X0 1 (Nat.le_of_ble_eq_true rfl) nw_1 rfl dX2_begin_26 ?_
    refine V_gload_n X dX2_begin_29 rfl rfl ?_
    refine V_geti X ob_39 rfl rfl hin_X2 13 (Nat.le_of_ble_eq_true rfl) tw_221 rfl dX2_begin_30 ?_
    refine V_cVI X hf [vi ((up w 39 12 ((w 39 12) + 1)) 39 13)] _ 1 (fun _ h => m_X1_get is_26 h) ob_26 rfl tw_500 tw_89 tw_1035 tw_498 tw_499 dX2_begin_33 ⟨by decide +kernel, by decide +kernel, by decide +kernel⟩ ⟨rfl, rfl⟩ ⟨Nat.le_of_ble_eq_true rfl, Nat.le_of_ble_eq_true rfl⟩ rfl (Nat.le_of_ble_eq_true rfl) ⟨Nat.zero_le _, Nat.zero_le _⟩ (fun r1 w1 hf => ?_)
    refine ite_c hf (fun h0 hf => ?_) (fun h0 hf => ?_)
    · refine V_lookup X (off := 92) (tgt := 128) dX2_begin_36 (by decide) (by exact off_pos h0) (by decide) ?_
      refine V_gload_n X dX2_begin_128 rfl rfl ?_
      refine V_cVV X hf [] _ 0 (fun _ h => m_X2_addNode h) ob_39 rfl tw_1039 tw_90 tw_1036 tw_1038 tw_16 dX2_begin_129 ⟨by decide +kernel, by decide +kernel, by decide +kernel⟩ ⟨rfl, rfl⟩ ⟨Nat.le_of_ble_eq_true rfl, Nat.le_of_ble_eq_true rfl⟩ rfl (Nat.le_of_ble_eq_true rfl) ⟨Nat.zero_le _, Nat.zero_le _⟩ (fun r2 w2 hf => ?_)
      refine V_gload_n X dX2_begin_132 rfl rfl ?_
      refine V_gload_n X dX2_begin_133 rfl rfl ?_
      refine V_getr X ob_39 rfl rfl hin_X2 0 (Nat.le_of_ble_eq_true rfl) tw_206 rfl dX2_begin_134 ?_
      refine V_getrN X ob_25 rfl rfl hin_X0 2 (Nat.le_of_ble_eq_true rfl) nw_3 rfl dX2_begin_137 ?_
      refine V_gload_n X dX2_begin_140 rfl rfl ?_
      refine V_geti X ob_39 rfl rfl hin_X2 13 (Nat.le_of_ble_eq_true rfl) tw_221 rfl dX2_begin_141 ?_
      refine V_cVI X hf [vi (w2 39 13)] _ 1 (fun _ h => m_X1_get is_28 h) ob_28 rfl tw_500 tw_89 tw_1035 tw_498 tw_499 dX2_begin_144 ⟨by decide +kernel, by decide +kernel, by decide +kernel⟩ ⟨rfl, rfl⟩ ⟨Nat.le_of_ble_eq_true rfl, Nat.le_of_ble_eq_true rfl⟩ rfl (Nat.le_of_ble_eq_true rfl) ⟨Nat.zero_le _, Nat.zero_le _⟩ (fun r3 w3 hf => ?_)
      refine V_cVI X hf [vi r3] _ 1 (fun _ h => m_X2_beginPart h) ob_39 rfl tw_1047 tw_90 tw_1044 tw_1046 tw_17 dX2_begin_147 ⟨by decide +kernel, by decide +kernel, by decide +kernel⟩ ⟨rfl, rfl⟩ ⟨Nat.le_of_ble_eq_true rfl, Nat.le_of_ble_eq_true rfl⟩ rfl (Nat.le_of_ble_eq_true rfl) ⟨Nat.zero_le _, Nat.zero_le _⟩ (fun r4 w4 hf => ?_)
      exact V_iret X hE dX2_begin_150 hf
    refine ite_c hf (fun h1 hf => ?_) (fun h1 hf => ?_)
    · refine V_lookup X (off := 92) (tgt := 128) dX2_begin_36 (by decide) (by exact off_neg h0 (off_pos h1)) (by decide) ?_
      refine V_gload_n X dX2_begin_128 rfl rfl ?_
      refine V_cVV X hf [] _ 0 (fun _ h => m_X2_addNode h) ob_39 rfl tw_1039 tw_90 tw_1036 tw_1038 tw_16 dX2_begin_129 ⟨by decide +kernel, by decide +kernel, by decide +kernel⟩ ⟨rfl, rfl⟩ ⟨Nat.le_of_ble_eq_true rfl, Nat.le_of_ble_eq_true rfl⟩ rfl (Nat.le_of_ble_eq_true rfl) ⟨Nat.zero_le _, Nat.zero_le _⟩ (fun r5 w5 hf => ?_)
      refine V_gload_n X dX2_begin_132 rfl rfl ?_
      refine V_gload_n X dX2_begin_133 rfl rfl ?_
      refine V_getr X ob_39 rfl rfl hin_X2 0 (Nat.le_of_ble_eq_true rfl) tw_206 rfl dX2_begin_134 ?_
      refine V_getrN X ob_25 rfl rfl hin_X0 2 (Nat.le_of_ble_eq_true rfl) nw_3 rfl dX2_begin_137 ?_
      refine V_gload_n X dX2_begin_140 rfl rfl ?_
      refine V_geti X ob_39 rfl rfl hin_X2 13 (Nat.le_of_ble_eq_true rfl) tw_221 rfl dX2_begin_141 ?_
      refine V_cVI X hf [vi (w5 39 13)] _ 1 (fun _ h => m_X1_get is_28 h) ob_28 rfl tw_500 tw_89 tw_1035 tw_498 tw_499 dX2_begin_144 ⟨by decide +kernel, by decide +kernel, by decide +kernel⟩ ⟨rfl, rfl⟩ ⟨Nat.le_of_ble_eq_true rfl, Nat.le_of_ble_eq_true rfl⟩ rfl (Nat.le_of_ble_eq_true rfl) ⟨Nat.zero_le _, Nat.zero_le _⟩ (fun r6 w6 hf => ?_)
      refine V_cVI X hf [vi r6] _ 1 (fun _ h => m_X2_beginPart h) ob_39 rfl tw_1047 tw_90 tw_1044 tw_1046 tw_17 dX2_begin_147 ⟨by decide +kernel, by decide +kernel, by decide +kernel⟩ ⟨rfl, rfl⟩ ⟨Nat.le_of_ble_eq_true rfl, Nat.le_of_ble_eq_true rfl⟩ rfl (Nat.le_of_ble_eq_true rfl) ⟨Nat.zero_le _, Nat.zero_le _⟩ (fun r7 w7 hf => ?_)
      exact V_iret X hE dX2_begin_150 hf
    refine ite_c hf (fun h2 hf => ?_) (fun h2 hf => ?_)
    · refine V_lookup X (off := 138) (tgt := 174) dX2_begin_36 (by decide) (by exact off_neg h0 (off_neg h1 (off_pos h2))) (by decide) ?_
      refine V_bipush X dX2_begin_174 (by decide) ?_
      exact V_iret X hE dX2_begin_176 hf
    refine ite_c hf (fun h3 hf => ?_) (fun h3 hf => ?_)
    · refine V_lookup X (off := 92) (tgt := 128) dX2_begin_36 (by decide) (by exact off_neg h0 (off_neg h1 (off_neg h2 (off_pos h3)))) (by decide) ?_
      refine V_gload_n X dX2_begin_128 rfl rfl ?_
      refine V_cVV X hf [] _ 0 (fun _ h => m_X2_addNode h) ob_39 rfl tw_1039 tw_90 tw_1036 tw_1038 tw_16 dX2_begin_129 ⟨by decide +kernel, by decide +kernel, by decide +kernel⟩ ⟨rfl, rfl⟩ ⟨Nat.le_of_ble_eq_true rfl, Nat.le_of_ble_eq_true rfl⟩ rfl (Nat.le_of_ble_eq_true rfl) ⟨Nat.zero_le _, Nat.zero_le _⟩ (fun r8 w8 hf => ?_)
      refine V_gload_n X dX2_begin_132 rfl rfl ?_
      refine V_gload_n X dX2_begin_133 rfl rfl ?_
      refine V_getr X ob_39 rfl rfl hin_X2 0 (Nat.le_of_ble_eq_true rfl) tw_206 rfl dX2_begin_134 ?_
      refine V_getrN X ob_25 rfl rfl hin_X0 2 (Nat.le_of_ble_eq_true rfl) nw_3 rfl dX2_begin_137 ?_
      refine V_gload_n X dX2_begin_140 rfl rfl ?_
      refine V_geti X ob_39 rfl rfl hin_X2 13 (Nat.le_of_ble_eq_true rfl) tw_221 rfl dX2_begin_141 ?_
      refine V_cVI X hf [vi (w8 39 13)] _ 1 (fun _ h => m_X1_get is_28 h) ob_28 rfl tw_500 tw_89 tw_1035 tw_498 tw_499 dX2_begin_144 ⟨by decide +kernel, by decide +kernel, by decide +kernel⟩ ⟨rfl, rfl⟩ ⟨Nat.le_of_ble_eq_true rfl, Nat.le_of_ble_eq_true rfl⟩ rfl (Nat.le_of_ble_eq_true rfl) ⟨Nat.zero_le _, Nat.zero_le _⟩ (fun r9 w9 hf => ?_)
      refine V_cVI X hf [vi r9] _ 1 (fun _ h => m_X2_beginPart h) ob_39 rfl tw_1047 tw_90 tw_1044 tw_1046 tw_17 dX2_begin_147 ⟨by decide +kernel, by decide +kernel, by decide +kernel⟩ ⟨rfl, rfl⟩ ⟨Nat.le_of_ble_eq_true rfl, Nat.le_of_ble_eq_true rfl⟩ rfl (Nat.le_of_ble_eq_true rfl) ⟨Nat.zero_le _, Nat.zero_le _⟩ (fun r10 w10 hf => ?_)
      exact V_iret X hE dX2_begin_150 hf
    refine ite_c hf (fun h4 hf => ?_) (fun h4 hf => ?_)
    · refine V_lookup X (off := 146) (tgt := 182) dX2_begin_36 (by decide) (by exact off_neg h0 (off_neg h1 (off_neg h2 (off_neg h3 (off_pos h4))))) (by decide) ?_
      refine V_gload_n X dX2_begin_182 rfl rfl ?_
      refine V_getr X ob_39 rfl rfl hin_X2 2 (Nat.le_of_ble_eq_true rfl) tw_208 rfl dX2_begin_183 ?_
      refine V_gload_n X dX2_begin_186 rfl rfl ?_
      refine V_getr X ob_39 rfl rfl hin_X2 0 (Nat.le_of_ble_eq_true rfl) tw_206 rfl dX2_begin_187 ?_
      refine V_getrN X ob_25 rfl rfl hin_X0 2 (Nat.le_of_ble_eq_true rfl) nw_3 rfl dX2_begin_190 ?_
      refine V_gload_n X dX2_begin_193 rfl rfl ?_
      refine V_geti X ob_39 rfl rfl hin_X2 13 (Nat.le_of_ble_eq_true rfl) tw_221 rfl dX2_begin_194 ?_
      refine V_cVI X hf [vi (w1 39 13)] _ 1 (fun _ h => m_X1_get is_28 h) ob_28 rfl tw_500 tw_89 tw_1035 tw_498 tw_499 dX2_begin_197 ⟨by decide +kernel, by decide +kernel, by decide +kernel⟩ ⟨rfl, rfl⟩ ⟨Nat.le_of_ble_eq_true rfl, Nat.le_of_ble_eq_true rfl⟩ rfl (Nat.le_of_ble_eq_true rfl) ⟨Nat.zero_le _, Nat.zero_le _⟩ (fun r11 w11 hf => ?_)
      refine V_gload_n X dX2_begin_200 rfl rfl ?_
      refine V_geti X ob_39 rfl rfl hin_X2 14 (Nat.le_of_ble_eq_true rfl) tw_222 rfl dX2_begin_201 ?_
      refine V_i2l X dX2_begin_204 ?_
      refine V_cVV X hf [vi r11, vl (wr (w11 39 14))] _ 2 (fun _ h => m_X6_writeNumber is_7 h) ob_7 rfl tw_988 tw_87 tw_1053 tw_986 tw_987 dX2_begin_205 ⟨by decide +kernel, by decide +kernel, by decide +kernel⟩ ⟨rfl, rfl⟩ ⟨Nat.le_of_ble_eq_true rfl, Nat.le_of_ble_eq_true rfl⟩ rfl (Nat.le_of_ble_eq_true rfl) ⟨Nat.zero_le _, Nat.zero_le _⟩ (fun r12 w12 hf => ?_)
      refine V_bipush X dX2_begin_208 (by decide) ?_
      exact V_iret X hE dX2_begin_210 hf
    refine ite_c hf (fun h5 hf => ?_) (fun h5 hf => ?_)
    · refine V_lookup X (off := 138) (tgt := 174) dX2_begin_36 (by decide) (by exact off_neg h0 (off_neg h1 (off_neg h2 (off_neg h3 (off_neg h4 (off_pos h5)))))) (by decide) ?_
      refine V_bipush X dX2_begin_174 (by decide) ?_
      exact V_iret X hE dX2_begin_176 hf
    refine ite_c hf (fun h6 hf => ?_) (fun h6 hf => ?_)
    · refine V_lookup X (off := 138) (tgt := 174) dX2_begin_36 (by decide) (by exact off_neg h0 (off_neg h1 (off_neg h2 (off_neg h3 (off_neg h4 (off_neg h5 (off_pos h6))))))) (by decide) ?_
      refine V_bipush X dX2_begin_174 (by decide) ?_
      exact V_iret X hE dX2_begin_176 hf
    refine ite_c hf (fun h7 hf => ?_) (fun h7 hf => ?_)
    · refine V_lookup X (off := 141) (tgt := 177) dX2_begin_36 (by decide) (by exact off_neg h0 (off_neg h1 (off_neg h2 (off_neg h3 (off_neg h4 (off_neg h5 (off_neg h6 (off_pos h7)))))))) (by decide) ?_
      refine V_bipush X dX2_begin_177 (by decide) ?_
      exact V_iret X hE dX2_begin_179 hf
    refine ite_c hf (fun h8 hf => ?_) (fun h8 hf => ?_)
    · refine V_lookup X (off := 144) (tgt := 180) dX2_begin_36 (by decide) (by exact off_neg h0 (off_neg h1 (off_neg h2 (off_neg h3 (off_neg h4 (off_neg h5 (off_neg h6 (off_neg h7 (off_pos h8))))))))) (by decide) ?_
      refine V_iconst X dX2_begin_180 ?_
      exact V_iret X hE dX2_begin_181 hf
    refine ite_c hf (fun h9 hf => ?_) (fun h9 hf => ?_)
    · refine V_lookup X (off := 115) (tgt := 151) dX2_begin_36 (by decide) (by exact off_neg h0 (off_neg h1 (off_neg h2 (off_neg h3 (off_neg h4 (off_neg h5 (off_neg h6 (off_neg h7 (off_neg h8 (off_pos h9)))))))))) (by decide) ?_
      refine V_gload_n X dX2_begin_151 rfl rfl ?_
      refine V_cVV X hf [] _ 0 (fun _ h => m_X2_addChoice h) ob_39 rfl tw_1051 tw_90 tw_1048 tw_1050 tw_18 dX2_begin_152 ⟨by decide +kernel, by decide +kernel, by decide +kernel⟩ ⟨rfl, rfl⟩ ⟨Nat.le_of_ble_eq_true rfl, Nat.le_of_ble_eq_true rfl⟩ rfl (Nat.le_of_ble_eq_true rfl) ⟨Nat.zero_le _, Nat.zero_le _⟩ (fun r13 w13 hf => ?_)
      refine V_gload_n X dX2_begin_155 rfl rfl ?_
      refine V_gload_n X dX2_begin_156 rfl rfl ?_
      refine V_getr X ob_39 rfl rfl hin_X2 0 (Nat.le_of_ble_eq_true rfl) tw_206 rfl dX2_begin_157 ?_
      refine V_getrN X ob_25 rfl rfl hin_X0 2 (Nat.le_of_ble_eq_true rfl) nw_3 rfl dX2_begin_160 ?_
      refine V_gload_n X dX2_begin_163 rfl rfl ?_
      refine V_geti X ob_39 rfl rfl hin_X2 13 (Nat.le_of_ble_eq_true rfl) tw_221 rfl dX2_begin_164 ?_
      refine V_cVI X hf [vi (w13 39 13)] _ 1 (fun _ h => m_X1_get is_28 h) ob_28 rfl tw_500 tw_89 tw_1035 tw_498 tw_499 dX2_begin_167 ⟨by decide +kernel, by decide +kernel, by decide +kernel⟩ ⟨rfl, rfl⟩ ⟨Nat.le_of_ble_eq_true rfl, Nat.le_of_ble_eq_true rfl⟩ rfl (Nat.le_of_ble_eq_true rfl) ⟨Nat.zero_le _, Nat.zero_le _⟩ (fun r14 w14 hf => ?_)
      refine V_cVI X hf [vi r14] _ 1 (fun _ h => m_X2_beginPart h) ob_39 rfl tw_1047 tw_90 tw_1044 tw_1046 tw_17 dX2_begin_170 ⟨by decide +kernel, by decide +kernel, by decide +kernel⟩ ⟨rfl, rfl⟩ ⟨Nat.le_of_ble_eq_true rfl, Nat.le_of_ble_eq_true rfl⟩ rfl (Nat.le_of_ble_eq_true rfl) ⟨Nat.zero_le _, Nat.zero_le _⟩ (fun r15 w15 hf => ?_)
      exact V_iret X hE dX2_begin_173 hf
    refine V_lookup X (off := 175) (tgt := 211) dX2_begin_36 (by decide) (by exact off_neg h0 (off_neg h1 (off_neg h2 (off_neg h3 (off_neg h4 (off_neg h5 (off_neg h6 (off_neg h7 (off_neg h8 (off_neg h9 (rfl))))))))))) (by decide) ?_
    refine V_iconst X dX2_begin_211 ?_
    exact V_iret X hE dX2_begin_212 hf
  · refine V_iconst X dX2_begin_10 ?_
    exact V_iret X hE dX2_begin_11 hf
abbrev rmX2_endOfSpan : Room := { frames := 1, cells := 0, slots := 0, locals := 25 }
set_option maxRecDepth 20000 in
theorem v_X2_endOfSpan_39 {G : GG} {E : EE} (X : Cx G E cX2_endOfSpan RX2 (some .int) rmX2_endOfSpan 3) {q : (Int × WS)} (hE : EndI G E q)   {a2 : Int} {w : WS} (hf : f_X2_endOfSpan_39   a2 w = some q) : VV G E 0 0 39 [(0, gr G 39), (2, vi a2)] [] w := by
  unfold f_X2_endOfSpan_39 at hf
  refine V_iload_n X dX2_endOfSpan_39 rfl rfl ?_
  refine V_gload_n X dX2_endOfSpan_40 rfl rfl ?_
  refine V_geti X ob_39 rfl rfl hin_X2 14 (Nat.le_of_ble_eq_true rfl) tw_222 rfl dX2_endOfSpan_41 ?_
  refine V_icmp_le X (tgt := 51) dX2_endOfSpan_44 (by decide) hf (fun hf => ?_) (fun hf => ?_)
  · refine V_iload_n X dX2_endOfSpan_47 rfl rfl ?_
    refine V_goto X (tgt := 52) dX2_endOfSpan_48 (by decide) ?_
    exact V_iret X hE dX2_endOfSpan_52 hf
  · refine V_iconst X dX2_endOfSpan_51 ?_
    exact V_iret X hE dX2_endOfSpan_52 hf
set_option maxRecDepth 20000 in
theorem v_X2_endOfSpan_5 {G : GG} {E : EE} (X : Cx G E cX2_endOfSpan RX2 (some .int) rmX2_endOfSpan 3) {q : (Int × WS)} (hE : EndI G E q)   : ∀ (n : Nat) (a1 a2 : Int) (w : WS), f_X2_endOfSpan_5   n a1 a2 w = some q → VV G E 0 0 5 [(0, gr G 39), (1, vi a1), (2, vi a2)] [] w := by
  intro n
  induction n with
  | zero => intro a1 a2 w hf; cases hf
  | succ n ih =>
    intro a1 a2 w hf
    rw [f_X2_endOfSpan_5_s] at hf
    refine V_iload_n X dX2_endOfSpan_5 rfl rfl ?_
    refine V_gload_n X dX2_endOfSpan_6 rfl rfl ?_
    refine V_geti X ob_39 rfl rfl hin_X2 10 (Nat.le_of_ble_eq_true rfl) tw_216 rfl dX2_endOfSpan_7 ?_
    refine V_icmp_ge X (tgt := 39) dX2_endOfSpan_10 (by decide) hf (fun hf => ?_) (fun hf => ?_)
    · refine V_gload_n X dX2_endOfSpan_13 rfl rfl ?_
      refine V_getr X ob_39 rfl rfl hin_X2 1 (Nat.le_of_ble_eq_true rfl) tw_207 rfl dX2_endOfSpan_14 ?_
      refine V_iload_n X dX2_endOfSpan_17 rfl rfl ?_
      refine V_gload_n X dX2_endOfSpan_18 rfl rfl ?_
      refine V_getr X ob_39 rfl rfl hin_X2 3 (Nat.le_of_ble_eq_true rfl) tw_209 rfl dX2_endOfSpan_19 ?_
      refine V_iconst X dX2_endOfSpan_22 ?_
      refine V_iload_n X dX2_endOfSpan_23 rfl rfl ?_
      refine V_cVI X hf [vi 0, vi a2] _ 2 (fun _ h => m_X6_sign is_13 h) ob_13 rfl tw_488 tw_87 tw_1059 tw_486 tw_487 dX2_endOfSpan_24 ⟨by decide +kernel, by decide +kernel, by decide +kernel⟩ ⟨rfl, rfl⟩ ⟨Nat.le_of_ble_eq_true rfl, Nat.le_of_ble_eq_true rfl⟩ rfl (Nat.le_of_ble_eq_true rfl) ⟨Nat.zero_le _, Nat.zero_le _⟩ (fun r1 w1 hf => ?_)
      refine V_cVI X hf [vi a1, vi r1] _ 2 (fun _ h => m_X6_contains is_4 h) ob_4 rfl tw_1063 tw_87 tw_1060 tw_1061 tw_1062 dX2_endOfSpan_27 ⟨by decide +kernel, by decide +kernel, by decide +kernel⟩ ⟨rfl, rfl⟩ ⟨Nat.le_of_ble_eq_true rfl, Nat.le_of_ble_eq_true rfl⟩ rfl (Nat.le_of_ble_eq_true rfl) ⟨Nat.zero_le _, Nat.zero_le _⟩ (fun r2 w2 hf => ?_)
      refine V_if_eq X (tgt := 39) dX2_endOfSpan_30 (by decide) hf (fun hf => ?_) (fun hf => ?_)
      · exact V_cut [0, 2] rfl (v_X2_endOfSpan_39 X hE hf)
      · refine V_iinc X dX2_endOfSpan_33 rfl (by decide) ?_
        refine V_goto X (tgt := 5) dX2_endOfSpan_36 (by decide) ?_
        exact V_cut [0, 1, 2] rfl (ih _ _ _ hf)
    · exact V_cut [0, 2] rfl (v_X2_endOfSpan_39 X hE hf)
set_option maxRecDepth 20000 in
theorem m_X2_endOfSpan {G : GG} {a1 : Int} {w : WS} {q : (Int × WS)}  (hf : f_X2_endOfSpan a1 w = some q) : MI G yX2_endOfSpan cX2_endOfSpan 3 (some .int) rmX2_endOfSpan [gr G 39, vi a1] w q := by
  refine MI_of (by decide +kernel) (Nat.le_of_ble_eq_true rfl) (fun E X hE => ?_)
  have X : Cx G E cX2_endOfSpan RX2 (some .int) rmX2_endOfSpan 3 := X
  unfold f_X2_endOfSpan at hf
  refine V_gload_n X dX2_endOfSpan_0 rfl rfl ?_
  refine V_geti X ob_39 rfl rfl hin_X2 14 (Nat.le_of_ble_eq_true rfl) tw_222 rfl dX2_endOfSpan_1 ?_
  refine V_istore_n X dX2_endOfSpan_4 rfl (by decide) ?_
  exact V_cut [0, 1, 2] rfl (v_X2_endOfSpan_5 X hE FU _ _ _ hf)
abbrev rmX2_endOfBreak : Room := { frames := 1, cells := 0, slots := 0, locals := 25 }
set_option maxRecDepth 20000 in
theorem v_X2_endOfBreak_39 {G : GG} {E : EE} (X : Cx G E cX2_endOfBreak RX2 (some .int) rmX2_endOfBreak 3) {q : (Int × WS)} (hE : EndI G E q)   {a2 : Int} {w : WS} (hf : f_X2_endOfBreak_39   a2 w = some q) : VV G E 0 0 39 [(0, gr G 39), (2, vi a2)] [] w := by
  unfold f_X2_endOfBreak_39 at hf
  refine V_iload_n X dX2_endOfBreak_39 rfl rfl ?_
  refine V_gload_n X dX2_endOfBreak_40 rfl rfl ?_
  refine V_geti X ob_39 rfl rfl hin_X2 10 (Nat.le_of_ble_eq_true rfl) tw_216 rfl dX2_endOfBreak_41 ?_
  refine V_icmp_ge X (tgt := 51) dX2_endOfBreak_44 (by decide) hf (fun hf => ?_) (fun hf => ?_)
  · refine V_iload_n X dX2_endOfBreak_47 rfl rfl ?_
    refine V_goto X (tgt := 52) dX2_endOfBreak_48 (by decide) ?_
    exact V_iret X hE dX2_endOfBreak_52 hf
  · refine V_iconst X dX2_endOfBreak_51 ?_
    exact V_iret X hE dX2_endOfBreak_52 hf
set_option maxRecDepth 20000 in
theorem v_X2_endOfBreak_5 {G : GG} {E : EE} (X : Cx G E cX2_endOfBreak RX2 (some .int) rmX2_endOfBreak 3) {q : (Int × WS)} (hE : EndI G E q)   : ∀ (n : Nat) (a1 a2 : Int) (w : WS), f_X2_endOfBreak_5   n a1 a2 w = some q → VV G E 0 0 5 [(0, gr G 39), (1, vi a1), (2, vi a2)] [] w := by
  intro n
  induction n with
  | zero => intro a1 a2 w hf; cases hf
  | succ n ih =>
    intro a1 a2 w hf
    rw [f_X2_endOfBreak_5_s] at hf
    refine V_iload_n X dX2_endOfBreak_5 rfl rfl ?_
    refine V_gload_n X dX2_endOfBreak_6 rfl rfl ?_
    refine V_geti X ob_39 rfl rfl hin_X2 10 (Nat.le_of_ble_eq_true rfl) tw_216 rfl dX2_endOfBreak_7 ?_
    refine V_icmp_ge X (tgt := 39) dX2_endOfBreak_10 (by decide) hf (fun hf => ?_) (fun hf => ?_)
    · refine V_gload_n X dX2_endOfBreak_13 rfl rfl ?_
      refine V_getr X ob_39 rfl rfl hin_X2 1 (Nat.le_of_ble_eq_true rfl) tw_207 rfl dX2_endOfBreak_14 ?_
      refine V_iload_n X dX2_endOfBreak_17 rfl rfl ?_
      refine V_gload_n X dX2_endOfBreak_18 rfl rfl ?_
      refine V_getr X ob_39 rfl rfl hin_X2 3 (Nat.le_of_ble_eq_true rfl) tw_209 rfl dX2_endOfBreak_19 ?_
      refine V_iconst X dX2_endOfBreak_22 ?_
      refine V_iload_n X dX2_endOfBreak_23 rfl rfl ?_
      refine V_cVI X hf [vi 0, vi a2] _ 2 (fun _ h => m_X6_sign is_13 h) ob_13 rfl tw_488 tw_87 tw_1059 tw_486 tw_487 dX2_endOfBreak_24 ⟨by decide +kernel, by decide +kernel, by decide +kernel⟩ ⟨rfl, rfl⟩ ⟨Nat.le_of_ble_eq_true rfl, Nat.le_of_ble_eq_true rfl⟩ rfl (Nat.le_of_ble_eq_true rfl) ⟨Nat.zero_le _, Nat.zero_le _⟩ (fun r1 w1 hf => ?_)
      refine V_cVI X hf [vi a1, vi r1] _ 2 (fun _ h => m_X6_contains is_4 h) ob_4 rfl tw_1063 tw_87 tw_1060 tw_1061 tw_1062 dX2_endOfBreak_27 ⟨by decide +kernel, by decide +kernel, by decide +kernel⟩ ⟨rfl, rfl⟩ ⟨Nat.le_of_ble_eq_true rfl, Nat.le_of_ble_eq_true rfl⟩ rfl (Nat.le_of_ble_eq_true rfl) ⟨Nat.zero_le _, Nat.zero_le _⟩ (fun r2 w2 hf => ?_)
      refine V_if_ne X (tgt := 39) dX2_endOfBreak_30 (by decide) hf (fun hf => ?_) (fun hf => ?_)
      · refine V_iinc X dX2_endOfBreak_33 rfl (by decide) ?_
        refine V_goto X (tgt := 5) dX2_endOfBreak_36 (by decide) ?_
        exact V_cut [0, 1, 2] rfl (ih _ _ _ hf)
      · exact V_cut [0, 2] rfl (v_X2_endOfBreak_39 X hE hf)
    · exact V_cut [0, 2] rfl (v_X2_endOfBreak_39 X hE hf)
set_option maxRecDepth 20000 in
theorem m_X2_endOfBreak {G : GG} {a1 : Int} {w : WS} {q : (Int × WS)}  (hf : f_X2_endOfBreak a1 w = some q) : MI G yX2_endOfBreak cX2_endOfBreak 3 (some .int) rmX2_endOfBreak [gr G 39, vi a1] w q := by
  refine MI_of (by decide +kernel) (Nat.le_of_ble_eq_true rfl) (fun E X hE => ?_)
  have X : Cx G E cX2_endOfBreak RX2 (some .int) rmX2_endOfBreak 3 := X
  unfold f_X2_endOfBreak at hf
  refine V_gload_n X dX2_endOfBreak_0 rfl rfl ?_
  refine V_geti X ob_39 rfl rfl hin_X2 14 (Nat.le_of_ble_eq_true rfl) tw_222 rfl dX2_endOfBreak_1 ?_
  refine V_istore_n X dX2_endOfBreak_4 rfl (by decide) ?_
  exact V_cut [0, 1, 2] rfl (v_X2_endOfBreak_5 X hE FU _ _ _ hf)
abbrev rmX2_endOfSingle : Room := { frames := 2, cells := 0, slots := 0, locals := 49 }
set_option maxRecDepth 20000 in
theorem m_X2_endOfSingle {G : GG}  {w : WS} {q : (Int × WS)}  (hf : f_X2_endOfSingle  w = some q) : MI G yX2_endOfSingle cX2_endOfSingle 2 (some .int) rmX2_endOfSingle [gr G 39] w q := by
  refine MI_of (by decide +kernel) (Nat.le_of_ble_eq_true rfl) (fun E X hE => ?_)
  have X : Cx G E cX2_endOfSingle RX2 (some .int) rmX2_endOfSingle 2 := X
  unfold f_X2_endOfSingle at hf
  refine V_gload_n X dX2_endOfSingle_0 rfl rfl ?_
  refine V_getr X ob_39 rfl rfl hin_X2 0 (Nat.le_of_ble_eq_true rfl) tw_206 rfl dX2_endOfSingle_1 ?_
  refine V_getrN X ob_25 rfl rfl hin_X0 2 (Nat.le_of_ble_eq_true rfl) nw_3 rfl dX2_endOfSingle_4 ?_
  refine V_gload_n X dX2_endOfSingle_7 rfl rfl ?_
  refine V_geti X ob_39 rfl rfl hin_X2 13 (Nat.le_of_ble_eq_true rfl) tw_221 rfl dX2_endOfSingle_8 ?_
  refine V_cVI X hf [vi (w 39 13)] _ 1 (fun _ h => m_X1_get is_28 h) ob_28 rfl tw_500 tw_89 tw_1035 tw_498 tw_499 dX2_endOfSingle_11 ⟨by decide +kernel, by decide +kernel, by decide +kernel⟩ ⟨rfl, rfl⟩ ⟨Nat.le_of_ble_eq_true rfl, Nat.le_of_ble_eq_true rfl⟩ rfl (Nat.le_of_ble_eq_true rfl) ⟨Nat.zero_le _, Nat.zero_le _⟩ (fun r1 w1 hf => ?_)
  refine V_istore_n X dX2_endOfSingle_14 rfl (by decide) ?_
  refine V_gload_n X dX2_endOfSingle_15 rfl rfl ?_
  refine V_getr X ob_39 rfl rfl hin_X2 0 (Nat.le_of_ble_eq_true rfl) tw_206 rfl dX2_endOfSingle_16 ?_
  refine V_getrN X ob_25 rfl rfl hin_X0 1 (Nat.le_of_ble_eq_true rfl) nw_1 rfl dX2_endOfSingle_19 ?_
  refine V_gload_n X dX2_endOfSingle_22 rfl rfl ?_
  refine V_geti X ob_39 rfl rfl hin_X2 13 (Nat.le_of_ble_eq_true rfl) tw_221 rfl dX2_endOfSingle_23 ?_
  refine V_cVI X hf [vi (w1 39 13)] _ 1 (fun _ h => m_X1_get is_26 h) ob_26 rfl tw_500 tw_89 tw_1035 tw_498 tw_499 dX2_endOfSingle_26 ⟨by decide +kernel, by decide +kernel, by decide +kernel⟩ ⟨rfl, rfl⟩ ⟨Nat.le_of_ble_eq_true rfl, Nat.le_of_ble_eq_true rfl⟩ rfl (Nat.le_of_ble_eq_true rfl) ⟨Nat.zero_le _, Nat.zero_le _⟩ (fun r2 w2 hf => ?_)
  refine ite_c hf (fun h0 hf => ?_) (fun h0 hf => ?_)
  · refine V_lookup X (off := 285) (tgt := 314) dX2_endOfSingle_29 (by decide) (by exact off_pos h0) (by decide) ?_
    refine V_gload_n X dX2_endOfSingle_314 rfl rfl ?_
    refine V_geti X ob_39 rfl rfl hin_X2 14 (Nat.le_of_ble_eq_true rfl) tw_222 rfl dX2_endOfSingle_315 ?_
    refine V_iload_n X dX2_endOfSingle_318 rfl rfl ?_
    refine V_iadd X dX2_endOfSingle_319 ?_
    refine V_gload_n X dX2_endOfSingle_320 rfl rfl ?_
    refine V_geti X ob_39 rfl rfl hin_X2 10 (Nat.le_of_ble_eq_true rfl) tw_216 rfl dX2_endOfSingle_321 ?_
    refine V_icmp_gt X (tgt := 336) dX2_endOfSingle_324 (by decide) hf (fun hf => ?_) (fun hf => ?_)
    · refine V_iconst X dX2_endOfSingle_336 ?_
      exact V_iret X hE dX2_endOfSingle_337 hf
    · refine V_gload_n X dX2_endOfSingle_327 rfl rfl ?_
      refine V_geti X ob_39 rfl rfl hin_X2 14 (Nat.le_of_ble_eq_true rfl) tw_222 rfl dX2_endOfSingle_328 ?_
      refine V_iload_n X dX2_endOfSingle_331 rfl rfl ?_
      refine V_iadd X dX2_endOfSingle_332 ?_
      refine V_goto X (tgt := 337) dX2_endOfSingle_333 (by decide) ?_
      exact V_iret X hE dX2_endOfSingle_337 hf
  refine ite_c hf (fun h1 hf => ?_) (fun h1 hf => ?_)
  · refine V_lookup X (off := 279) (tgt := 308) dX2_endOfSingle_29 (by decide) (by exact off_neg h0 (off_pos h1)) (by decide) ?_
    refine V_gload_n X dX2_endOfSingle_308 rfl rfl ?_
    refine V_iload_n X dX2_endOfSingle_309 rfl rfl ?_
    refine V_cVI X hf [vi r1] _ 1 (fun _ h => m_X2_endOfBreak h) ob_39 rfl tw_1071 tw_90 tw_1068 tw_1070 tw_21 dX2_endOfSingle_310 ⟨by decide +kernel, by decide +kernel, by decide +kernel⟩ ⟨rfl, rfl⟩ ⟨Nat.le_of_ble_eq_true rfl, Nat.le_of_ble_eq_true rfl⟩ rfl (Nat.le_of_ble_eq_true rfl) ⟨Nat.zero_le _, Nat.zero_le _⟩ (fun r3 w3 hf => ?_)
    exact V_iret X hE dX2_endOfSingle_313 hf
  refine ite_c hf (fun h2 hf => ?_) (fun h2 hf => ?_)
  · refine V_lookup X (off := 107) (tgt := 136) dX2_endOfSingle_29 (by decide) (by exact off_neg h0 (off_neg h1 (off_pos h2))) (by decide) ?_
    refine V_gload_n X dX2_endOfSingle_136 rfl rfl ?_
    refine V_getr X ob_39 rfl rfl hin_X2 3 (Nat.le_of_ble_eq_true rfl) tw_209 rfl dX2_endOfSingle_137 ?_
    refine V_iconst X dX2_endOfSingle_140 ?_
    refine V_gload_n X dX2_endOfSingle_141 rfl rfl ?_
    refine V_geti X ob_39 rfl rfl hin_X2 14 (Nat.le_of_ble_eq_true rfl) tw_222 rfl dX2_endOfSingle_142 ?_
    refine V_gload_n X dX2_endOfSingle_145 rfl rfl ?_
    refine V_getr X ob_39 rfl rfl hin_X2 1 (Nat.le_of_ble_eq_true rfl) tw_207 rfl dX2_endOfSingle_146 ?_
    refine V_iload_n X dX2_endOfSingle_149 rfl rfl ?_
    refine V_cVI X hf [vi 0, vi (w2 39 14), gr G 4, vi r1] _ 4 (fun _ h => m_X6_hasThere is_13 is_4 h) ob_13 rfl tw_1014 tw_87 tw_1058 tw_1012 tw_1013 dX2_endOfSingle_150 ⟨by decide +kernel, by decide +kernel, by decide +kernel⟩ ⟨rfl, rfl⟩ ⟨Nat.le_of_ble_eq_true rfl, Nat.le_of_ble_eq_true rfl⟩ rfl (Nat.le_of_ble_eq_true rfl) ⟨Nat.zero_le _, Nat.zero_le _⟩ (fun r4 w4 hf => ?_)
    refine V_if_eq X (tgt := 172) dX2_endOfSingle_153 (by decide) hf (fun hf => ?_) (fun hf => ?_)
    · refine V_iconst X dX2_endOfSingle_172 ?_
      exact V_iret X hE dX2_endOfSingle_173 hf
    · refine V_gload_n X dX2_endOfSingle_156 rfl rfl ?_
      refine V_geti X ob_39 rfl rfl hin_X2 14 (Nat.le_of_ble_eq_true rfl) tw_222 rfl dX2_endOfSingle_157 ?_
      refine V_gload_n X dX2_endOfSingle_160 rfl rfl ?_
      refine V_getr X ob_39 rfl rfl hin_X2 1 (Nat.le_of_ble_eq_true rfl) tw_207 rfl dX2_endOfSingle_161 ?_
      refine V_iload_n X dX2_endOfSingle_164 rfl rfl ?_
      refine V_cVI X hf [vi r1] _ 1 (fun _ h => m_X6_length is_4 h) ob_4 rfl tw_466 tw_87 tw_1025 tw_464 tw_465 dX2_endOfSingle_165 ⟨by decide +kernel, by decide +kernel, by decide +kernel⟩ ⟨rfl, rfl⟩ ⟨Nat.le_of_ble_eq_true rfl, Nat.le_of_ble_eq_true rfl⟩ rfl (Nat.le_of_ble_eq_true rfl) ⟨Nat.zero_le _, Nat.zero_le _⟩ (fun r5 w5 hf => ?_)
      refine V_iadd X dX2_endOfSingle_168 ?_
      refine V_goto X (tgt := 173) dX2_endOfSingle_169 (by decide) ?_
      exact V_iret X hE dX2_endOfSingle_173 hf
  refine ite_c hf (fun h3 hf => ?_) (fun h3 hf => ?_)
  · refine V_lookup X (off := 394) (tgt := 423) dX2_endOfSingle_29 (by decide) (by exact off_neg h0 (off_neg h1 (off_neg h2 (off_pos h3)))) (by decide) ?_
    refine V_gload_n X dX2_endOfSingle_423 rfl rfl ?_
    refine V_geti X ob_39 rfl rfl hin_X2 10 (Nat.le_of_ble_eq_true rfl) tw_216 rfl dX2_endOfSingle_424 ?_
    exact V_iret X hE dX2_endOfSingle_427 hf
  refine ite_c hf (fun h4 hf => ?_) (fun h4 hf => ?_)
  · refine V_lookup X (off := 183) (tgt := 212) dX2_endOfSingle_29 (by decide) (by exact off_neg h0 (off_neg h1 (off_neg h2 (off_neg h3 (off_pos h4))))) (by decide) ?_
    refine V_gload_n X dX2_endOfSingle_212 rfl rfl ?_
    refine V_geti X ob_39 rfl rfl hin_X2 14 (Nat.le_of_ble_eq_true rfl) tw_222 rfl dX2_endOfSingle_213 ?_
    refine V_gload_n X dX2_endOfSingle_216 rfl rfl ?_
    refine V_geti X ob_39 rfl rfl hin_X2 10 (Nat.le_of_ble_eq_true rfl) tw_216 rfl dX2_endOfSingle_217 ?_
    refine V_icmp_ge X (tgt := 255) dX2_endOfSingle_220 (by decide) hf (fun hf => ?_) (fun hf => ?_)
    · refine V_gload_n X dX2_endOfSingle_223 rfl rfl ?_
      refine V_getr X ob_39 rfl rfl hin_X2 1 (Nat.le_of_ble_eq_true rfl) tw_207 rfl dX2_endOfSingle_224 ?_
      refine V_iload_n X dX2_endOfSingle_227 rfl rfl ?_
      refine V_gload_n X dX2_endOfSingle_228 rfl rfl ?_
      refine V_getr X ob_39 rfl rfl hin_X2 3 (Nat.le_of_ble_eq_true rfl) tw_209 rfl dX2_endOfSingle_229 ?_
      refine V_iconst X dX2_endOfSingle_232 ?_
      refine V_gload_n X dX2_endOfSingle_233 rfl rfl ?_
      refine V_geti X ob_39 rfl rfl hin_X2 14 (Nat.le_of_ble_eq_true rfl) tw_222 rfl dX2_endOfSingle_234 ?_
      refine V_cVI X hf [vi 0, vi (w2 39 14)] _ 2 (fun _ h => m_X6_sign is_13 h) ob_13 rfl tw_488 tw_87 tw_1059 tw_486 tw_487 dX2_endOfSingle_237 ⟨by decide +kernel, by decide +kernel, by decide +kernel⟩ ⟨rfl, rfl⟩ ⟨Nat.le_of_ble_eq_true rfl, Nat.le_of_ble_eq_true rfl⟩ rfl (Nat.le_of_ble_eq_true rfl) ⟨Nat.zero_le _, Nat.zero_le _⟩ (fun r6 w6 hf => ?_)
      refine V_cVI X hf [vi r1, vi r6] _ 2 (fun _ h => m_X6_contains is_4 h) ob_4 rfl tw_1063 tw_87 tw_1060 tw_1061 tw_1062 dX2_endOfSingle_240 ⟨by decide +kernel, by decide +kernel, by decide +kernel⟩ ⟨rfl, rfl⟩ ⟨Nat.le_of_ble_eq_true rfl, Nat.le_of_ble_eq_true rfl⟩ rfl (Nat.le_of_ble_eq_true rfl) ⟨Nat.zero_le _, Nat.zero_le _⟩ (fun r7 w7 hf => ?_)
      refine V_if_eq X (tgt := 255) dX2_endOfSingle_243 (by decide) hf (fun hf => ?_) (fun hf => ?_)
      · refine V_iconst X dX2_endOfSingle_255 ?_
        exact V_iret X hE dX2_endOfSingle_256 hf
      · refine V_gload_n X dX2_endOfSingle_246 rfl rfl ?_
        refine V_geti X ob_39 rfl rfl hin_X2 14 (Nat.le_of_ble_eq_true rfl) tw_222 rfl dX2_endOfSingle_247 ?_
        refine V_iconst X dX2_endOfSingle_250 ?_
        refine V_iadd X dX2_endOfSingle_251 ?_
        refine V_goto X (tgt := 256) dX2_endOfSingle_252 (by decide) ?_
        exact V_iret X hE dX2_endOfSingle_256 hf
    · refine V_iconst X dX2_endOfSingle_255 ?_
      exact V_iret X hE dX2_endOfSingle_256 hf
  refine ite_c hf (fun h5 hf => ?_) (fun h5 hf => ?_)
  · refine V_lookup X (off := 228) (tgt := 257) dX2_endOfSingle_29 (by decide) (by exact off_neg h0 (off_neg h1 (off_neg h2 (off_neg h3 (off_neg h4 (off_pos h5)))))) (by decide) ?_
    refine V_gload_n X dX2_endOfSingle_257 rfl rfl ?_
    refine V_geti X ob_39 rfl rfl hin_X2 14 (Nat.le_of_ble_eq_true rfl) tw_222 rfl dX2_endOfSingle_258 ?_
    refine V_gload_n X dX2_endOfSingle_261 rfl rfl ?_
    refine V_geti X ob_39 rfl rfl hin_X2 10 (Nat.le_of_ble_eq_true rfl) tw_216 rfl dX2_endOfSingle_262 ?_
    refine V_icmp_ge X (tgt := 300) dX2_endOfSingle_265 (by decide) hf (fun hf => ?_) (fun hf => ?_)
    · refine V_gload_n X dX2_endOfSingle_268 rfl rfl ?_
      refine V_getr X ob_39 rfl rfl hin_X2 1 (Nat.le_of_ble_eq_true rfl) tw_207 rfl dX2_endOfSingle_269 ?_
      refine V_iload_n X dX2_endOfSingle_272 rfl rfl ?_
      refine V_gload_n X dX2_endOfSingle_273 rfl rfl ?_
      refine V_getr X ob_39 rfl rfl hin_X2 3 (Nat.le_of_ble_eq_true rfl) tw_209 rfl dX2_endOfSingle_274 ?_
      refine V_iconst X dX2_endOfSingle_277 ?_
      refine V_gload_n X dX2_endOfSingle_278 rfl rfl ?_
      refine V_geti X ob_39 rfl rfl hin_X2 14 (Nat.le_of_ble_eq_true rfl) tw_222 rfl dX2_endOfSingle_279 ?_
      refine V_cVI X hf [vi 0, vi (w2 39 14)] _ 2 (fun _ h => m_X6_sign is_13 h) ob_13 rfl tw_488 tw_87 tw_1059 tw_486 tw_487 dX2_endOfSingle_282 ⟨by decide +kernel, by decide +kernel, by decide +kernel⟩ ⟨rfl, rfl⟩ ⟨Nat.le_of_ble_eq_true rfl, Nat.le_of_ble_eq_true rfl⟩ rfl (Nat.le_of_ble_eq_true rfl) ⟨Nat.zero_le _, Nat.zero_le _⟩ (fun r8 w8 hf => ?_)
      refine V_cVI X hf [vi r1, vi r8] _ 2 (fun _ h => m_X6_contains is_4 h) ob_4 rfl tw_1063 tw_87 tw_1060 tw_1061 tw_1062 dX2_endOfSingle_285 ⟨by decide +kernel, by decide +kernel, by decide +kernel⟩ ⟨rfl, rfl⟩ ⟨Nat.le_of_ble_eq_true rfl, Nat.le_of_ble_eq_true rfl⟩ rfl (Nat.le_of_ble_eq_true rfl) ⟨Nat.zero_le _, Nat.zero_le _⟩ (fun r9 w9 hf => ?_)
      refine V_if_ne X (tgt := 300) dX2_endOfSingle_288 (by decide) hf (fun hf => ?_) (fun hf => ?_)
      · refine V_gload_n X dX2_endOfSingle_291 rfl rfl ?_
        refine V_geti X ob_39 rfl rfl hin_X2 14 (Nat.le_of_ble_eq_true rfl) tw_222 rfl dX2_endOfSingle_292 ?_
        refine V_iconst X dX2_endOfSingle_295 ?_
        refine V_iadd X dX2_endOfSingle_296 ?_
        refine V_goto X (tgt := 301) dX2_endOfSingle_297 (by decide) ?_
        exact V_iret X hE dX2_endOfSingle_301 hf
      · refine V_iconst X dX2_endOfSingle_300 ?_
        exact V_iret X hE dX2_endOfSingle_301 hf
    · refine V_iconst X dX2_endOfSingle_300 ?_
      exact V_iret X hE dX2_endOfSingle_301 hf
  refine ite_c hf (fun h6 hf => ?_) (fun h6 hf => ?_)
  · refine V_lookup X (off := 355) (tgt := 384) dX2_endOfSingle_29 (by decide) (by exact off_neg h0 (off_neg h1 (off_neg h2 (off_neg h3 (off_neg h4 (off_neg h5 (off_pos h6))))))) (by decide) ?_
    refine V_gload_n X dX2_endOfSingle_384 rfl rfl ?_
    refine V_geti X ob_39 rfl rfl hin_X2 14 (Nat.le_of_ble_eq_true rfl) tw_222 rfl dX2_endOfSingle_385 ?_
    refine V_iload_n X dX2_endOfSingle_388 rfl rfl ?_
    refine V_icmp_ne X (tgt := 399) dX2_endOfSingle_389 (by decide) hf (fun hf => ?_) (fun hf => ?_)
    · refine V_gload_n X dX2_endOfSingle_392 rfl rfl ?_
      refine V_geti X ob_39 rfl rfl hin_X2 14 (Nat.le_of_ble_eq_true rfl) tw_222 rfl dX2_endOfSingle_393 ?_
      refine V_goto X (tgt := 400) dX2_endOfSingle_396 (by decide) ?_
      exact V_iret X hE dX2_endOfSingle_400 hf
    · refine V_iconst X dX2_endOfSingle_399 ?_
      exact V_iret X hE dX2_endOfSingle_400 hf
  refine ite_c hf (fun h7 hf => ?_) (fun h7 hf => ?_)
  · refine V_lookup X (off := 372) (tgt := 401) dX2_endOfSingle_29 (by decide) (by exact off_neg h0 (off_neg h1 (off_neg h2 (off_neg h3 (off_neg h4 (off_neg h5 (off_neg h6 (off_pos h7)))))))) (by decide) ?_
    refine V_gload_n X dX2_endOfSingle_401 rfl rfl ?_
    refine V_geti X ob_39 rfl rfl hin_X2 14 (Nat.le_of_ble_eq_true rfl) tw_222 rfl dX2_endOfSingle_402 ?_
    refine V_gload_n X dX2_endOfSingle_405 rfl rfl ?_
    refine V_geti X ob_39 rfl rfl hin_X2 10 (Nat.le_of_ble_eq_true rfl) tw_216 rfl dX2_endOfSingle_406 ?_
    refine V_iload_n X dX2_endOfSingle_409 rfl rfl ?_
    refine V_isub X dX2_endOfSingle_410 ?_
    refine V_icmp_ne X (tgt := 421) dX2_endOfSingle_411 (by decide) hf (fun hf => ?_) (fun hf => ?_)
    · refine V_gload_n X dX2_endOfSingle_414 rfl rfl ?_
      refine V_geti X ob_39 rfl rfl hin_X2 14 (Nat.le_of_ble_eq_true rfl) tw_222 rfl dX2_endOfSingle_415 ?_
      refine V_goto X (tgt := 422) dX2_endOfSingle_418 (by decide) ?_
      exact V_iret X hE dX2_endOfSingle_422 hf
    · refine V_iconst X dX2_endOfSingle_421 ?_
      exact V_iret X hE dX2_endOfSingle_422 hf
  refine ite_c hf (fun h8 hf => ?_) (fun h8 hf => ?_)
  · refine V_lookup X (off := 331) (tgt := 360) dX2_endOfSingle_29 (by decide) (by exact off_neg h0 (off_neg h1 (off_neg h2 (off_neg h3 (off_neg h4 (off_neg h5 (off_neg h6 (off_neg h7 (off_pos h8))))))))) (by decide) ?_
    refine V_gload_n X dX2_endOfSingle_360 rfl rfl ?_
    refine V_geti X ob_39 rfl rfl hin_X2 10 (Nat.le_of_ble_eq_true rfl) tw_216 rfl dX2_endOfSingle_361 ?_
    refine V_iload_n X dX2_endOfSingle_364 rfl rfl ?_
    refine V_isub X dX2_endOfSingle_365 ?_
    refine V_gload_n X dX2_endOfSingle_366 rfl rfl ?_
    refine V_geti X ob_39 rfl rfl hin_X2 14 (Nat.le_of_ble_eq_true rfl) tw_222 rfl dX2_endOfSingle_367 ?_
    refine V_icmp_lt X (tgt := 382) dX2_endOfSingle_370 (by decide) hf (fun hf => ?_) (fun hf => ?_)
    · refine V_iconst X dX2_endOfSingle_382 ?_
      exact V_iret X hE dX2_endOfSingle_383 hf
    · refine V_gload_n X dX2_endOfSingle_373 rfl rfl ?_
      refine V_geti X ob_39 rfl rfl hin_X2 10 (Nat.le_of_ble_eq_true rfl) tw_216 rfl dX2_endOfSingle_374 ?_
      refine V_iload_n X dX2_endOfSingle_377 rfl rfl ?_
      refine V_isub X dX2_endOfSingle_378 ?_
      refine V_goto X (tgt := 383) dX2_endOfSingle_379 (by decide) ?_
      exact V_iret X hE dX2_endOfSingle_383 hf
  refine ite_c hf (fun h9 hf => ?_) (fun h9 hf => ?_)
  · refine V_lookup X (off := 273) (tgt := 302) dX2_endOfSingle_29 (by decide) (by exact off_neg h0 (off_neg h1 (off_neg h2 (off_neg h3 (off_neg h4 (off_neg h5 (off_neg h6 (off_neg h7 (off_neg h8 (off_pos h9)))))))))) (by decide) ?_
    refine V_gload_n X dX2_endOfSingle_302 rfl rfl ?_
    refine V_iload_n X dX2_endOfSingle_303 rfl rfl ?_
    refine V_cVI X hf [vi r1] _ 1 (fun _ h => m_X2_endOfSpan h) ob_39 rfl tw_1067 tw_90 tw_1064 tw_1066 tw_20 dX2_endOfSingle_304 ⟨by decide +kernel, by decide +kernel, by decide +kernel⟩ ⟨rfl, rfl⟩ ⟨Nat.le_of_ble_eq_true rfl, Nat.le_of_ble_eq_true rfl⟩ rfl (Nat.le_of_ble_eq_true rfl) ⟨Nat.zero_le _, Nat.zero_le _⟩ (fun r10 w10 hf => ?_)
    exact V_iret X hE dX2_endOfSingle_307 hf
  refine ite_c hf (fun h10 hf => ?_) (fun h10 hf => ?_)
  · refine V_lookup X (off := 309) (tgt := 338) dX2_endOfSingle_29 (by decide) (by exact off_neg h0 (off_neg h1 (off_neg h2 (off_neg h3 (off_neg h4 (off_neg h5 (off_neg h6 (off_neg h7 (off_neg h8 (off_neg h9 (off_pos h10))))))))))) (by decide) ?_
    refine V_iload_n X dX2_endOfSingle_338 rfl rfl ?_
    refine V_gload_n X dX2_endOfSingle_339 rfl rfl ?_
    refine V_geti X ob_39 rfl rfl hin_X2 14 (Nat.le_of_ble_eq_true rfl) tw_222 rfl dX2_endOfSingle_340 ?_
    refine V_icmp_lt X (tgt := 358) dX2_endOfSingle_343 (by decide) hf (fun hf => ?_) (fun hf => ?_)
    · refine V_iconst X dX2_endOfSingle_358 ?_
      exact V_iret X hE dX2_endOfSingle_359 hf
    · refine V_iload_n X dX2_endOfSingle_346 rfl rfl ?_
      refine V_gload_n X dX2_endOfSingle_347 rfl rfl ?_
      refine V_geti X ob_39 rfl rfl hin_X2 10 (Nat.le_of_ble_eq_true rfl) tw_216 rfl dX2_endOfSingle_348 ?_
      refine V_icmp_gt X (tgt := 358) dX2_endOfSingle_351 (by decide) hf (fun hf => ?_) (fun hf => ?_)
      · refine V_iconst X dX2_endOfSingle_358 ?_
        exact V_iret X hE dX2_endOfSingle_359 hf
      · refine V_iload_n X dX2_endOfSingle_354 rfl rfl ?_
        refine V_goto X (tgt := 359) dX2_endOfSingle_355 (by decide) ?_
        exact V_iret X hE dX2_endOfSingle_359 hf
  refine ite_c hf (fun h11 hf => ?_) (fun h11 hf => ?_)
  · refine V_lookup X (off := 145) (tgt := 174) dX2_endOfSingle_29 (by decide) (by exact off_neg h0 (off_neg h1 (off_neg h2 (off_neg h3 (off_neg h4 (off_neg h5 (off_neg h6 (off_neg h7 (off_neg h8 (off_neg h9 (off_neg h10 (off_pos h11)))))))))))) (by decide) ?_
    refine V_gload_n X dX2_endOfSingle_174 rfl rfl ?_
    refine V_getr X ob_39 rfl rfl hin_X2 3 (Nat.le_of_ble_eq_true rfl) tw_209 rfl dX2_endOfSingle_175 ?_
    refine V_iconst X dX2_endOfSingle_178 ?_
    refine V_gload_n X dX2_endOfSingle_179 rfl rfl ?_
    refine V_geti X ob_39 rfl rfl hin_X2 14 (Nat.le_of_ble_eq_true rfl) tw_222 rfl dX2_endOfSingle_180 ?_
    refine V_gload_n X dX2_endOfSingle_183 rfl rfl ?_
    refine V_getr X ob_39 rfl rfl hin_X2 2 (Nat.le_of_ble_eq_true rfl) tw_208 rfl dX2_endOfSingle_184 ?_
    refine V_iload_n X dX2_endOfSingle_187 rfl rfl ?_
    refine V_cVI X hf [vi 0, vi (w2 39 14), gr G 7, vi r1] _ 4 (fun _ h => m_X6_hasThere is_13 is_7 h) ob_13 rfl tw_1014 tw_87 tw_1058 tw_1012 tw_1013 dX2_endOfSingle_188 ⟨by decide +kernel, by decide +kernel, by decide +kernel⟩ ⟨rfl, rfl⟩ ⟨Nat.le_of_ble_eq_true rfl, Nat.le_of_ble_eq_true rfl⟩ rfl (Nat.le_of_ble_eq_true rfl) ⟨Nat.zero_le _, Nat.zero_le _⟩ (fun r11 w11 hf => ?_)
    refine V_if_eq X (tgt := 210) dX2_endOfSingle_191 (by decide) hf (fun hf => ?_) (fun hf => ?_)
    · refine V_iconst X dX2_endOfSingle_210 ?_
      exact V_iret X hE dX2_endOfSingle_211 hf
    · refine V_gload_n X dX2_endOfSingle_194 rfl rfl ?_
      refine V_geti X ob_39 rfl rfl hin_X2 14 (Nat.le_of_ble_eq_true rfl) tw_222 rfl dX2_endOfSingle_195 ?_
      refine V_gload_n X dX2_endOfSingle_198 rfl rfl ?_
      refine V_getr X ob_39 rfl rfl hin_X2 2 (Nat.le_of_ble_eq_true rfl) tw_208 rfl dX2_endOfSingle_199 ?_
      refine V_iload_n X dX2_endOfSingle_202 rfl rfl ?_
      refine V_cVI X hf [vi r1] _ 1 (fun _ h => m_X6_length is_7 h) ob_7 rfl tw_466 tw_87 tw_1025 tw_464 tw_465 dX2_endOfSingle_203 ⟨by decide +kernel, by decide +kernel, by decide +kernel⟩ ⟨rfl, rfl⟩ ⟨Nat.le_of_ble_eq_true rfl, Nat.le_of_ble_eq_true rfl⟩ rfl (Nat.le_of_ble_eq_true rfl) ⟨Nat.zero_le _, Nat.zero_le _⟩ (fun r12 w12 hf => ?_)
      refine V_iadd X dX2_endOfSingle_206 ?_
      refine V_goto X (tgt := 211) dX2_endOfSingle_207 (by decide) ?_
      exact V_iret X hE dX2_endOfSingle_211 hf
  refine V_lookup X (off := 399) (tgt := 428) dX2_endOfSingle_29 (by decide) (by exact off_neg h0 (off_neg h1 (off_neg h2 (off_neg h3 (off_neg h4 (off_neg h5 (off_neg h6 (off_neg h7 (off_neg h8 (off_neg h9 (off_neg h10 (off_neg h11 (rfl))))))))))))) (by decide) ?_
  refine V_iconst X dX2_endOfSingle_428 ?_
  exact V_iret X hE dX2_endOfSingle_429 hf
abbrev rmX2_goTo : Room := { frames := 0, cells := 0, slots := 0, locals := 0 }
set_option maxRecDepth 20000 in
theorem m_X2_goTo {G : GG} {a1 : Int} {w : WS} {q : (Int × WS)}  (hf : f_X2_goTo a1 w = some q) : MI G yX2_goTo cX2_goTo 2 (some .int) rmX2_goTo [gr G 39, vi a1] w q := by
  refine MI_of (by decide +kernel) (Nat.le_of_ble_eq_true rfl) (fun E X hE => ?_)
  have X : Cx G E cX2_goTo RX2 (some .int) rmX2_goTo 2 := X
  unfold f_X2_goTo at hf
  refine V_iload_n X dX2_goTo_0 rfl rfl ?_
  refine V_iconst X dX2_goTo_1 ?_
  refine V_icmp_ne X (tgt := 8) dX2_goTo_2 (by decide) hf (fun hf => ?_) (fun hf => ?_)
  · refine V_bipush X dX2_goTo_5 (by decide) ?_
    exact V_iret X hE dX2_goTo_7 hf
  · refine V_gload_n X dX2_goTo_8 rfl rfl ?_
    refine V_iload_n X dX2_goTo_9 rfl rfl ?_
    refine V_puti X ob_39 rfl rfl hin_X2 14 (Nat.le_of_ble_eq_true rfl) tw_222 tyX2 tyX2_ok nmX2 rfl (by decide +kernel) rfl dX2_goTo_10 ?_
    refine V_bipush X dX2_goTo_13 (by decide) ?_
    exact V_iret X hE dX2_goTo_15 hf
abbrev rmX2_balance : Room := { frames := 1, cells := 0, slots := 0, locals := 23 }
set_option maxRecDepth 20000 in
theorem v_X2_balance_47 {G : GG} {E : EE} (X : Cx G E cX2_balance RX2 (some .int) rmX2_balance 4) {q : (Int × WS)} (hE : EndI G E q)   {k7 : Int → Int → WS → Option (Int × WS)} (hk7 : ∀ (a1 a2 : Int) (w : WS), k7 a1 a2 w = some q → VV G E 0 0 7 [(0, gr G 39), (1, vi a1), (2, vi a2)] [] w) {a2 s0 s1 : Int} {w : WS} (hf : f_X2_balance_47  k7 a2 s0 s1 w = some q) : VV G E 0 0 47 [(0, gr G 39), (2, vi a2)] [vi s0, vi s1] w := by
  unfold f_X2_balance_47 at hf
  refine V_iadd X dX2_balance_47 ?_
  refine V_istore_n X dX2_balance_48 rfl (by decide) ?_
  refine V_iload_n X dX2_balance_49 rfl rfl ?_
  refine V_if_ge X (tgt := 56) dX2_balance_50 (by decide) hf (fun hf => ?_) (fun hf => ?_)
  · refine V_bipush X dX2_balance_53 (by decide) ?_
    exact V_iret X hE dX2_balance_55 hf
  · refine V_iload_n X dX2_balance_56 rfl rfl ?_
    refine V_if_ne X (tgt := 70) dX2_balance_57 (by decide) hf (fun hf => ?_) (fun hf => ?_)
    · refine V_gload_n X dX2_balance_60 rfl rfl ?_
      refine V_iload_n X dX2_balance_61 rfl rfl ?_
      refine V_iconst X dX2_balance_62 ?_
      refine V_iadd X dX2_balance_63 ?_
      refine V_puti X ob_39 rfl rfl hin_X2 14 (Nat.le_of_ble_eq_true rfl) tw_222 tyX2 tyX2_ok nmX2 rfl (by decide +kernel) rfl dX2_balance_64 ?_
      refine V_bipush X dX2_balance_67 (by decide) ?_
      exact V_iret X hE dX2_balance_69 hf
    · refine V_iinc X dX2_balance_70 rfl (by decide) ?_
      refine V_goto X (tgt := 7) dX2_balance_73 (by decide) ?_
      exact V_cut [0, 1, 2] rfl (hk7 _ _ _ hf)
set_option maxRecDepth 20000 in
theorem v_X2_balance_7 {G : GG} {E : EE} (X : Cx G E cX2_balance RX2 (some .int) rmX2_balance 4) {q : (Int × WS)} (hE : EndI G E q)   : ∀ (n : Nat) (a1 a2 : Int) (w : WS), f_X2_balance_7   n a1 a2 w = some q → VV G E 0 0 7 [(0, gr G 39), (1, vi a1), (2, vi a2)] [] w := by
  intro n
  induction n with
  | zero => intro a1 a2 w hf; cases hf
  | succ n ih =>
    intro a1 a2 w hf
    rw [f_X2_balance_7_s] at hf
    refine V_iload_n X dX2_balance_7 rfl rfl ?_
    refine V_gload_n X dX2_balance_8 rfl rfl ?_
    refine V_geti X ob_39 rfl rfl hin_X2 10 (Nat.le_of_ble_eq_true rfl) tw_216 rfl dX2_balance_9 ?_
    refine V_icmp_ge X (tgt := 76) dX2_balance_12 (by decide) hf (fun hf => ?_) (fun hf => ?_)
    · refine V_gload_n X dX2_balance_15 rfl rfl ?_
      refine V_getr X ob_39 rfl rfl hin_X2 3 (Nat.le_of_ble_eq_true rfl) tw_209 rfl dX2_balance_16 ?_
      refine V_iconst X dX2_balance_19 ?_
      refine V_iload_n X dX2_balance_20 rfl rfl ?_
      refine V_cVI X hf [vi 0, vi a2] _ 2 (fun _ h => m_X6_sign is_13 h) ob_13 rfl tw_488 tw_87 tw_1059 tw_486 tw_487 dX2_balance_21 ⟨by decide +kernel, by decide +kernel, by decide +kernel⟩ ⟨rfl, rfl⟩ ⟨Nat.le_of_ble_eq_true rfl, Nat.le_of_ble_eq_true rfl⟩ rfl (Nat.le_of_ble_eq_true rfl) ⟨Nat.zero_le _, Nat.zero_le _⟩ (fun r1 w1 hf => ?_)
      refine V_istore_n X dX2_balance_24 rfl (by decide) ?_
      refine V_iload_n X dX2_balance_25 rfl rfl ?_
      refine V_iload_n X dX2_balance_26 rfl rfl ?_
      refine V_bipush X dX2_balance_27 (by decide) ?_
      refine V_icmp_ne X (tgt := 36) dX2_balance_29 (by decide) hf (fun hf => ?_) (fun hf => ?_)
      · refine V_iconst X dX2_balance_32 ?_
        refine V_goto X (tgt := 47) dX2_balance_33 (by decide) ?_
        exact V_cut [0, 2] rfl (v_X2_balance_47 X hE (fun x0 x1 x hf => ih x0 x1 x hf) hf)
      · refine V_iload_n X dX2_balance_36 rfl rfl ?_
        refine V_bipush X dX2_balance_37 (by decide) ?_
        refine V_icmp_ne X (tgt := 46) dX2_balance_39 (by decide) hf (fun hf => ?_) (fun hf => ?_)
        · refine V_iconst X dX2_balance_42 ?_
          refine V_goto X (tgt := 47) dX2_balance_43 (by decide) ?_
          exact V_cut [0, 2] rfl (v_X2_balance_47 X hE (fun x0 x1 x hf => ih x0 x1 x hf) hf)
        · refine V_iconst X dX2_balance_46 ?_
          exact V_cut [0, 2] rfl (v_X2_balance_47 X hE (fun x0 x1 x hf => ih x0 x1 x hf) hf)
    · refine V_bipush X dX2_balance_76 (by decide) ?_
      exact V_iret X hE dX2_balance_78 hf
set_option maxRecDepth 20000 in
theorem m_X2_balance {G : GG}  {w : WS} {q : (Int × WS)}  (hf : f_X2_balance  w = some q) : MI G yX2_balance cX2_balance 4 (some .int) rmX2_balance [gr G 39] w q := by
  refine MI_of (by decide +kernel) (Nat.le_of_ble_eq_true rfl) (fun E X hE => ?_)
  have X : Cx G E cX2_balance RX2 (some .int) rmX2_balance 4 := X
  unfold f_X2_balance at hf
  refine V_iconst X dX2_balance_0 ?_
  refine V_istore_n X dX2_balance_1 rfl (by decide) ?_
  refine V_gload_n X dX2_balance_2 rfl rfl ?_
  refine V_geti X ob_39 rfl rfl hin_X2 14 (Nat.le_of_ble_eq_true rfl) tw_222 rfl dX2_balance_3 ?_
  refine V_istore_n X dX2_balance_6 rfl (by decide) ?_
  exact V_cut [0, 1, 2] rfl (v_X2_balance_7 X hE FU _ _ _ hf)
abbrev rmX2_capture : Room := { frames := 1, cells := 0, slots := 0, locals := 31 }
set_option maxRecDepth 20000 in
theorem m_X2_capture {G : GG} {a1 : Int} {a2 : Int} {a3 : Int} {w : WS} {q : (Int × WS)}  (hf : f_X2_capture a1 a2 a3 w = some q) : MV G yX2_capture cX2_capture 4 none rmX2_capture [gr G 39, vi a1, vi a2, vi a3] w q := by
  refine MV_of (by decide +kernel) (Nat.le_of_ble_eq_true rfl) (fun E X hE => ?_)
  have X : Cx G E cX2_capture RX2 none rmX2_capture 4 := X
  unfold f_X2_capture at hf
  refine V_gload_n X dX2_capture_0 rfl rfl ?_
  refine V_getr X ob_39 rfl rfl hin_X2 2 (Nat.le_of_ble_eq_true rfl) tw_208 rfl dX2_capture_1 ?_
  refine V_iload_n X dX2_capture_4 rfl rfl ?_
  refine V_cVV X hf [vi a1] _ 1 (fun _ h => m_X6_clear is_7 h) ob_7 rfl tw_470 tw_87 tw_1100 tw_468 tw_469 dX2_capture_5 ⟨by decide +kernel, by decide +kernel, by decide +kernel⟩ ⟨rfl, rfl⟩ ⟨Nat.le_of_ble_eq_true rfl, Nat.le_of_ble_eq_true rfl⟩ rfl (Nat.le_of_ble_eq_true rfl) ⟨Nat.zero_le _, Nat.zero_le _⟩ (fun r1 w1 hf => ?_)
  refine V_gload_n X dX2_capture_8 rfl rfl ?_
  refine V_getr X ob_39 rfl rfl hin_X2 2 (Nat.le_of_ble_eq_true rfl) tw_208 rfl dX2_capture_9 ?_
  refine V_iload_n X dX2_capture_12 rfl rfl ?_
  refine V_gload_n X dX2_capture_13 rfl rfl ?_
  refine V_getr X ob_39 rfl rfl hin_X2 3 (Nat.le_of_ble_eq_true rfl) tw_209 rfl dX2_capture_14 ?_
  refine V_iconst X dX2_capture_17 ?_
  refine V_iload_n X dX2_capture_18 rfl rfl ?_
  refine V_iload_n X dX2_capture_19 rfl rfl ?_
  refine V_cVI X hf [vi a1, gr G 13, vi 0, vi a2, vi a3] _ 5 (fun _ h => m_X6_append is_7 is_13 h) ob_7 rfl tw_641 tw_87 tw_1101 tw_639 tw_640 dX2_capture_20 ⟨by decide +kernel, by decide +kernel, by decide +kernel⟩ ⟨rfl, rfl⟩ ⟨Nat.le_of_ble_eq_true rfl, Nat.le_of_ble_eq_true rfl⟩ rfl (Nat.le_of_ble_eq_true rfl) ⟨Nat.zero_le _, Nat.zero_le _⟩ (fun r2 w2 hf => ?_)
  refine V_pop X dX2_capture_23 rfl ?_
  exact V_vret X hE dX2_capture_24 hf
abbrev rmX2_goOn : Room := { frames := 2, cells := 0, slots := 0, locals := 54 }
set_option maxRecDepth 20000 in
theorem m_X2_goOn {G : GG}  {w : WS} {q : (Int × WS)}  (hf : f_X2_goOn  w = some q) : MI G yX2_goOn cX2_goOn 2 (some .int) rmX2_goOn [gr G 39] w q := by
  refine MI_of (by decide +kernel) (Nat.le_of_ble_eq_true rfl) (fun E X hE => ?_)
  have X : Cx G E cX2_goOn RX2 (some .int) rmX2_goOn 2 := X
  unfold f_X2_goOn at hf
  refine V_gload_n X dX2_goOn_0 rfl rfl ?_
  refine V_geti X ob_39 rfl rfl hin_X2 15 (Nat.le_of_ble_eq_true rfl) tw_224 rfl dX2_goOn_1 ?_
  refine V_iconst X dX2_goOn_4 ?_
  refine V_icmp_ne X (tgt := 10) dX2_goOn_5 (by decide) hf (fun hf => ?_) (fun hf => ?_)
  · refine V_iconst X dX2_goOn_8 ?_
    exact V_iret X hE dX2_goOn_9 hf
  · refine V_gload_n X dX2_goOn_10 rfl rfl ?_
    refine V_gload_n X dX2_goOn_11 rfl rfl ?_
    refine V_getr X ob_39 rfl rfl hin_X2 4 (Nat.le_of_ble_eq_true rfl) tw_210 rfl dX2_goOn_12 ?_
    refine V_gload_n X dX2_goOn_15 rfl rfl ?_
    refine V_geti X ob_39 rfl rfl hin_X2 15 (Nat.le_of_ble_eq_true rfl) tw_224 rfl dX2_goOn_16 ?_
    refine V_cVI X hf [vi (w 39 15)] _ 1 (fun _ h => m_X3_first is_40 h) ob_40 rfl tw_1087 tw_91 tw_1084 tw_1085 tw_1086 dX2_goOn_19 ⟨by decide +kernel, by decide +kernel, by decide +kernel⟩ ⟨rfl, rfl⟩ ⟨Nat.le_of_ble_eq_true rfl, Nat.le_of_ble_eq_true rfl⟩ rfl (Nat.le_of_ble_eq_true rfl) ⟨Nat.zero_le _, Nat.zero_le _⟩ (fun r1 w1 hf => ?_)
    refine V_puti X ob_39 rfl rfl hin_X2 13 (Nat.le_of_ble_eq_true rfl) tw_221 tyX2 tyX2_ok nmX2 rfl (by decide +kernel) rfl dX2_goOn_22 ?_
    refine V_gload_n X dX2_goOn_25 rfl rfl ?_
    refine V_getr X ob_39 rfl rfl hin_X2 4 (Nat.le_of_ble_eq_true rfl) tw_210 rfl dX2_goOn_26 ?_
    refine V_gload_n X dX2_goOn_29 rfl rfl ?_
    refine V_geti X ob_39 rfl rfl hin_X2 15 (Nat.le_of_ble_eq_true rfl) tw_224 rfl dX2_goOn_30 ?_
    refine V_cVI X hf [vi ((up w1 39 13 r1) 39 15)] _ 1 (fun _ h => m_X3_second is_40 h) ob_40 rfl tw_1091 tw_91 tw_1088 tw_1089 tw_1090 dX2_goOn_33 ⟨by decide +kernel, by decide +kernel, by decide +kernel⟩ ⟨rfl, rfl⟩ ⟨Nat.le_of_ble_eq_true rfl, Nat.le_of_ble_eq_true rfl⟩ rfl (Nat.le_of_ble_eq_true rfl) ⟨Nat.zero_le _, Nat.zero_le _⟩ (fun r2 w2 hf => ?_)
    refine V_istore_n X dX2_goOn_36 rfl (by decide) ?_
    refine V_gload_n X dX2_goOn_37 rfl rfl ?_
    refine V_gload_n X dX2_goOn_38 rfl rfl ?_
    refine V_getr X ob_39 rfl rfl hin_X2 4 (Nat.le_of_ble_eq_true rfl) tw_210 rfl dX2_goOn_39 ?_
    refine V_gload_n X dX2_goOn_42 rfl rfl ?_
    refine V_geti X ob_39 rfl rfl hin_X2 15 (Nat.le_of_ble_eq_true rfl) tw_224 rfl dX2_goOn_43 ?_
    refine V_cVI X hf [vi (w2 39 15)] _ 1 (fun _ h => m_X3_third is_40 h) ob_40 rfl tw_1095 tw_91 tw_1092 tw_1093 tw_1094 dX2_goOn_46 ⟨by decide +kernel, by decide +kernel, by decide +kernel⟩ ⟨rfl, rfl⟩ ⟨Nat.le_of_ble_eq_true rfl, Nat.le_of_ble_eq_true rfl⟩ rfl (Nat.le_of_ble_eq_true rfl) ⟨Nat.zero_le _, Nat.zero_le _⟩ (fun r3 w3 hf => ?_)
    refine V_puti X ob_39 rfl rfl hin_X2 15 (Nat.le_of_ble_eq_true rfl) tw_224 tyX2 tyX2_ok nmX2 rfl (by decide +kernel) rfl dX2_goOn_49 ?_
    refine V_gload_n X dX2_goOn_52 rfl rfl ?_
    refine V_getr X ob_39 rfl rfl hin_X2 0 (Nat.le_of_ble_eq_true rfl) tw_206 rfl dX2_goOn_53 ?_
    refine V_getrN X ob_25 rfl rfl hin_X0 1 (Nat.le_of_ble_eq_true rfl) nw_1 rfl dX2_goOn_56 ?_
    refine V_gload_n X dX2_goOn_59 rfl rfl ?_
    refine V_geti X ob_39 rfl rfl hin_X2 13 (Nat.le_of_ble_eq_true rfl) tw_221 rfl dX2_goOn_60 ?_
    refine V_cVI X hf [vi ((up w3 39 15 r3) 39 13)] _ 1 (fun _ h => m_X1_get is_26 h) ob_26 rfl tw_500 tw_89 tw_1035 tw_498 tw_499 dX2_goOn_63 ⟨by decide +kernel, by decide +kernel, by decide +kernel⟩ ⟨rfl, rfl⟩ ⟨Nat.le_of_ble_eq_true rfl, Nat.le_of_ble_eq_true rfl⟩ rfl (Nat.le_of_ble_eq_true rfl) ⟨Nat.zero_le _, Nat.zero_le _⟩ (fun r4 w4 hf => ?_)
    refine ite_c hf (fun h0 hf => ?_) (fun h0 hf => ?_)
    · refine V_lookup X (off := 53) (tgt := 119) dX2_goOn_66 (by decide) (by exact off_pos h0) (by decide) ?_
      refine V_gload_n X dX2_goOn_119 rfl rfl ?_
      refine V_gload_n X dX2_goOn_120 rfl rfl ?_
      refine V_getr X ob_39 rfl rfl hin_X2 0 (Nat.le_of_ble_eq_true rfl) tw_206 rfl dX2_goOn_121 ?_
      refine V_getrN X ob_25 rfl rfl hin_X0 3 (Nat.le_of_ble_eq_true rfl) nw_5 rfl dX2_goOn_124 ?_
      refine V_gload_n X dX2_goOn_127 rfl rfl ?_
      refine V_geti X ob_39 rfl rfl hin_X2 13 (Nat.le_of_ble_eq_true rfl) tw_221 rfl dX2_goOn_128 ?_
      refine V_cVI X hf [vi (w4 39 13)] _ 1 (fun _ h => m_X1_get is_30 h) ob_30 rfl tw_500 tw_89 tw_1035 tw_498 tw_499 dX2_goOn_131 ⟨by decide +kernel, by decide +kernel, by decide +kernel⟩ ⟨rfl, rfl⟩ ⟨Nat.le_of_ble_eq_true rfl, Nat.le_of_ble_eq_true rfl⟩ rfl (Nat.le_of_ble_eq_true rfl) ⟨Nat.zero_le _, Nat.zero_le _⟩ (fun r5 w5 hf => ?_)
      refine V_iload_n X dX2_goOn_134 rfl rfl ?_
      refine V_gload_n X dX2_goOn_135 rfl rfl ?_
      refine V_geti X ob_39 rfl rfl hin_X2 14 (Nat.le_of_ble_eq_true rfl) tw_222 rfl dX2_goOn_136 ?_
      refine V_cVV X hf [vi r5, vi r2, vi (w5 39 14)] _ 3 (fun _ h => m_X2_capture h) ob_39 rfl tw_1099 tw_90 tw_1096 tw_1098 tw_25 dX2_goOn_139 ⟨by decide +kernel, by decide +kernel, by decide +kernel⟩ ⟨rfl, rfl⟩ ⟨Nat.le_of_ble_eq_true rfl, Nat.le_of_ble_eq_true rfl⟩ rfl (Nat.le_of_ble_eq_true rfl) ⟨Nat.zero_le _, Nat.zero_le _⟩ (fun r6 w6 hf => ?_)
      refine V_bipush X dX2_goOn_142 (by decide) ?_
      exact V_iret X hE dX2_goOn_144 hf
    refine ite_c hf (fun h1 hf => ?_) (fun h1 hf => ?_)
    · refine V_lookup X (off := 34) (tgt := 100) dX2_goOn_66 (by decide) (by exact off_neg h0 (off_pos h1)) (by decide) ?_
      refine V_gload_n X dX2_goOn_100 rfl rfl ?_
      refine V_gload_n X dX2_goOn_101 rfl rfl ?_
      refine V_getr X ob_39 rfl rfl hin_X2 0 (Nat.le_of_ble_eq_true rfl) tw_206 rfl dX2_goOn_102 ?_
      refine V_getrN X ob_25 rfl rfl hin_X0 3 (Nat.le_of_ble_eq_true rfl) nw_5 rfl dX2_goOn_105 ?_
      refine V_gload_n X dX2_goOn_108 rfl rfl ?_
      refine V_geti X ob_39 rfl rfl hin_X2 13 (Nat.le_of_ble_eq_true rfl) tw_221 rfl dX2_goOn_109 ?_
      refine V_cVI X hf [vi (w4 39 13)] _ 1 (fun _ h => m_X1_get is_30 h) ob_30 rfl tw_500 tw_89 tw_1035 tw_498 tw_499 dX2_goOn_112 ⟨by decide +kernel, by decide +kernel, by decide +kernel⟩ ⟨rfl, rfl⟩ ⟨Nat.le_of_ble_eq_true rfl, Nat.le_of_ble_eq_true rfl⟩ rfl (Nat.le_of_ble_eq_true rfl) ⟨Nat.zero_le _, Nat.zero_le _⟩ (fun r7 w7 hf => ?_)
      refine V_cVI X hf [vi r7] _ 1 (fun _ h => m_X2_beginPart h) ob_39 rfl tw_1047 tw_90 tw_1044 tw_1046 tw_17 dX2_goOn_115 ⟨by decide +kernel, by decide +kernel, by decide +kernel⟩ ⟨rfl, rfl⟩ ⟨Nat.le_of_ble_eq_true rfl, Nat.le_of_ble_eq_true rfl⟩ rfl (Nat.le_of_ble_eq_true rfl) ⟨Nat.zero_le _, Nat.zero_le _⟩ (fun r8 w8 hf => ?_)
      exact V_iret X hE dX2_goOn_118 hf
    refine ite_c hf (fun h2 hf => ?_) (fun h2 hf => ?_)
    · refine V_lookup X (off := 79) (tgt := 145) dX2_goOn_66 (by decide) (by exact off_neg h0 (off_neg h1 (off_pos h2))) (by decide) ?_
      refine V_gload_n X dX2_goOn_145 rfl rfl ?_
      refine V_getr X ob_39 rfl rfl hin_X2 7 (Nat.le_of_ble_eq_true rfl) tw_213 rfl dX2_goOn_146 ?_
      refine V_gload_n X dX2_goOn_149 rfl rfl ?_
      refine V_getr X ob_39 rfl rfl hin_X2 0 (Nat.le_of_ble_eq_true rfl) tw_206 rfl dX2_goOn_150 ?_
      refine V_getrN X ob_25 rfl rfl hin_X0 3 (Nat.le_of_ble_eq_true rfl) nw_5 rfl dX2_goOn_153 ?_
      refine V_gload_n X dX2_goOn_156 rfl rfl ?_
      refine V_geti X ob_39 rfl rfl hin_X2 13 (Nat.le_of_ble_eq_true rfl) tw_221 rfl dX2_goOn_157 ?_
      refine V_cVI X hf [vi (w4 39 13)] _ 1 (fun _ h => m_X1_get is_30 h) ob_30 rfl tw_500 tw_89 tw_1035 tw_498 tw_499 dX2_goOn_160 ⟨by decide +kernel, by decide +kernel, by decide +kernel⟩ ⟨rfl, rfl⟩ ⟨Nat.le_of_ble_eq_true rfl, Nat.le_of_ble_eq_true rfl⟩ rfl (Nat.le_of_ble_eq_true rfl) ⟨Nat.zero_le _, Nat.zero_le _⟩ (fun r9 w9 hf => ?_)
      refine V_iload_n X dX2_goOn_163 rfl rfl ?_
      refine V_gload_n X dX2_goOn_164 rfl rfl ?_
      refine V_geti X ob_39 rfl rfl hin_X2 14 (Nat.le_of_ble_eq_true rfl) tw_222 rfl dX2_goOn_165 ?_
      refine V_cVV X hf [vi r9, vi r2, vi (w9 39 14)] _ 3 (fun _ h => m_X3_push is_50 h) ob_50 rfl tw_1043 tw_91 tw_1040 tw_1041 tw_1042 dX2_goOn_168 ⟨by decide +kernel, by decide +kernel, by decide +kernel⟩ ⟨rfl, rfl⟩ ⟨Nat.le_of_ble_eq_true rfl, Nat.le_of_ble_eq_true rfl⟩ rfl (Nat.le_of_ble_eq_true rfl) ⟨Nat.zero_le _, Nat.zero_le _⟩ (fun r10 w10 hf => ?_)
      refine V_bipush X dX2_goOn_171 (by decide) ?_
      exact V_iret X hE dX2_goOn_173 hf
    refine V_lookup X (off := 108) (tgt := 174) dX2_goOn_66 (by decide) (by exact off_neg h0 (off_neg h1 (off_neg h2 (rfl)))) (by decide) ?_
    refine V_gload_n X dX2_goOn_174 rfl rfl ?_
    refine V_geti X ob_39 rfl rfl hin_X2 14 (Nat.le_of_ble_eq_true rfl) tw_222 rfl dX2_goOn_175 ?_
    refine V_iload_n X dX2_goOn_178 rfl rfl ?_
    refine V_icmp_ne X (tgt := 187) dX2_goOn_179 (by decide) hf (fun hf => ?_) (fun hf => ?_)
    · refine V_bipush X dX2_goOn_182 (by decide) ?_
      refine V_goto X (tgt := 189) dX2_goOn_184 (by decide) ?_
      exact V_iret X hE dX2_goOn_189 hf
    · refine V_bipush X dX2_goOn_187 (by decide) ?_
      exact V_iret X hE dX2_goOn_189 hf
abbrev rmX2_beginAtNextCursor : Room := { frames := 1, cells := 0, slots := 0, locals := 21 }
set_option maxRecDepth 20000 in
theorem v_X2_beginAtNextCursor_37 {G : GG} {E : EE} (X : Cx G E cX2_beginAtNextCursor RX2 (some .int) rmX2_beginAtNextCursor 1) {q : (Int × WS)} (hE : EndI G E q)   {w : WS} (hf : f_X2_beginAtNextCursor_37    w = some q) : VV G E 0 0 37 [(0, gr G 39)] [] w := by
  unfold f_X2_beginAtNextCursor_37 at hf
  refine V_gload_n X dX2_beginAtNextCursor_37 rfl rfl ?_
  refine V_gload_n X dX2_beginAtNextCursor_38 rfl rfl ?_
  refine V_geti X ob_39 rfl rfl hin_X2 11 (Nat.le_of_ble_eq_true rfl) tw_217 rfl dX2_beginAtNextCursor_39 ?_
  refine V_puti X ob_39 rfl rfl hin_X2 14 (Nat.le_of_ble_eq_true rfl) tw_222 tyX2 tyX2_ok nmX2 rfl (by decide +kernel) rfl dX2_beginAtNextCursor_42 ?_
  refine V_gload_n X dX2_beginAtNextCursor_45 rfl rfl ?_
  refine V_iconst X dX2_beginAtNextCursor_46 ?_
  refine V_puti X ob_39 rfl rfl hin_X2 15 (Nat.le_of_ble_eq_true rfl) tw_224 tyX2 tyX2_ok nmX2 rfl (by decide +kernel) rfl dX2_beginAtNextCursor_47 ?_
  refine V_gload_n X dX2_beginAtNextCursor_50 rfl rfl ?_
  refine V_getr X ob_39 rfl rfl hin_X2 7 (Nat.le_of_ble_eq_true rfl) tw_213 rfl dX2_beginAtNextCursor_51 ?_
  refine V_iconst X dX2_beginAtNextCursor_54 ?_
  refine V_putiN X ob_50 rfl rfl hin_X3 3 (Nat.le_of_ble_eq_true rfl) nw_7 tyX3 tyX3_ok nmX3 rfl (by decide +kernel) rfl dX2_beginAtNextCursor_55 ?_
  refine V_gload_n X dX2_beginAtNextCursor_58 rfl rfl ?_
  refine V_gload_n X dX2_beginAtNextCursor_59 rfl rfl ?_
  refine V_geti X ob_39 rfl rfl hin_X2 8 (Nat.le_of_ble_eq_true rfl) tw_214 rfl dX2_beginAtNextCursor_60 ?_
  refine V_cVI X hf [vi ((up (up (up w 39 14 (w 39 11)) 39 15 (-1)) 50 3 0) 39 8)] _ 1 (fun _ h => m_X2_beginPart h) ob_39 rfl tw_1047 tw_90 tw_1044 tw_1046 tw_17 dX2_beginAtNextCursor_63 ⟨by decide +kernel, by decide +kernel, by decide +kernel⟩ ⟨rfl, rfl⟩ ⟨Nat.le_of_ble_eq_true rfl, Nat.le_of_ble_eq_true rfl⟩ rfl (Nat.le_of_ble_eq_true rfl) ⟨Nat.zero_le _, Nat.zero_le _⟩ (fun r1 w1 hf => ?_)
  exact V_iret X hE dX2_beginAtNextCursor_66 hf
set_option maxRecDepth 20000 in
theorem m_X2_beginAtNextCursor {G : GG}  {w : WS} {q : (Int × WS)}  (hf : f_X2_beginAtNextCursor  w = some q) : MI G yX2_beginAtNextCursor cX2_beginAtNextCursor 1 (some .int) rmX2_beginAtNextCursor [gr G 39] w q := by
  refine MI_of (by decide +kernel) (Nat.le_of_ble_eq_true rfl) (fun E X hE => ?_)
  have X : Cx G E cX2_beginAtNextCursor RX2 (some .int) rmX2_beginAtNextCursor 1 := X
  unfold f_X2_beginAtNextCursor at hf
  refine V_gload_n X dX2_beginAtNextCursor_0 rfl rfl ?_
  refine V_dup X dX2_beginAtNextCursor_1 rfl ?_
  refine V_geti X ob_39 rfl rfl hin_X2 11 (Nat.le_of_ble_eq_true rfl) tw_217 rfl dX2_beginAtNextCursor_2 ?_
  refine V_iconst X dX2_beginAtNextCursor_5 ?_
  refine V_iadd X dX2_beginAtNextCursor_6 ?_
  refine V_puti X ob_39 rfl rfl hin_X2 11 (Nat.le_of_ble_eq_true rfl) tw_217 tyX2 tyX2_ok nmX2 rfl (by decide +kernel) rfl dX2_beginAtNextCursor_7 ?_
  refine V_gload_n X dX2_beginAtNextCursor_10 rfl rfl ?_
  refine V_geti X ob_39 rfl rfl hin_X2 11 (Nat.le_of_ble_eq_true rfl) tw_217 rfl dX2_beginAtNextCursor_11 ?_
  refine V_gload_n X dX2_beginAtNextCursor_14 rfl rfl ?_
  refine V_geti X ob_39 rfl rfl hin_X2 10 (Nat.le_of_ble_eq_true rfl) tw_216 rfl dX2_beginAtNextCursor_15 ?_
  refine V_icmp_gt X (tgt := 35) dX2_beginAtNextCursor_18 (by decide) hf (fun hf => ?_) (fun hf => ?_)
  · refine V_iconst X dX2_beginAtNextCursor_35 ?_
    exact V_iret X hE dX2_beginAtNextCursor_36 hf
  · refine V_gload_n X dX2_beginAtNextCursor_21 rfl rfl ?_
    refine V_geti X ob_39 rfl rfl hin_X2 9 (Nat.le_of_ble_eq_true rfl) tw_215 rfl dX2_beginAtNextCursor_22 ?_
    refine V_if_eq X (tgt := 37) dX2_beginAtNextCursor_25 (by decide) hf (fun hf => ?_) (fun hf => ?_)
    · exact V_cut [0] rfl (v_X2_beginAtNextCursor_37 X hE hf)
    · refine V_gload_n X dX2_beginAtNextCursor_28 rfl rfl ?_
      refine V_geti X ob_39 rfl rfl hin_X2 11 (Nat.le_of_ble_eq_true rfl) tw_217 rfl dX2_beginAtNextCursor_29 ?_
      refine V_if_le X (tgt := 37) dX2_beginAtNextCursor_32 (by decide) hf (fun hf => ?_) (fun hf => ?_)
      · refine V_iconst X dX2_beginAtNextCursor_35 ?_
        exact V_iret X hE dX2_beginAtNextCursor_36 hf
      · exact V_cut [0] rfl (v_X2_beginAtNextCursor_37 X hE hf)
abbrev rmX2_goBack : Room := { frames := 2, cells := 0, slots := 0, locals := 43 }
set_option maxRecDepth 20000 in
theorem m_X2_goBack {G : GG}  {w : WS} {q : (Int × WS)}  (hf : f_X2_goBack  w = some q) : MI G yX2_goBack cX2_goBack 1 (some .int) rmX2_goBack [gr G 39] w q := by
  refine MI_of (by decide +kernel) (Nat.le_of_ble_eq_true rfl) (fun E X hE => ?_)
  have X : Cx G E cX2_goBack RX2 (some .int) rmX2_goBack 1 := X
  unfold f_X2_goBack at hf
  refine V_gload_n X dX2_goBack_0 rfl rfl ?_
  refine V_getr X ob_39 rfl rfl hin_X2 5 (Nat.le_of_ble_eq_true rfl) tw_211 rfl dX2_goBack_1 ?_
  refine V_getiN X ob_44 rfl rfl hin_X3 3 (Nat.le_of_ble_eq_true rfl) nw_7 rfl dX2_goBack_4 ?_
  refine V_if_gt X (tgt := 15) dX2_goBack_7 (by decide) hf (fun hf => ?_) (fun hf => ?_)
  · refine V_gload_n X dX2_goBack_15 rfl rfl ?_
    refine V_getr X ob_39 rfl rfl hin_X2 5 (Nat.le_of_ble_eq_true rfl) tw_211 rfl dX2_goBack_16 ?_
    refine V_dup X dX2_goBack_19 rfl ?_
    refine V_getiN X ob_44 rfl rfl hin_X3 3 (Nat.le_of_ble_eq_true rfl) nw_7 rfl dX2_goBack_20 ?_
    refine V_iconst X dX2_goBack_23 ?_
    refine V_isub X dX2_goBack_24 ?_
    refine V_putiN X ob_44 rfl rfl hin_X3 3 (Nat.le_of_ble_eq_true rfl) nw_7 tyX3 tyX3_ok nmX3 rfl (by decide +kernel) rfl dX2_goBack_25 ?_
    refine V_gload_n X dX2_goBack_28 rfl rfl ?_
    refine V_gload_n X dX2_goBack_29 rfl rfl ?_
    refine V_getr X ob_39 rfl rfl hin_X2 5 (Nat.le_of_ble_eq_true rfl) tw_211 rfl dX2_goBack_30 ?_
    refine V_gload_n X dX2_goBack_33 rfl rfl ?_
    refine V_getr X ob_39 rfl rfl hin_X2 5 (Nat.le_of_ble_eq_true rfl) tw_211 rfl dX2_goBack_34 ?_
    refine V_getiN X ob_44 rfl rfl hin_X3 3 (Nat.le_of_ble_eq_true rfl) nw_7 rfl dX2_goBack_37 ?_
    refine V_cVI X hf [vi ((up w 44 3 ((w 44 3) - 1)) 44 3)] _ 1 (fun _ h => m_X3_first is_44 h) ob_44 rfl tw_1087 tw_91 tw_1084 tw_1085 tw_1086 dX2_goBack_40 ⟨by decide +kernel, by decide +kernel, by decide +kernel⟩ ⟨rfl, rfl⟩ ⟨Nat.le_of_ble_eq_true rfl, Nat.le_of_ble_eq_true rfl⟩ rfl (Nat.le_of_ble_eq_true rfl) ⟨Nat.zero_le _, Nat.zero_le _⟩ (fun r1 w1 hf => ?_)
    refine V_puti X ob_39 rfl rfl hin_X2 13 (Nat.le_of_ble_eq_true rfl) tw_221 tyX2 tyX2_ok nmX2 rfl (by decide +kernel) rfl dX2_goBack_43 ?_
    refine V_gload_n X dX2_goBack_46 rfl rfl ?_
    refine V_gload_n X dX2_goBack_47 rfl rfl ?_
    refine V_getr X ob_39 rfl rfl hin_X2 5 (Nat.le_of_ble_eq_true rfl) tw_211 rfl dX2_goBack_48 ?_
    refine V_gload_n X dX2_goBack_51 rfl rfl ?_
    refine V_getr X ob_39 rfl rfl hin_X2 5 (Nat.le_of_ble_eq_true rfl) tw_211 rfl dX2_goBack_52 ?_
    refine V_getiN X ob_44 rfl rfl hin_X3 3 (Nat.le_of_ble_eq_true rfl) nw_7 rfl dX2_goBack_55 ?_
    refine V_cVI X hf [vi ((up w1 39 13 r1) 44 3)] _ 1 (fun _ h => m_X3_second is_44 h) ob_44 rfl tw_1091 tw_91 tw_1088 tw_1089 tw_1090 dX2_goBack_58 ⟨by decide +kernel, by decide +kernel, by decide +kernel⟩ ⟨rfl, rfl⟩ ⟨Nat.le_of_ble_eq_true rfl, Nat.le_of_ble_eq_true rfl⟩ rfl (Nat.le_of_ble_eq_true rfl) ⟨Nat.zero_le _, Nat.zero_le _⟩ (fun r2 w2 hf => ?_)
    refine V_puti X ob_39 rfl rfl hin_X2 14 (Nat.le_of_ble_eq_true rfl) tw_222 tyX2 tyX2_ok nmX2 rfl (by decide +kernel) rfl dX2_goBack_61 ?_
    refine V_gload_n X dX2_goBack_64 rfl rfl ?_
    refine V_gload_n X dX2_goBack_65 rfl rfl ?_
    refine V_getr X ob_39 rfl rfl hin_X2 5 (Nat.le_of_ble_eq_true rfl) tw_211 rfl dX2_goBack_66 ?_
    refine V_gload_n X dX2_goBack_69 rfl rfl ?_
    refine V_getr X ob_39 rfl rfl hin_X2 5 (Nat.le_of_ble_eq_true rfl) tw_211 rfl dX2_goBack_70 ?_
    refine V_getiN X ob_44 rfl rfl hin_X3 3 (Nat.le_of_ble_eq_true rfl) nw_7 rfl dX2_goBack_73 ?_
    refine V_cVI X hf [vi ((up w2 39 14 r2) 44 3)] _ 1 (fun _ h => m_X3_third is_44 h) ob_44 rfl tw_1095 tw_91 tw_1092 tw_1093 tw_1094 dX2_goBack_76 ⟨by decide +kernel, by decide +kernel, by decide +kernel⟩ ⟨rfl, rfl⟩ ⟨Nat.le_of_ble_eq_true rfl, Nat.le_of_ble_eq_true rfl⟩ rfl (Nat.le_of_ble_eq_true rfl) ⟨Nat.zero_le _, Nat.zero_le _⟩ (fun r3 w3 hf => ?_)
    refine V_puti X ob_39 rfl rfl hin_X2 15 (Nat.le_of_ble_eq_true rfl) tw_224 tyX2 tyX2_ok nmX2 rfl (by decide +kernel) rfl dX2_goBack_79 ?_
    refine V_gload_n X dX2_goBack_82 rfl rfl ?_
    refine V_getr X ob_39 rfl rfl hin_X2 7 (Nat.le_of_ble_eq_true rfl) tw_213 rfl dX2_goBack_83 ?_
    refine V_gload_n X dX2_goBack_86 rfl rfl ?_
    refine V_getr X ob_39 rfl rfl hin_X2 6 (Nat.le_of_ble_eq_true rfl) tw_212 rfl dX2_goBack_87 ?_
    refine V_gload_n X dX2_goBack_90 rfl rfl ?_
    refine V_getr X ob_39 rfl rfl hin_X2 5 (Nat.le_of_ble_eq_true rfl) tw_211 rfl dX2_goBack_91 ?_
    refine V_getiN X ob_44 rfl rfl hin_X3 3 (Nat.le_of_ble_eq_true rfl) nw_7 rfl dX2_goBack_94 ?_
    refine V_cVI X hf [vi ((up w3 39 15 r3) 44 3)] _ 1 (fun _ h => m_X1_get is_48 h) ob_48 rfl tw_500 tw_89 tw_1035 tw_498 tw_499 dX2_goBack_97 ⟨by decide +kernel, by decide +kernel, by decide +kernel⟩ ⟨rfl, rfl⟩ ⟨Nat.le_of_ble_eq_true rfl, Nat.le_of_ble_eq_true rfl⟩ rfl (Nat.le_of_ble_eq_true rfl) ⟨Nat.zero_le _, Nat.zero_le _⟩ (fun r4 w4 hf => ?_)
    refine V_putiN X ob_50 rfl rfl hin_X3 3 (Nat.le_of_ble_eq_true rfl) nw_7 tyX3 tyX3_ok nmX3 rfl (by decide +kernel) rfl dX2_goBack_100 ?_
    refine V_gload_n X dX2_goBack_103 rfl rfl ?_
    refine V_getr X ob_39 rfl rfl hin_X2 0 (Nat.le_of_ble_eq_true rfl) tw_206 rfl dX2_goBack_104 ?_
    refine V_getrN X ob_25 rfl rfl hin_X0 1 (Nat.le_of_ble_eq_true rfl) nw_1 rfl dX2_goBack_107 ?_
    refine V_gload_n X dX2_goBack_110 rfl rfl ?_
    refine V_geti X ob_39 rfl rfl hin_X2 13 (Nat.le_of_ble_eq_true rfl) tw_221 rfl dX2_goBack_111 ?_
    refine V_cVI X hf [vi ((up w4 50 3 r4) 39 13)] _ 1 (fun _ h => m_X1_get is_26 h) ob_26 rfl tw_500 tw_89 tw_1035 tw_498 tw_499 dX2_goBack_114 ⟨by decide +kernel, by decide +kernel, by decide +kernel⟩ ⟨rfl, rfl⟩ ⟨Nat.le_of_ble_eq_true rfl, Nat.le_of_ble_eq_true rfl⟩ rfl (Nat.le_of_ble_eq_true rfl) ⟨Nat.zero_le _, Nat.zero_le _⟩ (fun r5 w5 hf => ?_)
    refine ite_c hf (fun h0 hf => ?_) (fun h0 hf => ?_)
    · refine V_lookup X (off := 85) (tgt := 202) dX2_goBack_117 (by decide) (by exact off_pos h0) (by decide) ?_
      refine V_gload_n X dX2_goBack_202 rfl rfl ?_
      refine V_dup X dX2_goBack_203 rfl ?_
      refine V_geti X ob_39 rfl rfl hin_X2 14 (Nat.le_of_ble_eq_true rfl) tw_222 rfl dX2_goBack_204 ?_
      refine V_iconst X dX2_goBack_207 ?_
      refine V_iadd X dX2_goBack_208 ?_
      refine V_puti X ob_39 rfl rfl hin_X2 14 (Nat.le_of_ble_eq_true rfl) tw_222 tyX2 tyX2_ok nmX2 rfl (by decide +kernel) rfl dX2_goBack_209 ?_
      refine V_gload_n X dX2_goBack_212 rfl rfl ?_
      refine V_geti X ob_39 rfl rfl hin_X2 14 (Nat.le_of_ble_eq_true rfl) tw_222 rfl dX2_goBack_213 ?_
      refine V_gload_n X dX2_goBack_216 rfl rfl ?_
      refine V_geti X ob_39 rfl rfl hin_X2 10 (Nat.le_of_ble_eq_true rfl) tw_216 rfl dX2_goBack_217 ?_
      refine V_icmp_gt X (tgt := 228) dX2_goBack_220 (by decide) hf (fun hf => ?_) (fun hf => ?_)
      · refine V_bipush X dX2_goBack_228 (by decide) ?_
        exact V_iret X hE dX2_goBack_230 hf
      · refine V_bipush X dX2_goBack_223 (by decide) ?_
        refine V_goto X (tgt := 230) dX2_goBack_225 (by decide) ?_
        exact V_iret X hE dX2_goBack_230 hf
    refine ite_c hf (fun h1 hf => ?_) (fun h1 hf => ?_)
    · refine V_lookup X (off := 62) (tgt := 179) dX2_goBack_117 (by decide) (by exact off_neg h0 (off_pos h1)) (by decide) ?_
      refine V_gload_n X dX2_goBack_179 rfl rfl ?_
      refine V_cVV X hf [] _ 0 (fun _ h => m_X2_addNode h) ob_39 rfl tw_1039 tw_90 tw_1036 tw_1038 tw_16 dX2_goBack_180 ⟨by decide +kernel, by decide +kernel, by decide +kernel⟩ ⟨rfl, rfl⟩ ⟨Nat.le_of_ble_eq_true rfl, Nat.le_of_ble_eq_true rfl⟩ rfl (Nat.le_of_ble_eq_true rfl) ⟨Nat.zero_le _, Nat.zero_le _⟩ (fun r6 w6 hf => ?_)
      refine V_gload_n X dX2_goBack_183 rfl rfl ?_
      refine V_gload_n X dX2_goBack_184 rfl rfl ?_
      refine V_getr X ob_39 rfl rfl hin_X2 0 (Nat.le_of_ble_eq_true rfl) tw_206 rfl dX2_goBack_185 ?_
      refine V_getrN X ob_25 rfl rfl hin_X0 2 (Nat.le_of_ble_eq_true rfl) nw_3 rfl dX2_goBack_188 ?_
      refine V_gload_n X dX2_goBack_191 rfl rfl ?_
      refine V_geti X ob_39 rfl rfl hin_X2 13 (Nat.le_of_ble_eq_true rfl) tw_221 rfl dX2_goBack_192 ?_
      refine V_cVI X hf [vi (w6 39 13)] _ 1 (fun _ h => m_X1_get is_28 h) ob_28 rfl tw_500 tw_89 tw_1035 tw_498 tw_499 dX2_goBack_195 ⟨by decide +kernel, by decide +kernel, by decide +kernel⟩ ⟨rfl, rfl⟩ ⟨Nat.le_of_ble_eq_true rfl, Nat.le_of_ble_eq_true rfl⟩ rfl (Nat.le_of_ble_eq_true rfl) ⟨Nat.zero_le _, Nat.zero_le _⟩ (fun r7 w7 hf => ?_)
      refine V_cVI X hf [vi r7] _ 1 (fun _ h => m_X2_beginPart h) ob_39 rfl tw_1047 tw_90 tw_1044 tw_1046 tw_17 dX2_goBack_198 ⟨by decide +kernel, by decide +kernel, by decide +kernel⟩ ⟨rfl, rfl⟩ ⟨Nat.le_of_ble_eq_true rfl, Nat.le_of_ble_eq_true rfl⟩ rfl (Nat.le_of_ble_eq_true rfl) ⟨Nat.zero_le _, Nat.zero_le _⟩ (fun r8 w8 hf => ?_)
      exact V_iret X hE dX2_goBack_201 hf
    refine ite_c hf (fun h2 hf => ?_) (fun h2 hf => ?_)
    · refine V_lookup X (off := 114) (tgt := 231) dX2_goBack_117 (by decide) (by exact off_neg h0 (off_neg h1 (off_pos h2))) (by decide) ?_
      refine V_bipush X dX2_goBack_231 (by decide) ?_
      exact V_iret X hE dX2_goBack_233 hf
    refine ite_c hf (fun h3 hf => ?_) (fun h3 hf => ?_)
    · refine V_lookup X (off := 43) (tgt := 160) dX2_goBack_117 (by decide) (by exact off_neg h0 (off_neg h1 (off_neg h2 (off_pos h3)))) (by decide) ?_
      refine V_gload_n X dX2_goBack_160 rfl rfl ?_
      refine V_gload_n X dX2_goBack_161 rfl rfl ?_
      refine V_getr X ob_39 rfl rfl hin_X2 0 (Nat.le_of_ble_eq_true rfl) tw_206 rfl dX2_goBack_162 ?_
      refine V_getrN X ob_25 rfl rfl hin_X0 3 (Nat.le_of_ble_eq_true rfl) nw_5 rfl dX2_goBack_165 ?_
      refine V_gload_n X dX2_goBack_168 rfl rfl ?_
      refine V_geti X ob_39 rfl rfl hin_X2 13 (Nat.le_of_ble_eq_true rfl) tw_221 rfl dX2_goBack_169 ?_
      refine V_cVI X hf [vi (w5 39 13)] _ 1 (fun _ h => m_X1_get is_30 h) ob_30 rfl tw_500 tw_89 tw_1035 tw_498 tw_499 dX2_goBack_172 ⟨by decide +kernel, by decide +kernel, by decide +kernel⟩ ⟨rfl, rfl⟩ ⟨Nat.le_of_ble_eq_true rfl, Nat.le_of_ble_eq_true rfl⟩ rfl (Nat.le_of_ble_eq_true rfl) ⟨Nat.zero_le _, Nat.zero_le _⟩ (fun r9 w9 hf => ?_)
      refine V_cVI X hf [vi r9] _ 1 (fun _ h => m_X2_beginPart h) ob_39 rfl tw_1047 tw_90 tw_1044 tw_1046 tw_17 dX2_goBack_175 ⟨by decide +kernel, by decide +kernel, by decide +kernel⟩ ⟨rfl, rfl⟩ ⟨Nat.le_of_ble_eq_true rfl, Nat.le_of_ble_eq_true rfl⟩ rfl (Nat.le_of_ble_eq_true rfl) ⟨Nat.zero_le _, Nat.zero_le _⟩ (fun r10 w10 hf => ?_)
      exact V_iret X hE dX2_goBack_178 hf
    refine V_lookup X (off := 117) (tgt := 234) dX2_goBack_117 (by decide) (by exact off_neg h0 (off_neg h1 (off_neg h2 (off_neg h3 (rfl))))) (by decide) ?_
    refine V_iconst X dX2_goBack_234 ?_
    exact V_iret X hE dX2_goBack_235 hf
  · refine V_gload_n X dX2_goBack_10 rfl rfl ?_
    refine V_cVI X hf [] _ 0 (fun _ h => m_X2_beginAtNextCursor h) ob_39 rfl tw_1109 tw_90 tw_1106 tw_1108 tw_27 dX2_goBack_11 ⟨by decide +kernel, by decide +kernel, by decide +kernel⟩ ⟨rfl, rfl⟩ ⟨Nat.le_of_ble_eq_true rfl, Nat.le_of_ble_eq_true rfl⟩ rfl (Nat.le_of_ble_eq_true rfl) ⟨Nat.zero_le _, Nat.zero_le _⟩ (fun r11 w11 hf => ?_)
    exact V_iret X hE dX2_goBack_14 hf
abbrev rmX2_seek : Room := { frames := 3, cells := 0, slots := 0, locals := 75 }
set_option maxRecDepth 20000 in
theorem v_X2_seek_5 {G : GG} {E : EE} (X : Cx G E cX2_seek RX2 (some .int) rmX2_seek 3) {q : (Int × WS)} (hE : EndI G E q)   : ∀ (n : Nat) (a1 a2 : Int) (w : WS), f_X2_seek_5   n a1 a2 w = some q → VV G E 0 0 5 [(0, gr G 39), (1, vi a1), (2, vi a2)] [] w := by
  intro n
  induction n with
  | zero => intro a1 a2 w hf; cases hf
  | succ n ih =>
    intro a1 a2 w hf
    rw [f_X2_seek_5_s] at hf
    refine V_iload_n X dX2_seek_5 rfl rfl ?_
    refine V_ldc (a := 10000000) X tw_1030 dX2_seek_6 (by decide) ?_
    refine V_icmp_ge X (tgt := 114) dX2_seek_8 (by decide) hf (fun hf => ?_) (fun hf => ?_)
    · refine V_iload_n X dX2_seek_11 rfl rfl ?_
      refine ite_c hf (fun h0 hf => ?_) (fun h0 hf => ?_)
      · refine V_tin X (off := 40) (tgt := 52) dX2_seek_12 4 h0 (by decide) rfl (by decide) ?_
        refine V_gload_n X dX2_seek_52 rfl rfl ?_
        refine V_cVI X hf [] _ 0 (fun _ h => m_X2_begin h) ob_39 rfl tw_1034 tw_90 tw_1031 tw_1033 tw_15 dX2_seek_53 ⟨by decide +kernel, by decide +kernel, by decide +kernel⟩ ⟨rfl, rfl⟩ ⟨Nat.le_of_ble_eq_true rfl, Nat.le_of_ble_eq_true rfl⟩ rfl (Nat.le_of_ble_eq_true rfl) ⟨Nat.zero_le _, Nat.zero_le _⟩ (fun r1 w1 hf => ?_)
        refine V_istore_n X dX2_seek_56 rfl (by decide) ?_
        refine V_goto X (tgt := 108) dX2_seek_57 (by decide) ?_
        refine V_iinc X dX2_seek_108 rfl (by decide) ?_
        refine V_goto X (tgt := 5) dX2_seek_111 (by decide) ?_
        exact V_cut [0, 1, 2] rfl (ih _ _ _ hf)
      refine ite_c hf (fun h1 hf => ?_) (fun h1 hf => ?_)
      · refine V_tin X (off := 48) (tgt := 60) dX2_seek_12 5 h1 (by decide) rfl (by decide) ?_
        refine V_gload_n X dX2_seek_60 rfl rfl ?_
        refine V_gload_n X dX2_seek_61 rfl rfl ?_
        refine V_cVI X hf [] _ 0 (fun _ h => m_X2_endOfSingle h) ob_39 rfl tw_1057 tw_90 tw_1054 tw_1056 tw_19 dX2_seek_62 ⟨by decide +kernel, by decide +kernel, by decide +kernel⟩ ⟨rfl, rfl⟩ ⟨Nat.le_of_ble_eq_true rfl, Nat.le_of_ble_eq_true rfl⟩ rfl (Nat.le_of_ble_eq_true rfl) ⟨Nat.zero_le _, Nat.zero_le _⟩ (fun r2 w2 hf => ?_)
        refine V_cVI X hf [vi r2] _ 1 (fun _ h => m_X2_goTo h) ob_39 rfl tw_1075 tw_90 tw_1072 tw_1074 tw_22 dX2_seek_65 ⟨by decide +kernel, by decide +kernel, by decide +kernel⟩ ⟨rfl, rfl⟩ ⟨Nat.le_of_ble_eq_true rfl, Nat.le_of_ble_eq_true rfl⟩ rfl (Nat.le_of_ble_eq_true rfl) ⟨Nat.zero_le _, Nat.zero_le _⟩ (fun r3 w3 hf => ?_)
        refine V_istore_n X dX2_seek_68 rfl (by decide) ?_
        refine V_goto X (tgt := 108) dX2_seek_69 (by decide) ?_
        refine V_iinc X dX2_seek_108 rfl (by decide) ?_
        refine V_goto X (tgt := 5) dX2_seek_111 (by decide) ?_
        exact V_cut [0, 1, 2] rfl (ih _ _ _ hf)
      refine ite_c hf (fun h2 hf => ?_) (fun h2 hf => ?_)
      · refine V_tin X (off := 60) (tgt := 72) dX2_seek_12 6 h2 (by decide) rfl (by decide) ?_
        refine V_gload_n X dX2_seek_72 rfl rfl ?_
        refine V_cVI X hf [] _ 0 (fun _ h => m_X2_balance h) ob_39 rfl tw_1079 tw_90 tw_1076 tw_1078 tw_23 dX2_seek_73 ⟨by decide +kernel, by decide +kernel, by decide +kernel⟩ ⟨rfl, rfl⟩ ⟨Nat.le_of_ble_eq_true rfl, Nat.le_of_ble_eq_true rfl⟩ rfl (Nat.le_of_ble_eq_true rfl) ⟨Nat.zero_le _, Nat.zero_le _⟩ (fun r4 w4 hf => ?_)
        refine V_istore_n X dX2_seek_76 rfl (by decide) ?_
        refine V_goto X (tgt := 108) dX2_seek_77 (by decide) ?_
        refine V_iinc X dX2_seek_108 rfl (by decide) ?_
        refine V_goto X (tgt := 5) dX2_seek_111 (by decide) ?_
        exact V_cut [0, 1, 2] rfl (ih _ _ _ hf)
      refine ite_c hf (fun h3 hf => ?_) (fun h3 hf => ?_)
      · refine V_tin X (off := 68) (tgt := 80) dX2_seek_12 7 h3 (by decide) rfl (by decide) ?_
        refine V_gload_n X dX2_seek_80 rfl rfl ?_
        refine V_cVV X hf [] _ 0 (fun _ h => m_X2_addChoice h) ob_39 rfl tw_1051 tw_90 tw_1048 tw_1050 tw_18 dX2_seek_81 ⟨by decide +kernel, by decide +kernel, by decide +kernel⟩ ⟨rfl, rfl⟩ ⟨Nat.le_of_ble_eq_true rfl, Nat.le_of_ble_eq_true rfl⟩ rfl (Nat.le_of_ble_eq_true rfl) ⟨Nat.zero_le _, Nat.zero_le _⟩ (fun r5 w5 hf => ?_)
        refine V_bipush X dX2_seek_84 (by decide) ?_
        refine V_istore_n X dX2_seek_86 rfl (by decide) ?_
        refine V_goto X (tgt := 108) dX2_seek_87 (by decide) ?_
        refine V_iinc X dX2_seek_108 rfl (by decide) ?_
        refine V_goto X (tgt := 5) dX2_seek_111 (by decide) ?_
        exact V_cut [0, 1, 2] rfl (ih _ _ _ hf)
      refine ite_c hf (fun h4 hf => ?_) (fun h4 hf => ?_)
      · refine V_tin X (off := 78) (tgt := 90) dX2_seek_12 8 h4 (by decide) rfl (by decide) ?_
        refine V_gload_n X dX2_seek_90 rfl rfl ?_
        refine V_cVI X hf [] _ 0 (fun _ h => m_X2_goOn h) ob_39 rfl tw_1083 tw_90 tw_1080 tw_1082 tw_24 dX2_seek_91 ⟨by decide +kernel, by decide +kernel, by decide +kernel⟩ ⟨rfl, rfl⟩ ⟨Nat.le_of_ble_eq_true rfl, Nat.le_of_ble_eq_true rfl⟩ rfl (Nat.le_of_ble_eq_true rfl) ⟨Nat.zero_le _, Nat.zero_le _⟩ (fun r6 w6 hf => ?_)
        refine V_istore_n X dX2_seek_94 rfl (by decide) ?_
        refine V_goto X (tgt := 108) dX2_seek_95 (by decide) ?_
        refine V_iinc X dX2_seek_108 rfl (by decide) ?_
        refine V_goto X (tgt := 5) dX2_seek_111 (by decide) ?_
        exact V_cut [0, 1, 2] rfl (ih _ _ _ hf)
      refine ite_c hf (fun h5 hf => ?_) (fun h5 hf => ?_)
      · refine V_tin X (off := 86) (tgt := 98) dX2_seek_12 9 h5 (by decide) rfl (by decide) ?_
        refine V_gload_n X dX2_seek_98 rfl rfl ?_
        refine V_cVI X hf [] _ 0 (fun _ h => m_X2_goBack h) ob_39 rfl tw_1105 tw_90 tw_1102 tw_1104 tw_26 dX2_seek_99 ⟨by decide +kernel, by decide +kernel, by decide +kernel⟩ ⟨rfl, rfl⟩ ⟨Nat.le_of_ble_eq_true rfl, Nat.le_of_ble_eq_true rfl⟩ rfl (Nat.le_of_ble_eq_true rfl) ⟨Nat.zero_le _, Nat.zero_le _⟩ (fun r7 w7 hf => ?_)
        refine V_istore_n X dX2_seek_102 rfl (by decide) ?_
        refine V_goto X (tgt := 108) dX2_seek_103 (by decide) ?_
        refine V_iinc X dX2_seek_108 rfl (by decide) ?_
        refine V_goto X (tgt := 5) dX2_seek_111 (by decide) ?_
        exact V_cut [0, 1, 2] rfl (ih _ _ _ hf)
      refine V_tout X (tgt := 106) dX2_seek_12 (by omega) (by decide) ?_
      refine V_iload_n X dX2_seek_106 rfl rfl ?_
      exact V_iret X hE dX2_seek_107 hf
    · refine V_iconst X dX2_seek_114 ?_
      exact V_iret X hE dX2_seek_115 hf
set_option maxRecDepth 20000 in
theorem m_X2_seek {G : GG}  {w : WS} {q : (Int × WS)}  (hf : f_X2_seek  w = some q) : MI G yX2_seek cX2_seek 3 (some .int) rmX2_seek [gr G 39] w q := by
  refine MI_of (by decide +kernel) (Nat.le_of_ble_eq_true rfl) (fun E X hE => ?_)
  have X : Cx G E cX2_seek RX2 (some .int) rmX2_seek 3 := X
  unfold f_X2_seek at hf
  refine V_bipush X dX2_seek_0 (by decide) ?_
  refine V_istore_n X dX2_seek_2 rfl (by decide) ?_
  refine V_iconst X dX2_seek_3 ?_
  refine V_istore_n X dX2_seek_4 rfl (by decide) ?_
  exact V_cut [0, 1, 2] rfl (v_X2_seek_5 X hE FU _ _ _ hf)
abbrev rmX2_assignTaken : Room := { frames := 2, cells := 0, slots := 0, locals := 54 }
set_option maxRecDepth 20000 in
theorem v_X2_assignTaken_2 {G : GG} {E : EE} (X : Cx G E cX2_assignTaken RX2 none rmX2_assignTaken 2) {q : (Int × WS)} (hE : EndV G E q)   : ∀ (n : Nat) (a1 : Int) (w : WS), f_X2_assignTaken_2   n a1 w = some q → VV G E 0 0 2 [(0, gr G 39), (1, vi a1)] [] w := by
  intro n
  induction n with
  | zero => intro a1 w hf; cases hf
  | succ n ih =>
    intro a1 w hf
    rw [f_X2_assignTaken_2_s] at hf
    refine V_iload_n X dX2_assignTaken_2 rfl rfl ?_
    refine V_gload_n X dX2_assignTaken_3 rfl rfl ?_
    refine V_getr X ob_39 rfl rfl hin_X2 7 (Nat.le_of_ble_eq_true rfl) tw_213 rfl dX2_assignTaken_4 ?_
    refine V_getiN X ob_50 rfl rfl hin_X3 3 (Nat.le_of_ble_eq_true rfl) nw_7 rfl dX2_assignTaken_7 ?_
    refine V_icmp_ge X (tgt := 47) dX2_assignTaken_10 (by decide) hf (fun hf => ?_) (fun hf => ?_)
    · refine V_gload_n X dX2_assignTaken_13 rfl rfl ?_
      refine V_gload_n X dX2_assignTaken_14 rfl rfl ?_
      refine V_getr X ob_39 rfl rfl hin_X2 7 (Nat.le_of_ble_eq_true rfl) tw_213 rfl dX2_assignTaken_15 ?_
      refine V_iload_n X dX2_assignTaken_18 rfl rfl ?_
      refine V_cVI X hf [vi a1] _ 1 (fun _ h => m_X3_first is_50 h) ob_50 rfl tw_1087 tw_91 tw_1084 tw_1085 tw_1086 dX2_assignTaken_19 ⟨by decide +kernel, by decide +kernel, by decide +kernel⟩ ⟨rfl, rfl⟩ ⟨Nat.le_of_ble_eq_true rfl, Nat.le_of_ble_eq_true rfl⟩ rfl (Nat.le_of_ble_eq_true rfl) ⟨Nat.zero_le _, Nat.zero_le _⟩ (fun r1 w1 hf => ?_)
      refine V_gload_n X dX2_assignTaken_22 rfl rfl ?_
      refine V_getr X ob_39 rfl rfl hin_X2 7 (Nat.le_of_ble_eq_true rfl) tw_213 rfl dX2_assignTaken_23 ?_
      refine V_iload_n X dX2_assignTaken_26 rfl rfl ?_
      refine V_cVI X hf [vi a1] _ 1 (fun _ h => m_X3_second is_50 h) ob_50 rfl tw_1091 tw_91 tw_1088 tw_1089 tw_1090 dX2_assignTaken_27 ⟨by decide +kernel, by decide +kernel, by decide +kernel⟩ ⟨rfl, rfl⟩ ⟨Nat.le_of_ble_eq_true rfl, Nat.le_of_ble_eq_true rfl⟩ rfl (Nat.le_of_ble_eq_true rfl) ⟨Nat.zero_le _, Nat.zero_le _⟩ (fun r2 w2 hf => ?_)
      refine V_gload_n X dX2_assignTaken_30 rfl rfl ?_
      refine V_getr X ob_39 rfl rfl hin_X2 7 (Nat.le_of_ble_eq_true rfl) tw_213 rfl dX2_assignTaken_31 ?_
      refine V_iload_n X dX2_assignTaken_34 rfl rfl ?_
      refine V_cVI X hf [vi a1] _ 1 (fun _ h => m_X3_third is_50 h) ob_50 rfl tw_1095 tw_91 tw_1092 tw_1093 tw_1094 dX2_assignTaken_35 ⟨by decide +kernel, by decide +kernel, by decide +kernel⟩ ⟨rfl, rfl⟩ ⟨Nat.le_of_ble_eq_true rfl, Nat.le_of_ble_eq_true rfl⟩ rfl (Nat.le_of_ble_eq_true rfl) ⟨Nat.zero_le _, Nat.zero_le _⟩ (fun r3 w3 hf => ?_)
      refine V_cVV X hf [vi r1, vi r2, vi r3] _ 3 (fun _ h => m_X2_capture h) ob_39 rfl tw_1099 tw_90 tw_1096 tw_1098 tw_25 dX2_assignTaken_38 ⟨by decide +kernel, by decide +kernel, by decide +kernel⟩ ⟨rfl, rfl⟩ ⟨Nat.le_of_ble_eq_true rfl, Nat.le_of_ble_eq_true rfl⟩ rfl (Nat.le_of_ble_eq_true rfl) ⟨Nat.zero_le _, Nat.zero_le _⟩ (fun r4 w4 hf => ?_)
      refine V_iinc X dX2_assignTaken_41 rfl (by decide) ?_
      refine V_goto X (tgt := 2) dX2_assignTaken_44 (by decide) ?_
      exact V_cut [0, 1] rfl (ih _ _ hf)
    · exact V_vret X hE dX2_assignTaken_47 hf
set_option maxRecDepth 20000 in
theorem m_X2_assignTaken {G : GG}  {w : WS} {q : (Int × WS)}  (hf : f_X2_assignTaken  w = some q) : MV G yX2_assignTaken cX2_assignTaken 2 none rmX2_assignTaken [gr G 39] w q := by
  refine MV_of (by decide +kernel) (Nat.le_of_ble_eq_true rfl) (fun E X hE => ?_)
  have X : Cx G E cX2_assignTaken RX2 none rmX2_assignTaken 2 := X
  unfold f_X2_assignTaken at hf
  refine V_iconst X dX2_assignTaken_0 ?_
  refine V_istore_n X dX2_assignTaken_1 rfl (by decide) ?_
  exact V_cut [0, 1] rfl (v_X2_assignTaken_2 X hE FU _ _ hf)
abbrev rmX2_replace : Room := { frames := 2, cells := 0, slots := 0, locals := 54 }
set_option maxRecDepth 20000 in
theorem m_X2_replace {G : GG} {j : Nat} {a2 : Int} {j2 : Nat} {a4 : Int} {w : WS} {q : (Int × WS)} (hj : isX6 j) (hj2 : isX6 j2) (hf : f_X2_replace j a2 j2 a4 w = some q) : MI G yX2_replace cX2_replace 5 (some .boolean) rmX2_replace [gr G 39, gr G j, vi a2, gr G j2, vi a4] w q := by
  refine MI_of (by decide +kernel) (Nat.le_of_ble_eq_true rfl) (fun E X hE => ?_)
  have X : Cx G E cX2_replace RX2 (some .boolean) rmX2_replace 5 := X
  unfold f_X2_replace at hf
  refine V_gload_n X dX2_replace_0 rfl rfl ?_
  refine V_iload_n X dX2_replace_1 rfl rfl ?_
  refine V_cVV X hf [vi a2] _ 1 (fun _ h => m_X6_clear hj h) (ob_X6 hj) rfl tw_470 tw_87 tw_1100 tw_468 tw_469 dX2_replace_2 ⟨by decide +kernel, by decide +kernel, by decide +kernel⟩ ⟨rfl, rfl⟩ ⟨Nat.le_of_ble_eq_true rfl, Nat.le_of_ble_eq_true rfl⟩ rfl (Nat.le_of_ble_eq_true rfl) ⟨Nat.zero_le _, Nat.zero_le _⟩ (fun r1 w1 hf => ?_)
  refine V_gload_n X dX2_replace_5 rfl rfl ?_
  refine V_iload_n X dX2_replace_6 rfl rfl ?_
  refine V_gload_n X dX2_replace_7 rfl rfl ?_
  refine V_getr X ob_39 rfl rfl hin_X2 3 (Nat.le_of_ble_eq_true rfl) tw_209 rfl dX2_replace_8 ?_
  refine V_iconst X dX2_replace_11 ?_
  refine V_iconst X dX2_replace_12 ?_
  refine V_gload_n X dX2_replace_13 rfl rfl ?_
  refine V_geti X ob_39 rfl rfl hin_X2 11 (Nat.le_of_ble_eq_true rfl) tw_217 rfl dX2_replace_14 ?_
  refine V_cVI X hf [vi a2, gr G 13, vi 0, vi 0, vi (w1 39 11)] _ 5 (fun _ h => m_X6_append hj is_13 h) (ob_X6 hj) rfl tw_641 tw_87 tw_1101 tw_639 tw_640 dX2_replace_17 ⟨by decide +kernel, by decide +kernel, by decide +kernel⟩ ⟨rfl, rfl⟩ ⟨Nat.le_of_ble_eq_true rfl, Nat.le_of_ble_eq_true rfl⟩ rfl (Nat.le_of_ble_eq_true rfl) ⟨Nat.zero_le _, Nat.zero_le _⟩ (fun r2 w2 hf => ?_)
  refine V_if_eq X (tgt := 59) dX2_replace_20 (by decide) hf (fun hf => ?_) (fun hf => ?_)
  · refine V_iconst X dX2_replace_59 ?_
    exact V_zret X hE dX2_replace_60 (Or.inl rfl) hf
  · refine V_gload_n X dX2_replace_23 rfl rfl ?_
    refine V_iload_n X dX2_replace_24 rfl rfl ?_
    refine V_gload_n X dX2_replace_25 rfl rfl ?_
    refine V_iload X dX2_replace_26 rfl ?_
    refine V_cVI X hf [vi a2, gr G j2, vi a4] _ 3 (fun _ h => m_X6_appendAll hj hj2 h) (ob_X6 hj) rfl tw_1005 tw_87 tw_1118 tw_1003 tw_1004 dX2_replace_28 ⟨by decide +kernel, by decide +kernel, by decide +kernel⟩ ⟨rfl, rfl⟩ ⟨Nat.le_of_ble_eq_true rfl, Nat.le_of_ble_eq_true rfl⟩ rfl (Nat.le_of_ble_eq_true rfl) ⟨Nat.zero_le _, Nat.zero_le _⟩ (fun r3 w3 hf => ?_)
    refine V_if_eq X (tgt := 59) dX2_replace_31 (by decide) hf (fun hf => ?_) (fun hf => ?_)
    · refine V_iconst X dX2_replace_59 ?_
      exact V_zret X hE dX2_replace_60 (Or.inl rfl) hf
    · refine V_gload_n X dX2_replace_34 rfl rfl ?_
      refine V_iload_n X dX2_replace_35 rfl rfl ?_
      refine V_gload_n X dX2_replace_36 rfl rfl ?_
      refine V_getr X ob_39 rfl rfl hin_X2 3 (Nat.le_of_ble_eq_true rfl) tw_209 rfl dX2_replace_37 ?_
      refine V_iconst X dX2_replace_40 ?_
      refine V_gload_n X dX2_replace_41 rfl rfl ?_
      refine V_geti X ob_39 rfl rfl hin_X2 14 (Nat.le_of_ble_eq_true rfl) tw_222 rfl dX2_replace_42 ?_
      refine V_gload_n X dX2_replace_45 rfl rfl ?_
      refine V_geti X ob_39 rfl rfl hin_X2 10 (Nat.le_of_ble_eq_true rfl) tw_216 rfl dX2_replace_46 ?_
      refine V_cVI X hf [vi a2, gr G 13, vi 0, vi (w3 39 14), vi (w3 39 10)] _ 5 (fun _ h => m_X6_append hj is_13 h) (ob_X6 hj) rfl tw_641 tw_87 tw_1101 tw_639 tw_640 dX2_replace_49 ⟨by decide +kernel, by decide +kernel, by decide +kernel⟩ ⟨rfl, rfl⟩ ⟨Nat.le_of_ble_eq_true rfl, Nat.le_of_ble_eq_true rfl⟩ rfl (Nat.le_of_ble_eq_true rfl) ⟨Nat.zero_le _, Nat.zero_le _⟩ (fun r4 w4 hf => ?_)
      refine V_if_eq X (tgt := 59) dX2_replace_52 (by decide) hf (fun hf => ?_) (fun hf => ?_)
      · refine V_iconst X dX2_replace_59 ?_
        exact V_zret X hE dX2_replace_60 (Or.inl rfl) hf
      · refine V_iconst X dX2_replace_55 ?_
        refine V_goto X (tgt := 60) dX2_replace_56 (by decide) ?_
        exact V_zret X hE dX2_replace_60 (Or.inr rfl) hf
