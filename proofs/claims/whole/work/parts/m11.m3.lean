abbrev rmX6_readNumber : Room := { frames := 1, cells := 0, slots := 0, locals := 23 }
set_option maxRecDepth 20000 in
theorem v_X6_readNumber_46 {G : GG} {E : EE} (X : Cx G E cX6_readNumber RX6 (some .long) rmX6_readNumber 8) {q : (Int × WS)} (hE : EndL G E q) {i : Nat} (hi : isX6 i) : ∀ (n : Nat) (a1 a2 a3 a4 a6 : Int) (w : WS), f_X6_readNumber_46 i  n a1 a2 a3 a4 a6 w = some q → VV G E 0 0 46 [(0, gr G i), (1, vi a1), (2, vi a2), (3, vi a3), (4, vl a4), (6, vi a6)] [] w := by
  intro n
  induction n with
  | zero => intro a1 a2 a3 a4 a6 w hf; cases hf
  | succ n ih =>
    intro a1 a2 a3 a4 a6 w hf
    rw [f_X6_readNumber_46_s] at hf
    refine V_iload X dX6_readNumber_46 rfl ?_
    refine V_iload_n X dX6_readNumber_48 rfl rfl ?_
    refine V_icmp_ge X (tgt := 98) dX6_readNumber_49 (by decide) hf (fun hf => ?_) (fun hf => ?_)
    · refine V_gload_n X dX6_readNumber_52 rfl rfl ?_
      refine V_iload_n X dX6_readNumber_53 rfl rfl ?_
      refine V_iload X dX6_readNumber_54 rfl ?_
      refine V_cVI X hf [vi a1, vi a6] _ 2 (fun _ h => m_X6_sign hi h) (ob_X6 hi) rfl tw_488 tw_87 tw_972 tw_486 tw_487 dX6_readNumber_56 ⟨by decide +kernel, by decide +kernel, by decide +kernel⟩ ⟨rfl, rfl⟩ ⟨Nat.le_of_ble_eq_true rfl, Nat.le_of_ble_eq_true rfl⟩ rfl (Nat.le_of_ble_eq_true rfl) ⟨Nat.zero_le _, Nat.zero_le _⟩ (fun r3 w3 hf => ?_)
      refine V_bipush X dX6_readNumber_59 (by decide) ?_
      refine V_isub X dX6_readNumber_61 ?_
      refine V_istore X dX6_readNumber_62 (by decide) ?_
      refine V_iload X dX6_readNumber_64 rfl ?_
      refine V_if_lt X (tgt := 76) dX6_readNumber_66 (by decide) hf (fun hf => ?_) (fun hf => ?_)
      · refine V_ldc2 (a := (-1000000000000)) X tw_973 dX6_readNumber_76 (by decide) ?_
        exact V_lret X hE dX6_readNumber_79 hf
      · refine V_iload X dX6_readNumber_69 rfl ?_
        refine V_bipush X dX6_readNumber_71 (by decide) ?_
        refine V_icmp_le X (tgt := 80) dX6_readNumber_73 (by decide) hf (fun hf => ?_) (fun hf => ?_)
        · refine V_ldc2 (a := (-1000000000000)) X tw_973 dX6_readNumber_76 (by decide) ?_
          exact V_lret X hE dX6_readNumber_79 hf
        · refine V_ldc2 (a := 10) X tw_974 dX6_readNumber_80 (by decide) ?_
          refine V_lload X dX6_readNumber_83 rfl ?_
          refine V_lmul X dX6_readNumber_85 ?_
          refine V_iload X dX6_readNumber_86 rfl ?_
          refine V_i2l X dX6_readNumber_88 ?_
          refine V_ladd X dX6_readNumber_89 ?_
          refine V_lstore X dX6_readNumber_90 (by decide) ?_
          refine V_iinc X dX6_readNumber_92 rfl (by decide) ?_
          refine V_goto X (tgt := 46) dX6_readNumber_95 (by decide) ?_
          exact V_cut [0, 1, 2, 3, 4, 6] rfl (ih _ _ _ _ _ _ hf)
    · refine V_iload_n X dX6_readNumber_98 rfl rfl ?_
      refine V_iconst X dX6_readNumber_99 ?_
      refine V_icmp_ne X (tgt := 109) dX6_readNumber_100 (by decide) hf (fun hf => ?_) (fun hf => ?_)
      · refine V_lload X dX6_readNumber_103 rfl ?_
        refine V_lneg X dX6_readNumber_105 ?_
        refine V_goto X (tgt := 111) dX6_readNumber_106 (by decide) ?_
        exact V_lret X hE dX6_readNumber_111 hf
      · refine V_lload X dX6_readNumber_109 rfl ?_
        exact V_lret X hE dX6_readNumber_111 hf
set_option maxRecDepth 20000 in
theorem v_X6_readNumber_16 {G : GG} {E : EE} (X : Cx G E cX6_readNumber RX6 (some .long) rmX6_readNumber 8) {q : (Int × WS)} (hE : EndL G E q) {i : Nat} (hi : isX6 i) {a1 s0 : Int} {w : WS} (hf : f_X6_readNumber_16 i  a1 s0 w = some q) : VV G E 0 0 16 [(0, gr G i), (1, vi a1)] [vi s0] w := by
  unfold f_X6_readNumber_16 at hf
  refine V_istore_n X dX6_readNumber_16 rfl (by decide) ?_
  refine V_gload_n X dX6_readNumber_17 rfl rfl ?_
  refine V_iload_n X dX6_readNumber_18 rfl rfl ?_
  refine V_cVI X hf [vi a1] _ 1 (fun _ h => m_X6_length hi h) (ob_X6 hi) rfl tw_466 tw_87 tw_637 tw_464 tw_465 dX6_readNumber_19 ⟨by decide +kernel, by decide +kernel, by decide +kernel⟩ ⟨rfl, rfl⟩ ⟨Nat.le_of_ble_eq_true rfl, Nat.le_of_ble_eq_true rfl⟩ rfl (Nat.le_of_ble_eq_true rfl) ⟨Nat.zero_le _, Nat.zero_le _⟩ (fun r2 w2 hf => ?_)
  refine V_istore_n X dX6_readNumber_22 rfl (by decide) ?_
  refine V_iload_n X dX6_readNumber_23 rfl rfl ?_
  refine V_iload_n X dX6_readNumber_24 rfl rfl ?_
  refine V_icmp_eq X (tgt := 36) dX6_readNumber_25 (by decide) hf (fun hf => ?_) (fun hf => ?_)
  · refine V_ldc2 (a := (-1000000000000)) X tw_973 dX6_readNumber_36 (by decide) ?_
    exact V_lret X hE dX6_readNumber_39 hf
  · refine V_iload_n X dX6_readNumber_28 rfl rfl ?_
    refine V_iload_n X dX6_readNumber_29 rfl rfl ?_
    refine V_bipush X dX6_readNumber_30 (by decide) ?_
    refine V_iadd X dX6_readNumber_32 ?_
    refine V_icmp_le X (tgt := 40) dX6_readNumber_33 (by decide) hf (fun hf => ?_) (fun hf => ?_)
    · refine V_ldc2 (a := (-1000000000000)) X tw_973 dX6_readNumber_36 (by decide) ?_
      exact V_lret X hE dX6_readNumber_39 hf
    · refine V_lconst (a := 0) X dX6_readNumber_40 (by decide) ?_
      refine V_lstore X dX6_readNumber_41 (by decide) ?_
      refine V_iload_n X dX6_readNumber_43 rfl rfl ?_
      refine V_istore X dX6_readNumber_44 (by decide) ?_
      exact V_cut [0, 1, 2, 3, 4, 6] rfl (v_X6_readNumber_46 X hE hi FU _ _ _ _ _ _ hf)
set_option maxRecDepth 20000 in
theorem m_X6_readNumber {G : GG} {i : Nat} {a1 : Int} {w : WS} {q : (Int × WS)} (hi : isX6 i) (hf : f_X6_readNumber i a1 w = some q) : ML G yX6_readNumber cX6_readNumber 8 (some .long) rmX6_readNumber [gr G i, vi a1] w q := by
  refine ML_of (by decide +kernel) (Nat.le_of_ble_eq_true rfl) (fun E X hE => ?_)
  have X : Cx G E cX6_readNumber RX6 (some .long) rmX6_readNumber 8 := X
  unfold f_X6_readNumber at hf
  refine V_gload_n X dX6_readNumber_0 rfl rfl ?_
  refine V_iload_n X dX6_readNumber_1 rfl rfl ?_
  refine V_iconst X dX6_readNumber_2 ?_
  refine V_cVI X hf [vi a1, vi 0] _ 2 (fun _ h => m_X6_sign hi h) (ob_X6 hi) rfl tw_488 tw_87 tw_972 tw_486 tw_487 dX6_readNumber_3 ⟨by decide +kernel, by decide +kernel, by decide +kernel⟩ ⟨rfl, rfl⟩ ⟨Nat.le_of_ble_eq_true rfl, Nat.le_of_ble_eq_true rfl⟩ rfl (Nat.le_of_ble_eq_true rfl) ⟨Nat.zero_le _, Nat.zero_le _⟩ (fun r1 w1 hf => ?_)
  refine V_bipush X dX6_readNumber_6 (by decide) ?_
  refine V_icmp_ne X (tgt := 15) dX6_readNumber_8 (by decide) hf (fun hf => ?_) (fun hf => ?_)
  · refine V_iconst X dX6_readNumber_11 ?_
    refine V_goto X (tgt := 16) dX6_readNumber_12 (by decide) ?_
    exact V_cut [0, 1] rfl (v_X6_readNumber_16 X hE hi hf)
  · refine V_iconst X dX6_readNumber_15 ?_
    exact V_cut [0, 1] rfl (v_X6_readNumber_16 X hE hi hf)
abbrev rmX5_formRepeated : Room := { frames := 1, cells := 0, slots := 0, locals := 31 }
set_option maxRecDepth 20000 in
theorem v_X5_formRepeated_19 {G : GG} {E : EE} (X : Cx G E cX5_formRepeated RX5 (some .int) rmX5_formRepeated 6) {q : (Int × WS)} (hE : EndI G E q)   : ∀ (n : Nat) (a1 a2 a3 a5 : Int) (w : WS), f_X5_formRepeated_19   n a1 a2 a3 a5 w = some q → VV G E 0 0 19 [(0, gr G 54), (1, vi a1), (2, vi a2), (3, vl a3), (5, vi a5)] [] w := by
  intro n
  induction n with
  | zero => intro a1 a2 a3 a5 w hf; cases hf
  | succ n ih =>
    intro a1 a2 a3 a5 w hf
    rw [f_X5_formRepeated_19_s] at hf
    refine V_iload X dX5_formRepeated_19 rfl ?_
    refine V_i2l X dX5_formRepeated_21 ?_
    refine V_lload_n X dX5_formRepeated_22 rfl rfl ?_
    refine V_lcmp_ge X (tgt := 60) (pc2 := 24) dX5_formRepeated_23 rfl dX5_formRepeated_24 (by decide) hf (fun hf => ?_) (fun hf => ?_)
    · refine V_gload_n X dX5_formRepeated_27 rfl rfl ?_
      refine V_getr X ob_54 rfl rfl hin_X5 3 (Nat.le_of_ble_eq_true rfl) tw_271 rfl dX5_formRepeated_28 ?_
      refine V_iload_n X dX5_formRepeated_31 rfl rfl ?_
      refine V_gload_n X dX5_formRepeated_32 rfl rfl ?_
      refine V_getr X ob_54 rfl rfl hin_X5 3 (Nat.le_of_ble_eq_true rfl) tw_271 rfl dX5_formRepeated_33 ?_
      refine V_iload_n X dX5_formRepeated_36 rfl rfl ?_
      refine V_iconst X dX5_formRepeated_37 ?_
      refine V_gload_n X dX5_formRepeated_38 rfl rfl ?_
      refine V_getr X ob_54 rfl rfl hin_X5 3 (Nat.le_of_ble_eq_true rfl) tw_271 rfl dX5_formRepeated_39 ?_
      refine V_iload_n X dX5_formRepeated_42 rfl rfl ?_
      refine V_cVI X hf [vi a2] _ 1 (fun _ h => m_X6_length is_16 h) ob_16 rfl tw_466 tw_87 tw_981 tw_464 tw_465 dX5_formRepeated_43 ⟨by decide +kernel, by decide +kernel, by decide +kernel⟩ ⟨rfl, rfl⟩ ⟨Nat.le_of_ble_eq_true rfl, Nat.le_of_ble_eq_true rfl⟩ rfl (Nat.le_of_ble_eq_true rfl) ⟨Nat.zero_le _, Nat.zero_le _⟩ (fun r1 w1 hf => ?_)
      refine V_cVI X hf [vi a1, gr G 16, vi a2, vi 0, vi r1] _ 5 (fun _ h => m_X6_append is_16 is_16 h) ob_16 rfl tw_641 tw_87 tw_982 tw_639 tw_640 dX5_formRepeated_46 ⟨by decide +kernel, by decide +kernel, by decide +kernel⟩ ⟨rfl, rfl⟩ ⟨Nat.le_of_ble_eq_true rfl, Nat.le_of_ble_eq_true rfl⟩ rfl (Nat.le_of_ble_eq_true rfl) ⟨Nat.zero_le _, Nat.zero_le _⟩ (fun r2 w2 hf => ?_)
      refine V_if_ne X (tgt := 54) dX5_formRepeated_49 (by decide) hf (fun hf => ?_) (fun hf => ?_)
      · refine V_iconst X dX5_formRepeated_52 ?_
        exact V_iret X hE dX5_formRepeated_53 hf
      · refine V_iinc X dX5_formRepeated_54 rfl (by decide) ?_
        refine V_goto X (tgt := 19) dX5_formRepeated_57 (by decide) ?_
        exact V_cut [0, 1, 2, 3, 5] rfl (ih _ _ _ _ _ hf)
    · refine V_iconst X dX5_formRepeated_60 ?_
      exact V_iret X hE dX5_formRepeated_61 hf
set_option maxRecDepth 20000 in
theorem m_X5_formRepeated {G : GG} {a1 : Int} {a2 : Int} {a3 : Int} {w : WS} {q : (Int × WS)}  (hf : f_X5_formRepeated a1 a2 a3 w = some q) : MI G yX5_formRepeated cX5_formRepeated 6 (some .int) rmX5_formRepeated [gr G 54, vi a1, vi a2, vl a3] w q := by
  refine MI_of (by decide +kernel) (Nat.le_of_ble_eq_true rfl) (fun E X hE => ?_)
  have X : Cx G E cX5_formRepeated RX5 (some .int) rmX5_formRepeated 6 := X
  unfold f_X5_formRepeated at hf
  refine V_lload_n X dX5_formRepeated_0 rfl rfl ?_
  refine V_lconst (a := 0) X dX5_formRepeated_1 (by decide) ?_
  refine V_lcmp_lt X (tgt := 14) (pc2 := 3) dX5_formRepeated_2 rfl dX5_formRepeated_3 (by decide) hf (fun hf => ?_) (fun hf => ?_)
  · refine V_iconst X dX5_formRepeated_14 ?_
    exact V_iret X hE dX5_formRepeated_15 hf
  · refine V_lload_n X dX5_formRepeated_6 rfl rfl ?_
    refine V_ldc2 (a := 60) X tw_980 dX5_formRepeated_7 (by decide) ?_
    refine V_lcmp_le X (tgt := 16) (pc2 := 11) dX5_formRepeated_10 rfl dX5_formRepeated_11 (by decide) hf (fun hf => ?_) (fun hf => ?_)
    · refine V_iconst X dX5_formRepeated_14 ?_
      exact V_iret X hE dX5_formRepeated_15 hf
    · refine V_iconst X dX5_formRepeated_16 ?_
      refine V_istore X dX5_formRepeated_17 (by decide) ?_
      exact V_cut [0, 1, 2, 3, 5] rfl (v_X5_formRepeated_19 X hE FU _ _ _ _ _ hf)
abbrev rmX5_reckon : Room := { frames := 2, cells := 0, slots := 0, locals := 56 }
set_option maxRecDepth 20000 in
theorem v_X5_reckon_212 {G : GG} {E : EE} (X : Cx G E cX5_reckon RX5 (some .int) rmX5_reckon 10) {q : (Int × WS)} (hE : EndI G E q)   {a1 a8 : Int} {w : WS} (hf : f_X5_reckon_212   a1 a8 w = some q) : VV G E 0 0 212 [(0, gr G 54), (1, vi a1), (8, vl a8)] [] w := by
  unfold f_X5_reckon_212 at hf
  refine V_lload X dX5_reckon_212 rfl ?_
  refine V_ldc2 (a := 999999999) X tw_983 dX5_reckon_214 (by decide) ?_
  refine V_lcmp_gt X (tgt := 230) (pc2 := 218) dX5_reckon_217 rfl dX5_reckon_218 (by decide) hf (fun hf => ?_) (fun hf => ?_)
  · refine V_iconst X dX5_reckon_230 ?_
    exact V_iret X hE dX5_reckon_231 hf
  · refine V_lload X dX5_reckon_221 rfl ?_
    refine V_ldc2 (a := (-999999999)) X tw_984 dX5_reckon_223 (by decide) ?_
    refine V_lcmp_ge X (tgt := 232) (pc2 := 227) dX5_reckon_226 rfl dX5_reckon_227 (by decide) hf (fun hf => ?_) (fun hf => ?_)
    · refine V_iconst X dX5_reckon_230 ?_
      exact V_iret X hE dX5_reckon_231 hf
    · refine V_gload_n X dX5_reckon_232 rfl rfl ?_
      refine V_getr X ob_54 rfl rfl hin_X5 3 (Nat.le_of_ble_eq_true rfl) tw_271 rfl dX5_reckon_233 ?_
      refine V_iload_n X dX5_reckon_236 rfl rfl ?_
      refine V_lload X dX5_reckon_237 rfl ?_
      refine V_cVV X hf [vi a1, vl a8] _ 2 (fun _ h => m_X6_writeNumber is_16 h) ob_16 rfl tw_988 tw_87 tw_985 tw_986 tw_987 dX5_reckon_239 ⟨by decide +kernel, by decide +kernel, by decide +kernel⟩ ⟨rfl, rfl⟩ ⟨Nat.le_of_ble_eq_true rfl, Nat.le_of_ble_eq_true rfl⟩ rfl (Nat.le_of_ble_eq_true rfl) ⟨Nat.zero_le _, Nat.zero_le _⟩ (fun r5 w5 hf => ?_)
      refine V_iconst X dX5_reckon_242 ?_
      exact V_iret X hE dX5_reckon_243 hf
set_option maxRecDepth 20000 in
theorem v_X5_reckon_42 {G : GG} {E : EE} (X : Cx G E cX5_reckon RX5 (some .int) rmX5_reckon 10) {q : (Int × WS)} (hE : EndI G E q)   {a1 a2 a3 s0 : Int} {w : WS} (hf : f_X5_reckon_42   a1 a2 a3 s0 w = some q) : VV G E 0 0 42 [(0, gr G 54), (1, vi a1), (2, vi a2), (3, vi a3)] [vl s0] w := by
  unfold f_X5_reckon_42 at hf
  refine V_lstore X dX5_reckon_42 (by decide) ?_
  refine V_gload_n X dX5_reckon_44 rfl rfl ?_
  refine V_getr X ob_54 rfl rfl hin_X5 3 (Nat.le_of_ble_eq_true rfl) tw_271 rfl dX5_reckon_45 ?_
  refine V_gload_n X dX5_reckon_48 rfl rfl ?_
  refine V_getr X ob_54 rfl rfl hin_X5 0 (Nat.le_of_ble_eq_true rfl) tw_268 rfl dX5_reckon_49 ?_
  refine V_getrN X ob_32 rfl rfl hin_X0 3 (Nat.le_of_ble_eq_true rfl) nw_4 rfl dX5_reckon_52 ?_
  refine V_iload_n X dX5_reckon_55 rfl rfl ?_
  refine V_cVI X hf [vi a1] _ 1 (fun _ h => m_X1_get is_37 h) ob_37 rfl tw_500 tw_89 tw_959 tw_498 tw_499 dX5_reckon_56 ⟨by decide +kernel, by decide +kernel, by decide +kernel⟩ ⟨rfl, rfl⟩ ⟨Nat.le_of_ble_eq_true rfl, Nat.le_of_ble_eq_true rfl⟩ rfl (Nat.le_of_ble_eq_true rfl) ⟨Nat.zero_le _, Nat.zero_le _⟩ (fun r3 w3 hf => ?_)
  refine V_cVL X hf [vi r3] _ 1 (fun _ h => m_X6_readNumber is_16 h) ob_16 rfl tw_971 tw_87 tw_968 tw_969 tw_970 dX5_reckon_59 ⟨by decide +kernel, by decide +kernel, by decide +kernel⟩ ⟨rfl, rfl⟩ ⟨Nat.le_of_ble_eq_true rfl, Nat.le_of_ble_eq_true rfl⟩ rfl (Nat.le_of_ble_eq_true rfl) ⟨Nat.zero_le _, Nat.zero_le _⟩ (fun r4 w4 hf => ?_)
  refine V_lstore X dX5_reckon_62 (by decide) ?_
  refine V_lload X dX5_reckon_64 rfl ?_
  refine V_ldc2 (a := (-1000000000000)) X tw_975 dX5_reckon_66 (by decide) ?_
  refine V_lcmp_eq X (tgt := 82) (pc2 := 70) dX5_reckon_69 rfl dX5_reckon_70 (by decide) hf (fun hf => ?_) (fun hf => ?_)
  · refine V_iconst X dX5_reckon_82 ?_
    exact V_iret X hE dX5_reckon_83 hf
  · refine V_lload X dX5_reckon_73 rfl ?_
    refine V_ldc2 (a := (-1000000000000)) X tw_975 dX5_reckon_75 (by decide) ?_
    refine V_lcmp_ne X (tgt := 84) (pc2 := 79) dX5_reckon_78 rfl dX5_reckon_79 (by decide) hf (fun hf => ?_) (fun hf => ?_)
    · refine V_iconst X dX5_reckon_82 ?_
      exact V_iret X hE dX5_reckon_83 hf
    · refine V_lconst (a := 0) X dX5_reckon_84 (by decide) ?_
      refine V_lstore X dX5_reckon_85 (by decide) ?_
      refine V_iload_n X dX5_reckon_87 rfl rfl ?_
      refine ite_c hf (fun h0 hf => ?_) (fun h0 hf => ?_)
      · refine V_lookup X (off := 72) (tgt := 160) dX5_reckon_88 (by decide) (by exact off_pos h0) (by decide) ?_
        refine V_lload X dX5_reckon_160 rfl ?_
        refine V_lload X dX5_reckon_162 rfl ?_
        refine V_lmul X dX5_reckon_164 ?_
        refine V_lstore X dX5_reckon_165 (by decide) ?_
        refine V_goto X (tgt := 212) dX5_reckon_167 (by decide) ?_
        exact V_cut [0, 1, 8] rfl (v_X5_reckon_212 X hE hf)
      refine ite_c hf (fun h1 hf => ?_) (fun h1 hf => ?_)
      · refine V_lookup X (off := 52) (tgt := 140) dX5_reckon_88 (by decide) (by exact off_neg h0 (off_pos h1)) (by decide) ?_
        refine V_lload X dX5_reckon_140 rfl ?_
        refine V_lload X dX5_reckon_142 rfl ?_
        refine V_ladd X dX5_reckon_144 ?_
        refine V_lstore X dX5_reckon_145 (by decide) ?_
        refine V_goto X (tgt := 212) dX5_reckon_147 (by decide) ?_
        exact V_cut [0, 1, 8] rfl (v_X5_reckon_212 X hE hf)
      refine ite_c hf (fun h2 hf => ?_) (fun h2 hf => ?_)
      · refine V_lookup X (off := 62) (tgt := 150) dX5_reckon_88 (by decide) (by exact off_neg h0 (off_neg h1 (off_pos h2))) (by decide) ?_
        refine V_lload X dX5_reckon_150 rfl ?_
        refine V_lload X dX5_reckon_152 rfl ?_
        refine V_lsub X dX5_reckon_154 ?_
        refine V_lstore X dX5_reckon_155 (by decide) ?_
        refine V_goto X (tgt := 212) dX5_reckon_157 (by decide) ?_
        exact V_cut [0, 1, 8] rfl (v_X5_reckon_212 X hE hf)
      refine ite_c hf (fun h3 hf => ?_) (fun h3 hf => ?_)
      · refine V_lookup X (off := 82) (tgt := 170) dX5_reckon_88 (by decide) (by exact off_neg h0 (off_neg h1 (off_neg h2 (off_pos h3)))) (by decide) ?_
        refine V_lload X dX5_reckon_170 rfl ?_
        refine V_lconst (a := 0) X dX5_reckon_172 (by decide) ?_
        refine V_lcmp_ne X (tgt := 179) (pc2 := 174) dX5_reckon_173 rfl dX5_reckon_174 (by decide) hf (fun hf => ?_) (fun hf => ?_)
        · refine V_iconst X dX5_reckon_177 ?_
          exact V_iret X hE dX5_reckon_178 hf
        · refine V_lload X dX5_reckon_179 rfl ?_
          refine V_lload X dX5_reckon_181 rfl ?_
          obtain ⟨hne, hf⟩ := ite_n hf
          refine V_ldiv X dX5_reckon_183 hne ?_
          refine V_lstore X dX5_reckon_184 (by decide) ?_
          refine V_goto X (tgt := 212) dX5_reckon_186 (by decide) ?_
          exact V_cut [0, 1, 8] rfl (v_X5_reckon_212 X hE hf)
      refine ite_c hf (fun h4 hf => ?_) (fun h4 hf => ?_)
      · refine V_lookup X (off := 101) (tgt := 189) dX5_reckon_88 (by decide) (by exact off_neg h0 (off_neg h1 (off_neg h2 (off_neg h3 (off_pos h4))))) (by decide) ?_
        refine V_lload X dX5_reckon_189 rfl ?_
        refine V_lload X dX5_reckon_191 rfl ?_
        refine V_lcmp_ge X (tgt := 201) (pc2 := 194) dX5_reckon_193 rfl dX5_reckon_194 (by decide) hf (fun hf => ?_) (fun hf => ?_)
        · refine V_iconst X dX5_reckon_197 ?_
          refine V_goto X (tgt := 202) dX5_reckon_198 (by decide) ?_
          exact V_iret X hE dX5_reckon_202 hf
        · refine V_iconst X dX5_reckon_201 ?_
          exact V_iret X hE dX5_reckon_202 hf
      refine V_lookup X (off := 115) (tgt := 203) dX5_reckon_88 (by decide) (by exact off_neg h0 (off_neg h1 (off_neg h2 (off_neg h3 (off_neg h4 (rfl)))))) (by decide) ?_
      refine V_gload_n X dX5_reckon_203 rfl rfl ?_
      refine V_iload_n X dX5_reckon_204 rfl rfl ?_
      refine V_iload_n X dX5_reckon_205 rfl rfl ?_
      refine V_lload X dX5_reckon_206 rfl ?_
      refine V_cVI X hf [vi a1, vi a3, vl r4] _ 3 (fun _ h => m_X5_formRepeated h) ob_54 rfl tw_979 tw_92 tw_976 tw_978 tw_10 dX5_reckon_208 ⟨by decide +kernel, by decide +kernel, by decide +kernel⟩ ⟨rfl, rfl⟩ ⟨Nat.le_of_ble_eq_true rfl, Nat.le_of_ble_eq_true rfl⟩ rfl (Nat.le_of_ble_eq_true rfl) ⟨Nat.zero_le _, Nat.zero_le _⟩ (fun r6 w6 hf => ?_)
      exact V_iret X hE dX5_reckon_211 hf
set_option maxRecDepth 20000 in
theorem m_X5_reckon {G : GG} {a1 : Int} {w : WS} {q : (Int × WS)}  (hf : f_X5_reckon a1 w = some q) : MI G yX5_reckon cX5_reckon 10 (some .int) rmX5_reckon [gr G 54, vi a1] w q := by
  refine MI_of (by decide +kernel) (Nat.le_of_ble_eq_true rfl) (fun E X hE => ?_)
  have X : Cx G E cX5_reckon RX5 (some .int) rmX5_reckon 10 := X
  unfold f_X5_reckon at hf
  refine V_gload_n X dX5_reckon_0 rfl rfl ?_
  refine V_getr X ob_54 rfl rfl hin_X5 0 (Nat.le_of_ble_eq_true rfl) tw_268 rfl dX5_reckon_1 ?_
  refine V_getrN X ob_32 rfl rfl hin_X0 1 (Nat.le_of_ble_eq_true rfl) nw_0 rfl dX5_reckon_4 ?_
  refine V_iload_n X dX5_reckon_7 rfl rfl ?_
  refine V_cVI X hf [vi a1] _ 1 (fun _ h => m_X1_get is_33 h) ob_33 rfl tw_500 tw_89 tw_959 tw_498 tw_499 dX5_reckon_8 ⟨by decide +kernel, by decide +kernel, by decide +kernel⟩ ⟨rfl, rfl⟩ ⟨Nat.le_of_ble_eq_true rfl, Nat.le_of_ble_eq_true rfl⟩ rfl (Nat.le_of_ble_eq_true rfl) ⟨Nat.zero_le _, Nat.zero_le _⟩ (fun r1 w1 hf => ?_)
  refine V_istore_n X dX5_reckon_11 rfl (by decide) ?_
  refine V_gload_n X dX5_reckon_12 rfl rfl ?_
  refine V_getr X ob_54 rfl rfl hin_X5 0 (Nat.le_of_ble_eq_true rfl) tw_268 rfl dX5_reckon_13 ?_
  refine V_getrN X ob_32 rfl rfl hin_X0 2 (Nat.le_of_ble_eq_true rfl) nw_2 rfl dX5_reckon_16 ?_
  refine V_iload_n X dX5_reckon_19 rfl rfl ?_
  refine V_cVI X hf [vi a1] _ 1 (fun _ h => m_X1_get is_35 h) ob_35 rfl tw_500 tw_89 tw_959 tw_498 tw_499 dX5_reckon_20 ⟨by decide +kernel, by decide +kernel, by decide +kernel⟩ ⟨rfl, rfl⟩ ⟨Nat.le_of_ble_eq_true rfl, Nat.le_of_ble_eq_true rfl⟩ rfl (Nat.le_of_ble_eq_true rfl) ⟨Nat.zero_le _, Nat.zero_le _⟩ (fun r2 w2 hf => ?_)
  refine V_istore_n X dX5_reckon_23 rfl (by decide) ?_
  refine V_iload_n X dX5_reckon_24 rfl rfl ?_
  refine V_bipush X dX5_reckon_25 (by decide) ?_
  refine V_icmp_ne X (tgt := 34) dX5_reckon_27 (by decide) hf (fun hf => ?_) (fun hf => ?_)
  · refine V_lconst (a := 0) X dX5_reckon_30 (by decide) ?_
    refine V_goto X (tgt := 42) dX5_reckon_31 (by decide) ?_
    exact V_cut [0, 1, 2, 3] rfl (v_X5_reckon_42 X hE hf)
  · refine V_gload_n X dX5_reckon_34 rfl rfl ?_
    refine V_getr X ob_54 rfl rfl hin_X5 3 (Nat.le_of_ble_eq_true rfl) tw_271 rfl dX5_reckon_35 ?_
    refine V_iload_n X dX5_reckon_38 rfl rfl ?_
    refine V_cVL X hf [vi r2] _ 1 (fun _ h => m_X6_readNumber is_16 h) ob_16 rfl tw_971 tw_87 tw_968 tw_969 tw_970 dX5_reckon_39 ⟨by decide +kernel, by decide +kernel, by decide +kernel⟩ ⟨rfl, rfl⟩ ⟨Nat.le_of_ble_eq_true rfl, Nat.le_of_ble_eq_true rfl⟩ rfl (Nat.le_of_ble_eq_true rfl) ⟨Nat.zero_le _, Nat.zero_le _⟩ (fun r7 w7 hf => ?_)
    exact V_cut [0, 1, 2, 3] rfl (v_X5_reckon_42 X hE hf)
abbrev rmX5_variableNamed : Room := { frames := 1, cells := 0, slots := 0, locals := 23 }
set_option maxRecDepth 20000 in
theorem m_X5_variableNamed {G : GG} {a1 : Int} {w : WS} {q : (Int × WS)}  (hf : f_X5_variableNamed a1 w = some q) : MI G yX5_variableNamed cX5_variableNamed 3 (some .int) rmX5_variableNamed [gr G 54, vi a1] w q := by
  refine MI_of (by decide +kernel) (Nat.le_of_ble_eq_true rfl) (fun E X hE => ?_)
  have X : Cx G E cX5_variableNamed RX5 (some .int) rmX5_variableNamed 3 := X
  unfold f_X5_variableNamed at hf
  refine V_gload_n X dX5_variableNamed_0 rfl rfl ?_
  refine V_getr X ob_54 rfl rfl hin_X5 3 (Nat.le_of_ble_eq_true rfl) tw_271 rfl dX5_variableNamed_1 ?_
  refine V_iload_n X dX5_variableNamed_4 rfl rfl ?_
  refine V_iconst X dX5_variableNamed_5 ?_
  refine V_cVI X hf [vi a1, vi 0] _ 2 (fun _ h => m_X6_sign is_16 h) ob_16 rfl tw_488 tw_87 tw_1000 tw_486 tw_487 dX5_variableNamed_6 ⟨by decide +kernel, by decide +kernel, by decide +kernel⟩ ⟨rfl, rfl⟩ ⟨Nat.le_of_ble_eq_true rfl, Nat.le_of_ble_eq_true rfl⟩ rfl (Nat.le_of_ble_eq_true rfl) ⟨Nat.zero_le _, Nat.zero_le _⟩ (fun r1 w1 hf => ?_)
  refine V_bipush X dX5_variableNamed_9 (by decide) ?_
  refine V_isub X dX5_variableNamed_11 ?_
  refine V_istore_n X dX5_variableNamed_12 rfl (by decide) ?_
  refine V_gload_n X dX5_variableNamed_13 rfl rfl ?_
  refine V_getr X ob_54 rfl rfl hin_X5 3 (Nat.le_of_ble_eq_true rfl) tw_271 rfl dX5_variableNamed_14 ?_
  refine V_iload_n X dX5_variableNamed_17 rfl rfl ?_
  refine V_cVI X hf [vi a1] _ 1 (fun _ h => m_X6_length is_16 h) ob_16 rfl tw_466 tw_87 tw_981 tw_464 tw_465 dX5_variableNamed_18 ⟨by decide +kernel, by decide +kernel, by decide +kernel⟩ ⟨rfl, rfl⟩ ⟨Nat.le_of_ble_eq_true rfl, Nat.le_of_ble_eq_true rfl⟩ rfl (Nat.le_of_ble_eq_true rfl) ⟨Nat.zero_le _, Nat.zero_le _⟩ (fun r2 w2 hf => ?_)
  refine V_iconst X dX5_variableNamed_21 ?_
  refine V_icmp_ne X (tgt := 38) dX5_variableNamed_22 (by decide) hf (fun hf => ?_) (fun hf => ?_)
  · refine V_iload_n X dX5_variableNamed_25 rfl rfl ?_
    refine V_bipush X dX5_variableNamed_26 (by decide) ?_
    refine V_cSNI X hf [vi (r1 - 97), vi 26] _ 2 (fun _ h => m_X8_isBelow h) tw_678 tw_86 nw_32 tw_677 dX5_variableNamed_28 ⟨by decide +kernel, by decide +kernel, by decide +kernel⟩ ⟨rfl, rfl⟩ ⟨Nat.le_of_ble_eq_true rfl, Nat.le_of_ble_eq_true rfl⟩ rfl (Nat.le_of_ble_eq_true rfl) ⟨Nat.zero_le _, Nat.zero_le _⟩ (fun r3 w3 hf => ?_)
    refine V_if_eq X (tgt := 38) dX5_variableNamed_31 (by decide) hf (fun hf => ?_) (fun hf => ?_)
    · refine V_iconst X dX5_variableNamed_38 ?_
      exact V_iret X hE dX5_variableNamed_39 hf
    · refine V_iload_n X dX5_variableNamed_34 rfl rfl ?_
      refine V_goto X (tgt := 39) dX5_variableNamed_35 (by decide) ?_
      exact V_iret X hE dX5_variableNamed_39 hf
  · refine V_iconst X dX5_variableNamed_38 ?_
    exact V_iret X hE dX5_variableNamed_39 hf
abbrev rmX5_formBackward : Room := { frames := 1, cells := 0, slots := 0, locals := 23 }
set_option maxRecDepth 20000 in
theorem v_X5_formBackward_11 {G : GG} {E : EE} (X : Cx G E cX5_formBackward RX5 none rmX5_formBackward 4) {q : (Int × WS)} (hE : EndV G E q)   : ∀ (n : Nat) (a1 a2 a3 : Int) (w : WS), f_X5_formBackward_11   n a1 a2 a3 w = some q → VV G E 0 0 11 [(0, gr G 54), (1, vi a1), (2, vi a2), (3, vi a3)] [] w := by
  intro n
  induction n with
  | zero => intro a1 a2 a3 w hf; cases hf
  | succ n ih =>
    intro a1 a2 a3 w hf
    rw [f_X5_formBackward_11_s] at hf
    refine V_iload_n X dX5_formBackward_11 rfl rfl ?_
    refine V_if_lt X (tgt := 38) dX5_formBackward_12 (by decide) hf (fun hf => ?_) (fun hf => ?_)
    · exact V_vret X hE dX5_formBackward_38 hf
    · refine V_gload_n X dX5_formBackward_15 rfl rfl ?_
      refine V_getr X ob_54 rfl rfl hin_X5 3 (Nat.le_of_ble_eq_true rfl) tw_271 rfl dX5_formBackward_16 ?_
      refine V_iload_n X dX5_formBackward_19 rfl rfl ?_
      refine V_gload_n X dX5_formBackward_20 rfl rfl ?_
      refine V_getr X ob_54 rfl rfl hin_X5 3 (Nat.le_of_ble_eq_true rfl) tw_271 rfl dX5_formBackward_21 ?_
      refine V_iload_n X dX5_formBackward_24 rfl rfl ?_
      refine V_iload_n X dX5_formBackward_25 rfl rfl ?_
      refine V_cVI X hf [vi a2, vi a3] _ 2 (fun _ h => m_X6_sign is_16 h) ob_16 rfl tw_488 tw_87 tw_1000 tw_486 tw_487 dX5_formBackward_26 ⟨by decide +kernel, by decide +kernel, by decide +kernel⟩ ⟨rfl, rfl⟩ ⟨Nat.le_of_ble_eq_true rfl, Nat.le_of_ble_eq_true rfl⟩ rfl (Nat.le_of_ble_eq_true rfl) ⟨Nat.zero_le _, Nat.zero_le _⟩ (fun r2 w2 hf => ?_)
      refine V_cVV X hf [vi a1, vi r2] _ 2 (fun _ h => m_X6_add is_16 h) ob_16 rfl tw_606 tw_87 tw_1010 tw_604 tw_605 dX5_formBackward_29 ⟨by decide +kernel, by decide +kernel, by decide +kernel⟩ ⟨rfl, rfl⟩ ⟨Nat.le_of_ble_eq_true rfl, Nat.le_of_ble_eq_true rfl⟩ rfl (Nat.le_of_ble_eq_true rfl) ⟨Nat.zero_le _, Nat.zero_le _⟩ (fun r3 w3 hf => ?_)
      refine V_iinc X dX5_formBackward_32 rfl (by decide) ?_
      refine V_goto X (tgt := 11) dX5_formBackward_35 (by decide) ?_
      exact V_cut [0, 1, 2, 3] rfl (ih _ _ _ _ hf)
set_option maxRecDepth 20000 in
theorem m_X5_formBackward {G : GG} {a1 : Int} {a2 : Int} {w : WS} {q : (Int × WS)}  (hf : f_X5_formBackward a1 a2 w = some q) : MV G yX5_formBackward cX5_formBackward 4 none rmX5_formBackward [gr G 54, vi a1, vi a2] w q := by
  refine MV_of (by decide +kernel) (Nat.le_of_ble_eq_true rfl) (fun E X hE => ?_)
  have X : Cx G E cX5_formBackward RX5 none rmX5_formBackward 4 := X
  unfold f_X5_formBackward at hf
  refine V_gload_n X dX5_formBackward_0 rfl rfl ?_
  refine V_getr X ob_54 rfl rfl hin_X5 3 (Nat.le_of_ble_eq_true rfl) tw_271 rfl dX5_formBackward_1 ?_
  refine V_iload_n X dX5_formBackward_4 rfl rfl ?_
  refine V_cVI X hf [vi a2] _ 1 (fun _ h => m_X6_length is_16 h) ob_16 rfl tw_466 tw_87 tw_981 tw_464 tw_465 dX5_formBackward_5 ⟨by decide +kernel, by decide +kernel, by decide +kernel⟩ ⟨rfl, rfl⟩ ⟨Nat.le_of_ble_eq_true rfl, Nat.le_of_ble_eq_true rfl⟩ rfl (Nat.le_of_ble_eq_true rfl) ⟨Nat.zero_le _, Nat.zero_le _⟩ (fun r1 w1 hf => ?_)
  refine V_iconst X dX5_formBackward_8 ?_
  refine V_isub X dX5_formBackward_9 ?_
  refine V_istore_n X dX5_formBackward_10 rfl (by decide) ?_
  exact V_cut [0, 1, 2, 3] rfl (v_X5_formBackward_11 X hE FU _ _ _ _ hf)
abbrev rmX5_form : Room := { frames := 2, cells := 0, slots := 0, locals := 54 }
set_option maxRecDepth 20000 in
theorem m_X5_form {G : GG} {a1 : Int} {w : WS} {q : (Int × WS)}  (hf : f_X5_form a1 w = some q) : MI G yX5_form cX5_form 5 (some .int) rmX5_form [gr G 54, vi a1] w q := by
  refine MI_of (by decide +kernel) (Nat.le_of_ble_eq_true rfl) (fun E X hE => ?_)
  have X : Cx G E cX5_form RX5 (some .int) rmX5_form 5 := X
  unfold f_X5_form at hf
  refine V_gload_n X dX5_form_0 rfl rfl ?_
  refine V_getr X ob_54 rfl rfl hin_X5 0 (Nat.le_of_ble_eq_true rfl) tw_268 rfl dX5_form_1 ?_
  refine V_getrN X ob_32 rfl rfl hin_X0 2 (Nat.le_of_ble_eq_true rfl) nw_2 rfl dX5_form_4 ?_
  refine V_iload_n X dX5_form_7 rfl rfl ?_
  refine V_cVI X hf [vi a1] _ 1 (fun _ h => m_X1_get is_35 h) ob_35 rfl tw_500 tw_89 tw_959 tw_498 tw_499 dX5_form_8 ⟨by decide +kernel, by decide +kernel, by decide +kernel⟩ ⟨rfl, rfl⟩ ⟨Nat.le_of_ble_eq_true rfl, Nat.le_of_ble_eq_true rfl⟩ rfl (Nat.le_of_ble_eq_true rfl) ⟨Nat.zero_le _, Nat.zero_le _⟩ (fun r1 w1 hf => ?_)
  refine V_istore_n X dX5_form_11 rfl (by decide) ?_
  refine V_gload_n X dX5_form_12 rfl rfl ?_
  refine V_getr X ob_54 rfl rfl hin_X5 0 (Nat.le_of_ble_eq_true rfl) tw_268 rfl dX5_form_13 ?_
  refine V_getrN X ob_32 rfl rfl hin_X0 3 (Nat.le_of_ble_eq_true rfl) nw_4 rfl dX5_form_16 ?_
  refine V_iload_n X dX5_form_19 rfl rfl ?_
  refine V_cVI X hf [vi a1] _ 1 (fun _ h => m_X1_get is_37 h) ob_37 rfl tw_500 tw_89 tw_959 tw_498 tw_499 dX5_form_20 ⟨by decide +kernel, by decide +kernel, by decide +kernel⟩ ⟨rfl, rfl⟩ ⟨Nat.le_of_ble_eq_true rfl, Nat.le_of_ble_eq_true rfl⟩ rfl (Nat.le_of_ble_eq_true rfl) ⟨Nat.zero_le _, Nat.zero_le _⟩ (fun r2 w2 hf => ?_)
  refine V_istore_n X dX5_form_23 rfl (by decide) ?_
  refine V_gload_n X dX5_form_24 rfl rfl ?_
  refine V_getr X ob_54 rfl rfl hin_X5 0 (Nat.le_of_ble_eq_true rfl) tw_268 rfl dX5_form_25 ?_
  refine V_getrN X ob_32 rfl rfl hin_X0 1 (Nat.le_of_ble_eq_true rfl) nw_0 rfl dX5_form_28 ?_
  refine V_iload_n X dX5_form_31 rfl rfl ?_
  refine V_cVI X hf [vi a1] _ 1 (fun _ h => m_X1_get is_33 h) ob_33 rfl tw_500 tw_89 tw_959 tw_498 tw_499 dX5_form_32 ⟨by decide +kernel, by decide +kernel, by decide +kernel⟩ ⟨rfl, rfl⟩ ⟨Nat.le_of_ble_eq_true rfl, Nat.le_of_ble_eq_true rfl⟩ rfl (Nat.le_of_ble_eq_true rfl) ⟨Nat.zero_le _, Nat.zero_le _⟩ (fun r3 w3 hf => ?_)
  refine ite_c hf (fun h0 hf => ?_) (fun h0 hf => ?_)
  · refine V_lookup X (off := 157) (tgt := 192) dX5_form_35 (by decide) (by exact off_pos h0) (by decide) ?_
    refine V_gload_n X dX5_form_192 rfl rfl ?_
    refine V_getr X ob_54 rfl rfl hin_X5 3 (Nat.le_of_ble_eq_true rfl) tw_271 rfl dX5_form_193 ?_
    refine V_iload_n X dX5_form_196 rfl rfl ?_
    refine V_gload_n X dX5_form_197 rfl rfl ?_
    refine V_getr X ob_54 rfl rfl hin_X5 3 (Nat.le_of_ble_eq_true rfl) tw_271 rfl dX5_form_198 ?_
    refine V_iload_n X dX5_form_201 rfl rfl ?_
    refine V_cVI X hf [vi r1] _ 1 (fun _ h => m_X6_length is_16 h) ob_16 rfl tw_466 tw_87 tw_981 tw_464 tw_465 dX5_form_202 ⟨by decide +kernel, by decide +kernel, by decide +kernel⟩ ⟨rfl, rfl⟩ ⟨Nat.le_of_ble_eq_true rfl, Nat.le_of_ble_eq_true rfl⟩ rfl (Nat.le_of_ble_eq_true rfl) ⟨Nat.zero_le _, Nat.zero_le _⟩ (fun r4 w4 hf => ?_)
    refine V_i2l X dX5_form_205 ?_
    refine V_cVV X hf [vi a1, vl (wr r4)] _ 2 (fun _ h => m_X6_writeNumber is_16 h) ob_16 rfl tw_988 tw_87 tw_985 tw_986 tw_987 dX5_form_206 ⟨by decide +kernel, by decide +kernel, by decide +kernel⟩ ⟨rfl, rfl⟩ ⟨Nat.le_of_ble_eq_true rfl, Nat.le_of_ble_eq_true rfl⟩ rfl (Nat.le_of_ble_eq_true rfl) ⟨Nat.zero_le _, Nat.zero_le _⟩ (fun r5 w5 hf => ?_)
    refine V_iconst X dX5_form_209 ?_
    exact V_iret X hE dX5_form_210 hf
  refine ite_c hf (fun h1 hf => ?_) (fun h1 hf => ?_)
  · refine V_lookup X (off := 119) (tgt := 154) dX5_form_35 (by decide) (by exact off_neg h0 (off_pos h1)) (by decide) ?_
    refine V_gload_n X dX5_form_154 rfl rfl ?_
    refine V_getr X ob_54 rfl rfl hin_X5 3 (Nat.le_of_ble_eq_true rfl) tw_271 rfl dX5_form_155 ?_
    refine V_iload_n X dX5_form_158 rfl rfl ?_
    refine V_gload_n X dX5_form_159 rfl rfl ?_
    refine V_getr X ob_54 rfl rfl hin_X5 3 (Nat.le_of_ble_eq_true rfl) tw_271 rfl dX5_form_160 ?_
    refine V_iload_n X dX5_form_163 rfl rfl ?_
    refine V_cVI X hf [vi a1, gr G 16, vi r1] _ 3 (fun _ h => m_X6_appendAll is_16 is_16 h) ob_16 rfl tw_1005 tw_87 tw_1002 tw_1003 tw_1004 dX5_form_164 ⟨by decide +kernel, by decide +kernel, by decide +kernel⟩ ⟨rfl, rfl⟩ ⟨Nat.le_of_ble_eq_true rfl, Nat.le_of_ble_eq_true rfl⟩ rfl (Nat.le_of_ble_eq_true rfl) ⟨Nat.zero_le _, Nat.zero_le _⟩ (fun r6 w6 hf => ?_)
    refine V_if_eq X (tgt := 190) dX5_form_167 (by decide) hf (fun hf => ?_) (fun hf => ?_)
    · refine V_iconst X dX5_form_190 ?_
      exact V_iret X hE dX5_form_191 hf
    · refine V_gload_n X dX5_form_170 rfl rfl ?_
      refine V_getr X ob_54 rfl rfl hin_X5 3 (Nat.le_of_ble_eq_true rfl) tw_271 rfl dX5_form_171 ?_
      refine V_iload_n X dX5_form_174 rfl rfl ?_
      refine V_gload_n X dX5_form_175 rfl rfl ?_
      refine V_getr X ob_54 rfl rfl hin_X5 3 (Nat.le_of_ble_eq_true rfl) tw_271 rfl dX5_form_176 ?_
      refine V_iload_n X dX5_form_179 rfl rfl ?_
      refine V_cVI X hf [vi a1, gr G 16, vi r2] _ 3 (fun _ h => m_X6_appendAll is_16 is_16 h) ob_16 rfl tw_1005 tw_87 tw_1002 tw_1003 tw_1004 dX5_form_180 ⟨by decide +kernel, by decide +kernel, by decide +kernel⟩ ⟨rfl, rfl⟩ ⟨Nat.le_of_ble_eq_true rfl, Nat.le_of_ble_eq_true rfl⟩ rfl (Nat.le_of_ble_eq_true rfl) ⟨Nat.zero_le _, Nat.zero_le _⟩ (fun r7 w7 hf => ?_)
      refine V_if_eq X (tgt := 190) dX5_form_183 (by decide) hf (fun hf => ?_) (fun hf => ?_)
      · refine V_iconst X dX5_form_190 ?_
        exact V_iret X hE dX5_form_191 hf
      · refine V_iconst X dX5_form_186 ?_
        refine V_goto X (tgt := 191) dX5_form_187 (by decide) ?_
        exact V_iret X hE dX5_form_191 hf
  refine ite_c hf (fun h2 hf => ?_) (fun h2 hf => ?_)
  · refine V_lookup X (off := 176) (tgt := 211) dX5_form_35 (by decide) (by exact off_neg h0 (off_neg h1 (off_pos h2))) (by decide) ?_
    refine V_gload_n X dX5_form_211 rfl rfl ?_
    refine V_iload_n X dX5_form_212 rfl rfl ?_
    refine V_iload_n X dX5_form_213 rfl rfl ?_
    refine V_cVV X hf [vi a1, vi r1] _ 2 (fun _ h => m_X5_formBackward h) ob_54 rfl tw_1009 tw_92 tw_1006 tw_1008 tw_13 dX5_form_214 ⟨by decide +kernel, by decide +kernel, by decide +kernel⟩ ⟨rfl, rfl⟩ ⟨Nat.le_of_ble_eq_true rfl, Nat.le_of_ble_eq_true rfl⟩ rfl (Nat.le_of_ble_eq_true rfl) ⟨Nat.zero_le _, Nat.zero_le _⟩ (fun r8 w8 hf => ?_)
    refine V_iconst X dX5_form_217 ?_
    exact V_iret X hE dX5_form_218 hf
  refine ite_c hf (fun h3 hf => ?_) (fun h3 hf => ?_)
  · refine V_lookup X (off := 57) (tgt := 92) dX5_form_35 (by decide) (by exact off_neg h0 (off_neg h1 (off_neg h2 (off_pos h3)))) (by decide) ?_
    refine V_gload_n X dX5_form_92 rfl rfl ?_
    refine V_getr X ob_54 rfl rfl hin_X5 3 (Nat.le_of_ble_eq_true rfl) tw_271 rfl dX5_form_93 ?_
    refine V_iload_n X dX5_form_96 rfl rfl ?_
    refine V_gload_n X dX5_form_97 rfl rfl ?_
    refine V_getr X ob_54 rfl rfl hin_X5 1 (Nat.le_of_ble_eq_true rfl) tw_269 rfl dX5_form_98 ?_
    refine V_iload_n X dX5_form_101 rfl rfl ?_
    refine V_cVV X hf [vi a1, gr G 4, vi r1] _ 3 (fun _ h => m_X6_copy is_16 is_4 h) ob_16 rfl tw_635 tw_87 tw_995 tw_633 tw_634 dX5_form_102 ⟨by decide +kernel, by decide +kernel, by decide +kernel⟩ ⟨rfl, rfl⟩ ⟨Nat.le_of_ble_eq_true rfl, Nat.le_of_ble_eq_true rfl⟩ rfl (Nat.le_of_ble_eq_true rfl) ⟨Nat.zero_le _, Nat.zero_le _⟩ (fun r9 w9 hf => ?_)
    refine V_iconst X dX5_form_105 ?_
    exact V_iret X hE dX5_form_106 hf
  refine ite_c hf (fun h4 hf => ?_) (fun h4 hf => ?_)
  · refine V_lookup X (off := 72) (tgt := 107) dX5_form_35 (by decide) (by exact off_neg h0 (off_neg h1 (off_neg h2 (off_neg h3 (off_pos h4))))) (by decide) ?_
    refine V_gload_n X dX5_form_107 rfl rfl ?_
    refine V_getr X ob_54 rfl rfl hin_X5 3 (Nat.le_of_ble_eq_true rfl) tw_271 rfl dX5_form_108 ?_
    refine V_iload_n X dX5_form_111 rfl rfl ?_
    refine V_gload_n X dX5_form_112 rfl rfl ?_
    refine V_getr X ob_54 rfl rfl hin_X5 2 (Nat.le_of_ble_eq_true rfl) tw_270 rfl dX5_form_113 ?_
    refine V_iload_n X dX5_form_116 rfl rfl ?_
    refine V_cVV X hf [vi a1, gr G 7, vi r1] _ 3 (fun _ h => m_X6_copy is_16 is_7 h) ob_16 rfl tw_635 tw_87 tw_995 tw_633 tw_634 dX5_form_117 ⟨by decide +kernel, by decide +kernel, by decide +kernel⟩ ⟨rfl, rfl⟩ ⟨Nat.le_of_ble_eq_true rfl, Nat.le_of_ble_eq_true rfl⟩ rfl (Nat.le_of_ble_eq_true rfl) ⟨Nat.zero_le _, Nat.zero_le _⟩ (fun r10 w10 hf => ?_)
    refine V_iconst X dX5_form_120 ?_
    exact V_iret X hE dX5_form_121 hf
  refine ite_c hf (fun h5 hf => ?_) (fun h5 hf => ?_)
  · refine V_lookup X (off := 87) (tgt := 122) dX5_form_35 (by decide) (by exact off_neg h0 (off_neg h1 (off_neg h2 (off_neg h3 (off_neg h4 (off_pos h5)))))) (by decide) ?_
    refine V_gload_n X dX5_form_122 rfl rfl ?_
    refine V_iload_n X dX5_form_123 rfl rfl ?_
    refine V_cVI X hf [vi r1] _ 1 (fun _ h => m_X5_variableNamed h) ob_54 rfl tw_999 tw_92 tw_996 tw_998 tw_12 dX5_form_124 ⟨by decide +kernel, by decide +kernel, by decide +kernel⟩ ⟨rfl, rfl⟩ ⟨Nat.le_of_ble_eq_true rfl, Nat.le_of_ble_eq_true rfl⟩ rfl (Nat.le_of_ble_eq_true rfl) ⟨Nat.zero_le _, Nat.zero_le _⟩ (fun r11 w11 hf => ?_)
    refine V_istore X dX5_form_127 (by decide) ?_
    refine V_iload X dX5_form_129 rfl ?_
    refine V_iconst X dX5_form_131 ?_
    refine V_icmp_ne X (tgt := 138) dX5_form_132 (by decide) hf (fun hf => ?_) (fun hf => ?_)
    · refine V_bipush X dX5_form_135 (by decide) ?_
      exact V_iret X hE dX5_form_137 hf
    · refine V_gload_n X dX5_form_138 rfl rfl ?_
      refine V_getr X ob_54 rfl rfl hin_X5 3 (Nat.le_of_ble_eq_true rfl) tw_271 rfl dX5_form_139 ?_
      refine V_iload_n X dX5_form_142 rfl rfl ?_
      refine V_gload_n X dX5_form_143 rfl rfl ?_
      refine V_getr X ob_54 rfl rfl hin_X5 2 (Nat.le_of_ble_eq_true rfl) tw_270 rfl dX5_form_144 ?_
      refine V_iload X dX5_form_147 rfl ?_
      refine V_cVV X hf [vi a1, gr G 7, vi r11] _ 3 (fun _ h => m_X6_copy is_16 is_7 h) ob_16 rfl tw_635 tw_87 tw_995 tw_633 tw_634 dX5_form_149 ⟨by decide +kernel, by decide +kernel, by decide +kernel⟩ ⟨rfl, rfl⟩ ⟨Nat.le_of_ble_eq_true rfl, Nat.le_of_ble_eq_true rfl⟩ rfl (Nat.le_of_ble_eq_true rfl) ⟨Nat.zero_le _, Nat.zero_le _⟩ (fun r12 w12 hf => ?_)
      refine V_iconst X dX5_form_152 ?_
      exact V_iret X hE dX5_form_153 hf
  refine V_lookup X (off := 184) (tgt := 219) dX5_form_35 (by decide) (by exact off_neg h0 (off_neg h1 (off_neg h2 (off_neg h3 (off_neg h4 (off_neg h5 (rfl))))))) (by decide) ?_
  refine V_gload_n X dX5_form_219 rfl rfl ?_
  refine V_getr X ob_54 rfl rfl hin_X5 3 (Nat.le_of_ble_eq_true rfl) tw_271 rfl dX5_form_220 ?_
  refine V_iload_n X dX5_form_223 rfl rfl ?_
  refine V_cVI X hf [vi r1] _ 1 (fun _ h => m_X6_length is_16 h) ob_16 rfl tw_466 tw_87 tw_981 tw_464 tw_465 dX5_form_224 ⟨by decide +kernel, by decide +kernel, by decide +kernel⟩ ⟨rfl, rfl⟩ ⟨Nat.le_of_ble_eq_true rfl, Nat.le_of_ble_eq_true rfl⟩ rfl (Nat.le_of_ble_eq_true rfl) ⟨Nat.zero_le _, Nat.zero_le _⟩ (fun r13 w13 hf => ?_)
  refine V_gload_n X dX5_form_227 rfl rfl ?_
  refine V_getr X ob_54 rfl rfl hin_X5 3 (Nat.le_of_ble_eq_true rfl) tw_271 rfl dX5_form_228 ?_
  refine V_iload_n X dX5_form_231 rfl rfl ?_
  refine V_cVI X hf [vi r2] _ 1 (fun _ h => m_X6_length is_16 h) ob_16 rfl tw_466 tw_87 tw_981 tw_464 tw_465 dX5_form_232 ⟨by decide +kernel, by decide +kernel, by decide +kernel⟩ ⟨rfl, rfl⟩ ⟨Nat.le_of_ble_eq_true rfl, Nat.le_of_ble_eq_true rfl⟩ rfl (Nat.le_of_ble_eq_true rfl) ⟨Nat.zero_le _, Nat.zero_le _⟩ (fun r14 w14 hf => ?_)
  refine V_icmp_ne X (tgt := 259) dX5_form_235 (by decide) hf (fun hf => ?_) (fun hf => ?_)
  · refine V_gload_n X dX5_form_238 rfl rfl ?_
    refine V_getr X ob_54 rfl rfl hin_X5 3 (Nat.le_of_ble_eq_true rfl) tw_271 rfl dX5_form_239 ?_
    refine V_iload_n X dX5_form_242 rfl rfl ?_
    refine V_iconst X dX5_form_243 ?_
    refine V_gload_n X dX5_form_244 rfl rfl ?_
    refine V_getr X ob_54 rfl rfl hin_X5 3 (Nat.le_of_ble_eq_true rfl) tw_271 rfl dX5_form_245 ?_
    refine V_iload_n X dX5_form_248 rfl rfl ?_
    refine V_cVI X hf [vi r1, vi 0, gr G 16, vi r2] _ 4 (fun _ h => m_X6_hasThere is_16 is_16 h) ob_16 rfl tw_1014 tw_87 tw_1011 tw_1012 tw_1013 dX5_form_249 ⟨by decide +kernel, by decide +kernel, by decide +kernel⟩ ⟨rfl, rfl⟩ ⟨Nat.le_of_ble_eq_true rfl, Nat.le_of_ble_eq_true rfl⟩ rfl (Nat.le_of_ble_eq_true rfl) ⟨Nat.zero_le _, Nat.zero_le _⟩ (fun r15 w15 hf => ?_)
    refine V_if_eq X (tgt := 259) dX5_form_252 (by decide) hf (fun hf => ?_) (fun hf => ?_)
    · refine V_iconst X dX5_form_259 ?_
      exact V_iret X hE dX5_form_260 hf
    · refine V_iconst X dX5_form_255 ?_
      refine V_goto X (tgt := 260) dX5_form_256 (by decide) ?_
      exact V_iret X hE dX5_form_260 hf
  · refine V_iconst X dX5_form_259 ?_
    exact V_iret X hE dX5_form_260 hf
abbrev rmX5_workOut : Room := { frames := 3, cells := 0, slots := 0, locals := 85 }
set_option maxRecDepth 20000 in
theorem v_X5_workOut_68 {G : GG} {E : EE} (X : Cx G E cX5_workOut RX5 (some .int) rmX5_workOut 4) {q : (Int × WS)} (hE : EndI G E q)   {k7 : Int → Int → WS → Option (Int × WS)} (hk7 : ∀ (a1 a2 : Int) (w : WS), k7 a1 a2 w = some q → VV G E 0 0 7 [(0, gr G 54), (1, vi a1), (2, vi a2)] [] w) {a1 a2 s0 : Int} {w : WS} (hf : f_X5_workOut_68  k7 a1 a2 s0 w = some q) : VV G E 0 0 68 [(0, gr G 54), (1, vi a1), (2, vi a2)] [vi s0] w := by
  unfold f_X5_workOut_68 at hf
  refine V_istore_n X dX5_workOut_68 rfl (by decide) ?_
  refine V_iload_n X dX5_workOut_69 rfl rfl ?_
  refine V_if_eq X (tgt := 75) dX5_workOut_70 (by decide) hf (fun hf => ?_) (fun hf => ?_)
  · refine V_iinc X dX5_workOut_75 rfl (by decide) ?_
    refine V_goto X (tgt := 7) dX5_workOut_78 (by decide) ?_
    exact V_cut [0, 1, 2] rfl (hk7 _ _ _ hf)
  · refine V_iload_n X dX5_workOut_73 rfl rfl ?_
    exact V_iret X hE dX5_workOut_74 hf
set_option maxRecDepth 20000 in
theorem v_X5_workOut_7 {G : GG} {E : EE} (X : Cx G E cX5_workOut RX5 (some .int) rmX5_workOut 4) {q : (Int × WS)} (hE : EndI G E q)   : ∀ (n : Nat) (a1 a2 : Int) (w : WS), f_X5_workOut_7   n a1 a2 w = some q → VV G E 0 0 7 [(0, gr G 54), (1, vi a1), (2, vi a2)] [] w := by
  intro n
  induction n with
  | zero => intro a1 a2 w hf; cases hf
  | succ n ih =>
    intro a1 a2 w hf
    rw [f_X5_workOut_7_s] at hf
    refine V_iload_n X dX5_workOut_7 rfl rfl ?_
    refine V_iload_n X dX5_workOut_8 rfl rfl ?_
    refine V_icmp_gt X (tgt := 81) dX5_workOut_9 (by decide) hf (fun hf => ?_) (fun hf => ?_)
    · refine V_iconst X dX5_workOut_81 ?_
      exact V_iret X hE dX5_workOut_82 hf
    · refine V_iload_n X dX5_workOut_12 rfl rfl ?_
      refine V_bipush X dX5_workOut_13 (by decide) ?_
      refine V_icmp_ge X (tgt := 81) dX5_workOut_15 (by decide) hf (fun hf => ?_) (fun hf => ?_)
      · refine V_gload_n X dX5_workOut_18 rfl rfl ?_
        refine V_getr X ob_54 rfl rfl hin_X5 4 (Nat.le_of_ble_eq_true rfl) tw_274 rfl dX5_workOut_19 ?_
        refine V_iload_n X dX5_workOut_22 rfl rfl ?_
        refine V_cVI X hf [vi a2] _ 1 (fun _ h => m_X1_get is_55 h) ob_55 rfl tw_500 tw_89 tw_959 tw_498 tw_499 dX5_workOut_23 ⟨by decide +kernel, by decide +kernel, by decide +kernel⟩ ⟨rfl, rfl⟩ ⟨Nat.le_of_ble_eq_true rfl, Nat.le_of_ble_eq_true rfl⟩ rfl (Nat.le_of_ble_eq_true rfl) ⟨Nat.zero_le _, Nat.zero_le _⟩ (fun r2 w2 hf => ?_)
        refine V_iconst X dX5_workOut_26 ?_
        refine V_icmp_ne X (tgt := 75) dX5_workOut_27 (by decide) hf (fun hf => ?_) (fun hf => ?_)
        · refine V_gload_n X dX5_workOut_30 rfl rfl ?_
          refine V_getr X ob_54 rfl rfl hin_X5 3 (Nat.le_of_ble_eq_true rfl) tw_271 rfl dX5_workOut_31 ?_
          refine V_iload_n X dX5_workOut_34 rfl rfl ?_
          refine V_cVV X hf [vi a2] _ 1 (fun _ h => m_X6_clear is_16 h) ob_16 rfl tw_470 tw_87 tw_960 tw_468 tw_469 dX5_workOut_35 ⟨by decide +kernel, by decide +kernel, by decide +kernel⟩ ⟨rfl, rfl⟩ ⟨Nat.le_of_ble_eq_true rfl, Nat.le_of_ble_eq_true rfl⟩ rfl (Nat.le_of_ble_eq_true rfl) ⟨Nat.zero_le _, Nat.zero_le _⟩ (fun r3 w3 hf => ?_)
          refine V_gload_n X dX5_workOut_38 rfl rfl ?_
          refine V_getr X ob_54 rfl rfl hin_X5 0 (Nat.le_of_ble_eq_true rfl) tw_268 rfl dX5_workOut_39 ?_
          refine V_getrN X ob_32 rfl rfl hin_X0 1 (Nat.le_of_ble_eq_true rfl) nw_0 rfl dX5_workOut_42 ?_
          refine V_iload_n X dX5_workOut_45 rfl rfl ?_
          refine V_cVI X hf [vi a2] _ 1 (fun _ h => m_X1_get is_33 h) ob_33 rfl tw_500 tw_89 tw_959 tw_498 tw_499 dX5_workOut_46 ⟨by decide +kernel, by decide +kernel, by decide +kernel⟩ ⟨rfl, rfl⟩ ⟨Nat.le_of_ble_eq_true rfl, Nat.le_of_ble_eq_true rfl⟩ rfl (Nat.le_of_ble_eq_true rfl) ⟨Nat.zero_le _, Nat.zero_le _⟩ (fun r4 w4 hf => ?_)
          refine V_cSI X hf [vi r4] _ 1 (fun _ h => m_X5_isOfNumbers h) tw_963 tw_92 tw_961 tw_962 dX5_workOut_49 ⟨by decide +kernel, by decide +kernel, by decide +kernel⟩ ⟨rfl, rfl⟩ ⟨Nat.le_of_ble_eq_true rfl, Nat.le_of_ble_eq_true rfl⟩ rfl (Nat.le_of_ble_eq_true rfl) ⟨Nat.zero_le _, Nat.zero_le _⟩ (fun r5 w5 hf => ?_)
          refine V_if_eq X (tgt := 63) dX5_workOut_52 (by decide) hf (fun hf => ?_) (fun hf => ?_)
          · refine V_gload_n X dX5_workOut_63 rfl rfl ?_
            refine V_iload_n X dX5_workOut_64 rfl rfl ?_
            refine V_cVI X hf [vi a2] _ 1 (fun _ h => m_X5_form h) ob_54 rfl tw_994 tw_92 tw_991 tw_993 tw_11 dX5_workOut_65 ⟨by decide +kernel, by decide +kernel, by decide +kernel⟩ ⟨rfl, rfl⟩ ⟨Nat.le_of_ble_eq_true rfl, Nat.le_of_ble_eq_true rfl⟩ rfl (Nat.le_of_ble_eq_true rfl) ⟨Nat.zero_le _, Nat.zero_le _⟩ (fun r6 w6 hf => ?_)
            exact V_cut [0, 1, 2] rfl (v_X5_workOut_68 X hE (fun x0 x1 x hf => ih x0 x1 x hf) hf)
          · refine V_gload_n X dX5_workOut_55 rfl rfl ?_
            refine V_iload_n X dX5_workOut_56 rfl rfl ?_
            refine V_cVI X hf [vi a2] _ 1 (fun _ h => m_X5_reckon h) ob_54 rfl tw_967 tw_92 tw_964 tw_966 tw_9 dX5_workOut_57 ⟨by decide +kernel, by decide +kernel, by decide +kernel⟩ ⟨rfl, rfl⟩ ⟨Nat.le_of_ble_eq_true rfl, Nat.le_of_ble_eq_true rfl⟩ rfl (Nat.le_of_ble_eq_true rfl) ⟨Nat.zero_le _, Nat.zero_le _⟩ (fun r7 w7 hf => ?_)
            refine V_goto X (tgt := 68) dX5_workOut_60 (by decide) ?_
            exact V_cut [0, 1, 2] rfl (v_X5_workOut_68 X hE (fun x0 x1 x hf => ih x0 x1 x hf) hf)
        · refine V_iinc X dX5_workOut_75 rfl (by decide) ?_
          refine V_goto X (tgt := 7) dX5_workOut_78 (by decide) ?_
          exact V_cut [0, 1, 2] rfl (ih _ _ _ hf)
      · refine V_iconst X dX5_workOut_81 ?_
        exact V_iret X hE dX5_workOut_82 hf
set_option maxRecDepth 20000 in
theorem m_X5_workOut {G : GG} {a1 : Int} {w : WS} {q : (Int × WS)}  (hf : f_X5_workOut a1 w = some q) : MI G yX5_workOut cX5_workOut 4 (some .int) rmX5_workOut [gr G 54, vi a1] w q := by
  refine MI_of (by decide +kernel) (Nat.le_of_ble_eq_true rfl) (fun E X hE => ?_)
  have X : Cx G E cX5_workOut RX5 (some .int) rmX5_workOut 4 := X
  unfold f_X5_workOut at hf
  refine V_gload_n X dX5_workOut_0 rfl rfl ?_
  refine V_iload_n X dX5_workOut_1 rfl rfl ?_
  refine V_cVV X hf [vi a1] _ 1 (fun _ h => m_X5_markNeeded h) ob_54 rfl tw_956 tw_92 tw_953 tw_955 tw_8 dX5_workOut_2 ⟨by decide +kernel, by decide +kernel, by decide +kernel⟩ ⟨rfl, rfl⟩ ⟨Nat.le_of_ble_eq_true rfl, Nat.le_of_ble_eq_true rfl⟩ rfl (Nat.le_of_ble_eq_true rfl) ⟨Nat.zero_le _, Nat.zero_le _⟩ (fun r1 w1 hf => ?_)
  refine V_iconst X dX5_workOut_5 ?_
  refine V_istore_n X dX5_workOut_6 rfl (by decide) ?_
  exact V_cut [0, 1, 2] rfl (v_X5_workOut_7 X hE FU _ _ _ hf)
abbrev rmX6_holds : Room := { frames := 0, cells := 0, slots := 0, locals := 0 }
set_option maxRecDepth 20000 in
theorem m_X6_holds {G : GG} {i : Nat} {a1 : Int} {a2 : Int} {w : WS} {q : (Int × WS)} (hi : isX6 i) (hf : f_X6_holds i a1 a2 w = some q) : MI G yX6_holds cX6_holds 3 (some .boolean) rmX6_holds [gr G i, vi a1, vi a2] w q := by
  refine MI_of (by decide +kernel) (Nat.le_of_ble_eq_true rfl) (fun E X hE => ?_)
  have X : Cx G E cX6_holds RX6 (some .boolean) rmX6_holds 3 := X
  unfold f_X6_holds at hf
  refine V_iload_n X dX6_holds_0 rfl rfl ?_
  refine V_if_lt X (tgt := 31) dX6_holds_1 (by decide) hf (fun hf => ?_) (fun hf => ?_)
  · refine V_iconst X dX6_holds_31 ?_
    exact V_zret X hE dX6_holds_32 (Or.inl rfl) hf
  · refine V_iload_n X dX6_holds_4 rfl rfl ?_
    refine V_gload_n X dX6_holds_5 rfl rfl ?_
    refine V_getr X (ob_X6 hi) rfl rfl hin_X6 2 (Nat.le_of_ble_eq_true rfl) tw_128 (rr_X6_2 hi) dX6_holds_6 ?_
    refine V_alen X (ar_X6_2 hi) (by decide) dX6_holds_9 ?_
    refine V_icmp_ge X (tgt := 31) dX6_holds_10 (by decide) hf (fun hf => ?_) (fun hf => ?_)
    · refine V_iload_n X dX6_holds_13 rfl rfl ?_
      refine V_if_lt X (tgt := 31) dX6_holds_14 (by decide) hf (fun hf => ?_) (fun hf => ?_)
      · refine V_iconst X dX6_holds_31 ?_
        exact V_zret X hE dX6_holds_32 (Or.inl rfl) hf
      · refine V_iload_n X dX6_holds_17 rfl rfl ?_
        refine V_gload_n X dX6_holds_18 rfl rfl ?_
        refine V_getr X (ob_X6 hi) rfl rfl hin_X6 2 (Nat.le_of_ble_eq_true rfl) tw_128 (rr_X6_2 hi) dX6_holds_19 ?_
        refine V_iload_n X dX6_holds_22 rfl rfl ?_
        refine V_iald X (ar_X6_2 hi) dX6_holds_23 hf (fun hf => ?_)
        refine V_icmp_ge X (tgt := 31) dX6_holds_24 (by decide) hf (fun hf => ?_) (fun hf => ?_)
        · refine V_iconst X dX6_holds_27 ?_
          refine V_goto X (tgt := 32) dX6_holds_28 (by decide) ?_
          exact V_zret X hE dX6_holds_32 (Or.inr rfl) hf
        · refine V_iconst X dX6_holds_31 ?_
          exact V_zret X hE dX6_holds_32 (Or.inl rfl) hf
    · refine V_iconst X dX6_holds_31 ?_
      exact V_zret X hE dX6_holds_32 (Or.inl rfl) hf
abbrev rmX7_doAssignment : Room := { frames := 4, cells := 0, slots := 0, locals := 108 }
set_option maxRecDepth 20000 in
theorem m_X7_doAssignment {G : GG} {a1 : Int} {w : WS} {q : (Int × WS)}  (hf : f_X7_doAssignment a1 w = some q) : MI G yX7_doAssignment cX7_doAssignment 4 (some .int) rmX7_doAssignment [gr G 76, vi a1] w q := by
  refine MI_of (by decide +kernel) (Nat.le_of_ble_eq_true rfl) (fun E X hE => ?_)
  have X : Cx G E cX7_doAssignment RX7 (some .int) rmX7_doAssignment 4 := X
  unfold f_X7_doAssignment at hf
  refine V_gload_n X dX7_doAssignment_0 rfl rfl ?_
  refine V_getr X ob_76 rfl rfl hin_X7 0 (Nat.le_of_ble_eq_true rfl) tw_346 rfl dX7_doAssignment_1 ?_
  refine V_getrN X ob_57 rfl rfl hin_X4 3 (Nat.le_of_ble_eq_true rfl) nw_17 rfl dX7_doAssignment_4 ?_
  refine V_iload_n X dX7_doAssignment_7 rfl rfl ?_
  refine V_cVI X hf [vi a1] _ 1 (fun _ h => m_X1_get is_64 h) ob_64 rfl tw_500 tw_89 tw_944 tw_498 tw_499 dX7_doAssignment_8 ⟨by decide +kernel, by decide +kernel, by decide +kernel⟩ ⟨rfl, rfl⟩ ⟨Nat.le_of_ble_eq_true rfl, Nat.le_of_ble_eq_true rfl⟩ rfl (Nat.le_of_ble_eq_true rfl) ⟨Nat.zero_le _, Nat.zero_le _⟩ (fun r1 w1 hf => ?_)
  refine V_istore_n X dX7_doAssignment_11 rfl (by decide) ?_
  refine V_gload_n X dX7_doAssignment_12 rfl rfl ?_
  refine V_getr X ob_76 rfl rfl hin_X7 2 (Nat.le_of_ble_eq_true rfl) tw_348 rfl dX7_doAssignment_13 ?_
  refine V_iload_n X dX7_doAssignment_16 rfl rfl ?_
  refine V_cVI X hf [vi r1] _ 1 (fun _ h => m_X5_workOut h) ob_54 rfl tw_952 tw_92 tw_949 tw_950 tw_951 dX7_doAssignment_17 ⟨by decide +kernel, by decide +kernel, by decide +kernel⟩ ⟨rfl, rfl⟩ ⟨Nat.le_of_ble_eq_true rfl, Nat.le_of_ble_eq_true rfl⟩ rfl (Nat.le_of_ble_eq_true rfl) ⟨Nat.zero_le _, Nat.zero_le _⟩ (fun r2 w2 hf => ?_)
  refine V_istore_n X dX7_doAssignment_20 rfl (by decide) ?_
  refine V_iload_n X dX7_doAssignment_21 rfl rfl ?_
  refine V_if_ne X (tgt := 51) dX7_doAssignment_22 (by decide) hf (fun hf => ?_) (fun hf => ?_)
  · refine V_gload_n X dX7_doAssignment_25 rfl rfl ?_
    refine V_getr X ob_76 rfl rfl hin_X7 3 (Nat.le_of_ble_eq_true rfl) tw_349 rfl dX7_doAssignment_26 ?_
    refine V_gload_n X dX7_doAssignment_29 rfl rfl ?_
    refine V_getr X ob_76 rfl rfl hin_X7 0 (Nat.le_of_ble_eq_true rfl) tw_346 rfl dX7_doAssignment_30 ?_
    refine V_getrN X ob_57 rfl rfl hin_X4 1 (Nat.le_of_ble_eq_true rfl) nw_15 rfl dX7_doAssignment_33 ?_
    refine V_iload_n X dX7_doAssignment_36 rfl rfl ?_
    refine V_cVI X hf [vi a1] _ 1 (fun _ h => m_X1_get is_60 h) ob_60 rfl tw_500 tw_89 tw_944 tw_498 tw_499 dX7_doAssignment_37 ⟨by decide +kernel, by decide +kernel, by decide +kernel⟩ ⟨rfl, rfl⟩ ⟨Nat.le_of_ble_eq_true rfl, Nat.le_of_ble_eq_true rfl⟩ rfl (Nat.le_of_ble_eq_true rfl) ⟨Nat.zero_le _, Nat.zero_le _⟩ (fun r3 w3 hf => ?_)
    refine V_gload_n X dX7_doAssignment_40 rfl rfl ?_
    refine V_getr X ob_76 rfl rfl hin_X7 2 (Nat.le_of_ble_eq_true rfl) tw_348 rfl dX7_doAssignment_41 ?_
    refine V_getrN X ob_54 rfl rfl hin_X5 3 (Nat.le_of_ble_eq_true rfl) nw_11 rfl dX7_doAssignment_44 ?_
    refine V_iload_n X dX7_doAssignment_47 rfl rfl ?_
    refine V_cVV X hf [vi r3, gr G 16, vi r1] _ 3 (fun _ h => m_X6_copy is_7 is_16 h) ob_7 rfl tw_635 tw_87 tw_1015 tw_633 tw_634 dX7_doAssignment_48 ⟨by decide +kernel, by decide +kernel, by decide +kernel⟩ ⟨rfl, rfl⟩ ⟨Nat.le_of_ble_eq_true rfl, Nat.le_of_ble_eq_true rfl⟩ rfl (Nat.le_of_ble_eq_true rfl) ⟨Nat.zero_le _, Nat.zero_le _⟩ (fun r4 w4 hf => ?_)
    refine V_iload_n X dX7_doAssignment_51 rfl rfl ?_
    exact V_iret X hE dX7_doAssignment_52 hf
  · refine V_iload_n X dX7_doAssignment_51 rfl rfl ?_
    exact V_iret X hE dX7_doAssignment_52 hf
abbrev rmX7_doScan : Room := { frames := 4, cells := 0, slots := 0, locals := 108 }
set_option maxRecDepth 20000 in
theorem m_X7_doScan {G : GG} {a1 : Int} {w : WS} {q : (Int × WS)}  (hf : f_X7_doScan a1 w = some q) : MI G yX7_doScan cX7_doScan 6 (some .int) rmX7_doScan [gr G 76, vi a1] w q := by
  refine MI_of (by decide +kernel) (Nat.le_of_ble_eq_true rfl) (fun E X hE => ?_)
  have X : Cx G E cX7_doScan RX7 (some .int) rmX7_doScan 6 := X
  unfold f_X7_doScan at hf
  refine V_gload_n X dX7_doScan_0 rfl rfl ?_
  refine V_getr X ob_76 rfl rfl hin_X7 0 (Nat.le_of_ble_eq_true rfl) tw_346 rfl dX7_doScan_1 ?_
  refine V_getrN X ob_57 rfl rfl hin_X4 1 (Nat.le_of_ble_eq_true rfl) nw_15 rfl dX7_doScan_4 ?_
  refine V_iload_n X dX7_doScan_7 rfl rfl ?_
  refine V_cVI X hf [vi a1] _ 1 (fun _ h => m_X1_get is_60 h) ob_60 rfl tw_500 tw_89 tw_944 tw_498 tw_499 dX7_doScan_8 ⟨by decide +kernel, by decide +kernel, by decide +kernel⟩ ⟨rfl, rfl⟩ ⟨Nat.le_of_ble_eq_true rfl, Nat.le_of_ble_eq_true rfl⟩ rfl (Nat.le_of_ble_eq_true rfl) ⟨Nat.zero_le _, Nat.zero_le _⟩ (fun r1 w1 hf => ?_)
  refine V_istore_n X dX7_doScan_11 rfl (by decide) ?_
  refine V_gload_n X dX7_doScan_12 rfl rfl ?_
  refine V_getr X ob_76 rfl rfl hin_X7 1 (Nat.le_of_ble_eq_true rfl) tw_347 rfl dX7_doScan_13 ?_
  refine V_gload_n X dX7_doScan_16 rfl rfl ?_
  refine V_getr X ob_76 rfl rfl hin_X7 3 (Nat.le_of_ble_eq_true rfl) tw_349 rfl dX7_doScan_17 ?_
  refine V_iload_n X dX7_doScan_20 rfl rfl ?_
  refine V_gload_n X dX7_doScan_21 rfl rfl ?_
  refine V_getr X ob_76 rfl rfl hin_X7 0 (Nat.le_of_ble_eq_true rfl) tw_346 rfl dX7_doScan_22 ?_
  refine V_getrN X ob_57 rfl rfl hin_X4 2 (Nat.le_of_ble_eq_true rfl) nw_16 rfl dX7_doScan_25 ?_
  refine V_iload_n X dX7_doScan_28 rfl rfl ?_
  refine V_cVI X hf [vi a1] _ 1 (fun _ h => m_X1_get is_62 h) ob_62 rfl tw_500 tw_89 tw_944 tw_498 tw_499 dX7_doScan_29 ⟨by decide +kernel, by decide +kernel, by decide +kernel⟩ ⟨rfl, rfl⟩ ⟨Nat.le_of_ble_eq_true rfl, Nat.le_of_ble_eq_true rfl⟩ rfl (Nat.le_of_ble_eq_true rfl) ⟨Nat.zero_le _, Nat.zero_le _⟩ (fun r2 w2 hf => ?_)
  refine V_gload_n X dX7_doScan_32 rfl rfl ?_
  refine V_geti X ob_76 rfl rfl hin_X7 9 (Nat.le_of_ble_eq_true rfl) tw_357 rfl dX7_doScan_33 ?_
  refine V_cVV X hf [gr G 7, vi r1, vi r2, vi (w2 76 9)] _ 4 (fun _ h => m_X2_prepare is_7 h) ob_39 rfl tw_1023 tw_90 tw_1020 tw_1021 tw_1022 dX7_doScan_36 ⟨by decide +kernel, by decide +kernel, by decide +kernel⟩ ⟨rfl, rfl⟩ ⟨Nat.le_of_ble_eq_true rfl, Nat.le_of_ble_eq_true rfl⟩ rfl (Nat.le_of_ble_eq_true rfl) ⟨Nat.zero_le _, Nat.zero_le _⟩ (fun r3 w3 hf => ?_)
  refine V_gload_n X dX7_doScan_39 rfl rfl ?_
  refine V_getr X ob_76 rfl rfl hin_X7 1 (Nat.le_of_ble_eq_true rfl) tw_347 rfl dX7_doScan_40 ?_
  refine V_cVI X hf [] _ 0 (fun _ h => m_X2_seek h) ob_39 rfl tw_1029 tw_90 tw_1026 tw_1027 tw_1028 dX7_doScan_43 ⟨by decide +kernel, by decide +kernel, by decide +kernel⟩ ⟨rfl, rfl⟩ ⟨Nat.le_of_ble_eq_true rfl, Nat.le_of_ble_eq_true rfl⟩ rfl (Nat.le_of_ble_eq_true rfl) ⟨Nat.zero_le _, Nat.zero_le _⟩ (fun r4 w4 hf => ?_)
  refine V_istore_n X dX7_doScan_46 rfl (by decide) ?_
  refine V_iload_n X dX7_doScan_47 rfl rfl ?_
  refine V_iconst X dX7_doScan_48 ?_
  refine V_icmp_ne X (tgt := 54) dX7_doScan_49 (by decide) hf (fun hf => ?_) (fun hf => ?_)
  · refine V_iconst X dX7_doScan_52 ?_
    exact V_iret X hE dX7_doScan_53 hf
  · refine V_iload_n X dX7_doScan_54 rfl rfl ?_
    refine V_iconst X dX7_doScan_55 ?_
    refine V_icmp_eq X (tgt := 61) dX7_doScan_56 (by decide) hf (fun hf => ?_) (fun hf => ?_)
    · refine V_gload_n X dX7_doScan_61 rfl rfl ?_
      refine V_getr X ob_76 rfl rfl hin_X7 1 (Nat.le_of_ble_eq_true rfl) tw_347 rfl dX7_doScan_62 ?_
      refine V_cVV X hf [] _ 0 (fun _ h => m_X2_assignTaken h) ob_39 rfl tw_1113 tw_90 tw_1110 tw_1111 tw_1112 dX7_doScan_65 ⟨by decide +kernel, by decide +kernel, by decide +kernel⟩ ⟨rfl, rfl⟩ ⟨Nat.le_of_ble_eq_true rfl, Nat.le_of_ble_eq_true rfl⟩ rfl (Nat.le_of_ble_eq_true rfl) ⟨Nat.zero_le _, Nat.zero_le _⟩ (fun r5 w5 hf => ?_)
      refine V_gload_n X dX7_doScan_68 rfl rfl ?_
      refine V_getr X ob_76 rfl rfl hin_X7 0 (Nat.le_of_ble_eq_true rfl) tw_346 rfl dX7_doScan_69 ?_
      refine V_getrN X ob_57 rfl rfl hin_X4 3 (Nat.le_of_ble_eq_true rfl) nw_17 rfl dX7_doScan_72 ?_
      refine V_iload_n X dX7_doScan_75 rfl rfl ?_
      refine V_cVI X hf [vi a1] _ 1 (fun _ h => m_X1_get is_64 h) ob_64 rfl tw_500 tw_89 tw_944 tw_498 tw_499 dX7_doScan_76 ⟨by decide +kernel, by decide +kernel, by decide +kernel⟩ ⟨rfl, rfl⟩ ⟨Nat.le_of_ble_eq_true rfl, Nat.le_of_ble_eq_true rfl⟩ rfl (Nat.le_of_ble_eq_true rfl) ⟨Nat.zero_le _, Nat.zero_le _⟩ (fun r6 w6 hf => ?_)
      refine V_istore X dX7_doScan_79 (by decide) ?_
      refine V_iload X dX7_doScan_81 rfl ?_
      refine V_iconst X dX7_doScan_83 ?_
      refine V_icmp_ne X (tgt := 89) dX7_doScan_84 (by decide) hf (fun hf => ?_) (fun hf => ?_)
      · refine V_iconst X dX7_doScan_87 ?_
        exact V_iret X hE dX7_doScan_88 hf
      · refine V_gload_n X dX7_doScan_89 rfl rfl ?_
        refine V_getr X ob_76 rfl rfl hin_X7 2 (Nat.le_of_ble_eq_true rfl) tw_348 rfl dX7_doScan_90 ?_
        refine V_iload X dX7_doScan_93 rfl ?_
        refine V_cVI X hf [vi r6] _ 1 (fun _ h => m_X5_workOut h) ob_54 rfl tw_952 tw_92 tw_949 tw_950 tw_951 dX7_doScan_95 ⟨by decide +kernel, by decide +kernel, by decide +kernel⟩ ⟨rfl, rfl⟩ ⟨Nat.le_of_ble_eq_true rfl, Nat.le_of_ble_eq_true rfl⟩ rfl (Nat.le_of_ble_eq_true rfl) ⟨Nat.zero_le _, Nat.zero_le _⟩ (fun r7 w7 hf => ?_)
        refine V_istore X dX7_doScan_98 (by decide) ?_
        refine V_iload X dX7_doScan_100 rfl ?_
        refine V_if_eq X (tgt := 108) dX7_doScan_102 (by decide) hf (fun hf => ?_) (fun hf => ?_)
        · refine V_gload_n X dX7_doScan_108 rfl rfl ?_
          refine V_getr X ob_76 rfl rfl hin_X7 1 (Nat.le_of_ble_eq_true rfl) tw_347 rfl dX7_doScan_109 ?_
          refine V_gload_n X dX7_doScan_112 rfl rfl ?_
          refine V_getr X ob_76 rfl rfl hin_X7 4 (Nat.le_of_ble_eq_true rfl) tw_350 rfl dX7_doScan_113 ?_
          refine V_iconst X dX7_doScan_116 ?_
          refine V_gload_n X dX7_doScan_117 rfl rfl ?_
          refine V_getr X ob_76 rfl rfl hin_X7 2 (Nat.le_of_ble_eq_true rfl) tw_348 rfl dX7_doScan_118 ?_
          refine V_getrN X ob_54 rfl rfl hin_X5 3 (Nat.le_of_ble_eq_true rfl) nw_11 rfl dX7_doScan_121 ?_
          refine V_iload X dX7_doScan_124 rfl ?_
          refine V_cVI X hf [gr G 19, vi 0, gr G 16, vi r6] _ 4 (fun _ h => m_X2_replace is_19 is_16 h) ob_39 rfl tw_1117 tw_90 tw_1114 tw_1115 tw_1116 dX7_doScan_126 ⟨by decide +kernel, by decide +kernel, by decide +kernel⟩ ⟨rfl, rfl⟩ ⟨Nat.le_of_ble_eq_true rfl, Nat.le_of_ble_eq_true rfl⟩ rfl (Nat.le_of_ble_eq_true rfl) ⟨Nat.zero_le _, Nat.zero_le _⟩ (fun r8 w8 hf => ?_)
          refine V_if_ne X (tgt := 134) dX7_doScan_129 (by decide) hf (fun hf => ?_) (fun hf => ?_)
          · refine V_iconst X dX7_doScan_132 ?_
            exact V_iret X hE dX7_doScan_133 hf
          · refine V_gload_n X dX7_doScan_134 rfl rfl ?_
            refine V_getr X ob_76 rfl rfl hin_X7 3 (Nat.le_of_ble_eq_true rfl) tw_349 rfl dX7_doScan_135 ?_
            refine V_iload_n X dX7_doScan_138 rfl rfl ?_
            refine V_gload_n X dX7_doScan_139 rfl rfl ?_
            refine V_getr X ob_76 rfl rfl hin_X7 4 (Nat.le_of_ble_eq_true rfl) tw_350 rfl dX7_doScan_140 ?_
            refine V_iconst X dX7_doScan_143 ?_
            refine V_cVV X hf [vi r1, gr G 19, vi 0] _ 3 (fun _ h => m_X6_copy is_7 is_19 h) ob_7 rfl tw_635 tw_87 tw_1015 tw_633 tw_634 dX7_doScan_144 ⟨by decide +kernel, by decide +kernel, by decide +kernel⟩ ⟨rfl, rfl⟩ ⟨Nat.le_of_ble_eq_true rfl, Nat.le_of_ble_eq_true rfl⟩ rfl (Nat.le_of_ble_eq_true rfl) ⟨Nat.zero_le _, Nat.zero_le _⟩ (fun r9 w9 hf => ?_)
            refine V_iconst X dX7_doScan_147 ?_
            exact V_iret X hE dX7_doScan_148 hf
        · refine V_iload X dX7_doScan_105 rfl ?_
          exact V_iret X hE dX7_doScan_107 hf
    · refine V_iconst X dX7_doScan_59 ?_
      exact V_iret X hE dX7_doScan_60 hf
abbrev rmX7_doCall : Room := { frames := 4, cells := 0, slots := 0, locals := 108 }
set_option maxRecDepth 20000 in
theorem v_X7_doCall_70 {G : GG} {E : EE} (X : Cx G E cX7_doCall RX7 (some .int) rmX7_doCall 7) {q : (Int × WS)} (hE : EndI G E q)   : ∀ (n : Nat) (a1 a2 a4 a5 : Int) (w : WS), f_X7_doCall_70   n a1 a2 a4 a5 w = some q → VV G E 0 0 70 [(0, gr G 76), (1, vi a1), (2, vi a2), (4, vi a4), (5, vi a5)] [] w := by
  intro n
  induction n with
  | zero => intro a1 a2 a4 a5 w hf; cases hf
  | succ n ih =>
    intro a1 a2 a4 a5 w hf
    rw [f_X7_doCall_70_s] at hf
    refine V_iload X dX7_doCall_70 rfl ?_
    refine V_iconst X dX7_doCall_72 ?_
    refine V_icmp_ge X (tgt := 132) dX7_doCall_73 (by decide) hf (fun hf => ?_) (fun hf => ?_)
    · refine V_gload_n X dX7_doCall_76 rfl rfl ?_
      refine V_getr X ob_76 rfl rfl hin_X7 0 (Nat.le_of_ble_eq_true rfl) tw_346 rfl dX7_doCall_77 ?_
      refine V_getrN X ob_57 rfl rfl hin_X4 9 (Nat.le_of_ble_eq_true rfl) nw_24 rfl dX7_doCall_80 ?_
      refine V_iconst X dX7_doCall_83 ?_
      refine V_iload X dX7_doCall_84 rfl ?_
      refine V_imul X dX7_doCall_86 ?_
      refine V_iload X dX7_doCall_87 rfl ?_
      refine V_iadd X dX7_doCall_89 ?_
      refine V_cVI X hf [vi ((3 * a4) + a5)] _ 1 (fun _ h => m_X1_get is_74 h) ob_74 rfl tw_500 tw_89 tw_944 tw_498 tw_499 dX7_doCall_90 ⟨by decide +kernel, by decide +kernel, by decide +kernel⟩ ⟨rfl, rfl⟩ ⟨Nat.le_of_ble_eq_true rfl, Nat.le_of_ble_eq_true rfl⟩ rfl (Nat.le_of_ble_eq_true rfl) ⟨Nat.zero_le _, Nat.zero_le _⟩ (fun r5 w5 hf => ?_)
      refine V_istore X dX7_doCall_93 (by decide) ?_
      refine V_gload_n X dX7_doCall_95 rfl rfl ?_
      refine V_getr X ob_76 rfl rfl hin_X7 6 (Nat.le_of_ble_eq_true rfl) tw_352 rfl dX7_doCall_96 ?_
      refine V_iconst X dX7_doCall_99 ?_
      refine V_gload_n X dX7_doCall_100 rfl rfl ?_
      refine V_geti X ob_76 rfl rfl hin_X7 14 (Nat.le_of_ble_eq_true rfl) tw_366 rfl dX7_doCall_101 ?_
      refine V_imul X dX7_doCall_104 ?_
      refine V_iload X dX7_doCall_105 rfl ?_
      refine V_iadd X dX7_doCall_107 ?_
      refine V_gload_n X dX7_doCall_108 rfl rfl ?_
      refine V_getr X ob_76 rfl rfl hin_X7 3 (Nat.le_of_ble_eq_true rfl) tw_349 rfl dX7_doCall_109 ?_
      refine V_iload X dX7_doCall_112 rfl ?_
      refine V_cVV X hf [vi ((3 * (w5 76 14)) + a5), gr G 7, vi r5] _ 3 (fun _ h => m_X6_copy is_22 is_7 h) ob_22 rfl tw_635 tw_87 tw_1015 tw_633 tw_634 dX7_doCall_114 ⟨by decide +kernel, by decide +kernel, by decide +kernel⟩ ⟨rfl, rfl⟩ ⟨Nat.le_of_ble_eq_true rfl, Nat.le_of_ble_eq_true rfl⟩ rfl (Nat.le_of_ble_eq_true rfl) ⟨Nat.zero_le _, Nat.zero_le _⟩ (fun r6 w6 hf => ?_)
      refine V_gload_n X dX7_doCall_117 rfl rfl ?_
      refine V_getr X ob_76 rfl rfl hin_X7 3 (Nat.le_of_ble_eq_true rfl) tw_349 rfl dX7_doCall_118 ?_
      refine V_iload X dX7_doCall_121 rfl ?_
      refine V_cVV X hf [vi r5] _ 1 (fun _ h => m_X6_clear is_7 h) ob_7 rfl tw_470 tw_87 tw_1123 tw_468 tw_469 dX7_doCall_123 ⟨by decide +kernel, by decide +kernel, by decide +kernel⟩ ⟨rfl, rfl⟩ ⟨Nat.le_of_ble_eq_true rfl, Nat.le_of_ble_eq_true rfl⟩ rfl (Nat.le_of_ble_eq_true rfl) ⟨Nat.zero_le _, Nat.zero_le _⟩ (fun r7 w7 hf => ?_)
      refine V_iinc X dX7_doCall_126 rfl (by decide) ?_
      refine V_goto X (tgt := 70) dX7_doCall_129 (by decide) ?_
      exact V_cut [0, 1, 2, 4, 5] rfl (ih _ _ _ _ _ hf)
    · refine V_gload_n X dX7_doCall_132 rfl rfl ?_
      refine V_getr X ob_76 rfl rfl hin_X7 3 (Nat.le_of_ble_eq_true rfl) tw_349 rfl dX7_doCall_133 ?_
      refine V_gload_n X dX7_doCall_136 rfl rfl ?_
      refine V_getr X ob_76 rfl rfl hin_X7 0 (Nat.le_of_ble_eq_true rfl) tw_346 rfl dX7_doCall_137 ?_
      refine V_getrN X ob_57 rfl rfl hin_X4 9 (Nat.le_of_ble_eq_true rfl) nw_24 rfl dX7_doCall_140 ?_
      refine V_iconst X dX7_doCall_143 ?_
      refine V_iload X dX7_doCall_144 rfl ?_
      refine V_imul X dX7_doCall_146 ?_
      refine V_cVI X hf [vi (3 * a4)] _ 1 (fun _ h => m_X1_get is_74 h) ob_74 rfl tw_500 tw_89 tw_944 tw_498 tw_499 dX7_doCall_147 ⟨by decide +kernel, by decide +kernel, by decide +kernel⟩ ⟨rfl, rfl⟩ ⟨Nat.le_of_ble_eq_true rfl, Nat.le_of_ble_eq_true rfl⟩ rfl (Nat.le_of_ble_eq_true rfl) ⟨Nat.zero_le _, Nat.zero_le _⟩ (fun r8 w8 hf => ?_)
      refine V_gload_n X dX7_doCall_150 rfl rfl ?_
      refine V_getr X ob_76 rfl rfl hin_X7 2 (Nat.le_of_ble_eq_true rfl) tw_348 rfl dX7_doCall_151 ?_
      refine V_getrN X ob_54 rfl rfl hin_X5 3 (Nat.le_of_ble_eq_true rfl) nw_11 rfl dX7_doCall_154 ?_
      refine V_iload_n X dX7_doCall_157 rfl rfl ?_
      refine V_cVV X hf [vi r8, gr G 16, vi a2] _ 3 (fun _ h => m_X6_copy is_7 is_16 h) ob_7 rfl tw_635 tw_87 tw_1015 tw_633 tw_634 dX7_doCall_158 ⟨by decide +kernel, by decide +kernel, by decide +kernel⟩ ⟨rfl, rfl⟩ ⟨Nat.le_of_ble_eq_true rfl, Nat.le_of_ble_eq_true rfl⟩ rfl (Nat.le_of_ble_eq_true rfl) ⟨Nat.zero_le _, Nat.zero_le _⟩ (fun r9 w9 hf => ?_)
      refine V_gload_n X dX7_doCall_161 rfl rfl ?_
      refine V_getr X ob_76 rfl rfl hin_X7 5 (Nat.le_of_ble_eq_true rfl) tw_351 rfl dX7_doCall_162 ?_
      refine V_gload_n X dX7_doCall_165 rfl rfl ?_
      refine V_geti X ob_76 rfl rfl hin_X7 14 (Nat.le_of_ble_eq_true rfl) tw_366 rfl dX7_doCall_166 ?_
      refine V_iload_n X dX7_doCall_169 rfl rfl ?_
      refine V_cVV X hf [vi (w9 76 14), vi a1] _ 2 (fun _ h => m_X1_put is_77 h) ob_77 rfl tw_839 tw_89 tw_1124 tw_837 tw_838 dX7_doCall_170 ⟨by decide +kernel, by decide +kernel, by decide +kernel⟩ ⟨rfl, rfl⟩ ⟨Nat.le_of_ble_eq_true rfl, Nat.le_of_ble_eq_true rfl⟩ rfl (Nat.le_of_ble_eq_true rfl) ⟨Nat.zero_le _, Nat.zero_le _⟩ (fun r10 w10 hf => ?_)
      refine V_gload_n X dX7_doCall_173 rfl rfl ?_
      refine V_dup X dX7_doCall_174 rfl ?_
      refine V_geti X ob_76 rfl rfl hin_X7 14 (Nat.le_of_ble_eq_true rfl) tw_366 rfl dX7_doCall_175 ?_
      refine V_iconst X dX7_doCall_178 ?_
      refine V_iadd X dX7_doCall_179 ?_
      refine V_puti X ob_76 rfl rfl hin_X7 14 (Nat.le_of_ble_eq_true rfl) tw_366 tyX7 tyX7_ok nmX7 rfl (by decide +kernel) rfl dX7_doCall_180 ?_
      refine V_bipush X dX7_doCall_183 (by decide) ?_
      exact V_iret X hE dX7_doCall_185 hf
set_option maxRecDepth 20000 in
theorem m_X7_doCall {G : GG} {a1 : Int} {w : WS} {q : (Int × WS)}  (hf : f_X7_doCall a1 w = some q) : MI G yX7_doCall cX7_doCall 7 (some .int) rmX7_doCall [gr G 76, vi a1] w q := by
  refine MI_of (by decide +kernel) (Nat.le_of_ble_eq_true rfl) (fun E X hE => ?_)
  have X : Cx G E cX7_doCall RX7 (some .int) rmX7_doCall 7 := X
  unfold f_X7_doCall at hf
  refine V_gload_n X dX7_doCall_0 rfl rfl ?_
  refine V_getr X ob_76 rfl rfl hin_X7 0 (Nat.le_of_ble_eq_true rfl) tw_346 rfl dX7_doCall_1 ?_
  refine V_getrN X ob_57 rfl rfl hin_X4 3 (Nat.le_of_ble_eq_true rfl) nw_17 rfl dX7_doCall_4 ?_
  refine V_iload_n X dX7_doCall_7 rfl rfl ?_
  refine V_cVI X hf [vi a1] _ 1 (fun _ h => m_X1_get is_64 h) ob_64 rfl tw_500 tw_89 tw_944 tw_498 tw_499 dX7_doCall_8 ⟨by decide +kernel, by decide +kernel, by decide +kernel⟩ ⟨rfl, rfl⟩ ⟨Nat.le_of_ble_eq_true rfl, Nat.le_of_ble_eq_true rfl⟩ rfl (Nat.le_of_ble_eq_true rfl) ⟨Nat.zero_le _, Nat.zero_le _⟩ (fun r1 w1 hf => ?_)
  refine V_istore_n X dX7_doCall_11 rfl (by decide) ?_
  refine V_gload_n X dX7_doCall_12 rfl rfl ?_
  refine V_getr X ob_76 rfl rfl hin_X7 2 (Nat.le_of_ble_eq_true rfl) tw_348 rfl dX7_doCall_13 ?_
  refine V_iload_n X dX7_doCall_16 rfl rfl ?_
  refine V_cVI X hf [vi r1] _ 1 (fun _ h => m_X5_workOut h) ob_54 rfl tw_952 tw_92 tw_949 tw_950 tw_951 dX7_doCall_17 ⟨by decide +kernel, by decide +kernel, by decide +kernel⟩ ⟨rfl, rfl⟩ ⟨Nat.le_of_ble_eq_true rfl, Nat.le_of_ble_eq_true rfl⟩ rfl (Nat.le_of_ble_eq_true rfl) ⟨Nat.zero_le _, Nat.zero_le _⟩ (fun r2 w2 hf => ?_)
  refine V_istore_n X dX7_doCall_20 rfl (by decide) ?_
  refine V_iload_n X dX7_doCall_21 rfl rfl ?_
  refine V_if_eq X (tgt := 27) dX7_doCall_22 (by decide) hf (fun hf => ?_) (fun hf => ?_)
  · refine V_gload_n X dX7_doCall_27 rfl rfl ?_
    refine V_getr X ob_76 rfl rfl hin_X7 0 (Nat.le_of_ble_eq_true rfl) tw_346 rfl dX7_doCall_28 ?_
    refine V_getrN X ob_57 rfl rfl hin_X4 2 (Nat.le_of_ble_eq_true rfl) nw_16 rfl dX7_doCall_31 ?_
    refine V_iload_n X dX7_doCall_34 rfl rfl ?_
    refine V_cVI X hf [vi a1] _ 1 (fun _ h => m_X1_get is_62 h) ob_62 rfl tw_500 tw_89 tw_944 tw_498 tw_499 dX7_doCall_35 ⟨by decide +kernel, by decide +kernel, by decide +kernel⟩ ⟨rfl, rfl⟩ ⟨Nat.le_of_ble_eq_true rfl, Nat.le_of_ble_eq_true rfl⟩ rfl (Nat.le_of_ble_eq_true rfl) ⟨Nat.zero_le _, Nat.zero_le _⟩ (fun r3 w3 hf => ?_)
    refine V_istore X dX7_doCall_38 (by decide) ?_
    refine V_gload_n X dX7_doCall_40 rfl rfl ?_
    refine V_getr X ob_76 rfl rfl hin_X7 0 (Nat.le_of_ble_eq_true rfl) tw_346 rfl dX7_doCall_41 ?_
    refine V_getrN X ob_57 rfl rfl hin_X4 7 (Nat.le_of_ble_eq_true rfl) nw_22 rfl dX7_doCall_44 ?_
    refine V_iload X dX7_doCall_47 rfl ?_
    refine V_cVI X hf [vi r3] _ 1 (fun _ h => m_X1_get is_70 h) ob_70 rfl tw_500 tw_89 tw_944 tw_498 tw_499 dX7_doCall_49 ⟨by decide +kernel, by decide +kernel, by decide +kernel⟩ ⟨rfl, rfl⟩ ⟨Nat.le_of_ble_eq_true rfl, Nat.le_of_ble_eq_true rfl⟩ rfl (Nat.le_of_ble_eq_true rfl) ⟨Nat.zero_le _, Nat.zero_le _⟩ (fun r4 w4 hf => ?_)
    refine V_iconst X dX7_doCall_52 ?_
    refine V_icmp_ne X (tgt := 65) dX7_doCall_53 (by decide) hf (fun hf => ?_) (fun hf => ?_)
    · refine V_gload_n X dX7_doCall_56 rfl rfl ?_
      refine V_geti X ob_76 rfl rfl hin_X7 14 (Nat.le_of_ble_eq_true rfl) tw_366 rfl dX7_doCall_57 ?_
      refine V_bipush X dX7_doCall_60 (by decide) ?_
      refine V_icmp_lt X (tgt := 67) dX7_doCall_62 (by decide) hf (fun hf => ?_) (fun hf => ?_)
      · refine V_iconst X dX7_doCall_67 ?_
        refine V_istore X dX7_doCall_68 (by decide) ?_
        exact V_cut [0, 1, 2, 4, 5] rfl (v_X7_doCall_70 X hE FU _ _ _ _ _ hf)
      · refine V_iconst X dX7_doCall_65 ?_
        exact V_iret X hE dX7_doCall_66 hf
    · refine V_iconst X dX7_doCall_65 ?_
      exact V_iret X hE dX7_doCall_66 hf
  · refine V_iload_n X dX7_doCall_25 rfl rfl ?_
    exact V_iret X hE dX7_doCall_26 hf
abbrev rmX7_breakOff : Room := { frames := 0, cells := 0, slots := 0, locals := 0 }
set_option maxRecDepth 20000 in
theorem m_X7_breakOff {G : GG} {a1 : Int} {w : WS} {q : (Int × WS)}  (hf : f_X7_breakOff a1 w = some q) : MI G yX7_breakOff cX7_breakOff 2 (some .int) rmX7_breakOff [gr G 76, vi a1] w q := by
  refine MI_of (by decide +kernel) (Nat.le_of_ble_eq_true rfl) (fun E X hE => ?_)
  have X : Cx G E cX7_breakOff RX7 (some .int) rmX7_breakOff 2 := X
  unfold f_X7_breakOff at hf
  refine V_gload_n X dX7_breakOff_0 rfl rfl ?_
  refine V_iload_n X dX7_breakOff_1 rfl rfl ?_
  refine V_puti X ob_76 rfl rfl hin_X7 11 (Nat.le_of_ble_eq_true rfl) tw_360 tyX7 tyX7_ok nmX7 rfl (by decide +kernel) rfl dX7_breakOff_2 ?_
  refine V_bipush X dX7_breakOff_5 (by decide) ?_
  exact V_iret X hE dX7_breakOff_7 hf
abbrev rmX7_placeOf : Room := { frames := 1, cells := 0, slots := 0, locals := 21 }
set_option maxRecDepth 20000 in
theorem m_X7_placeOf {G : GG} {a1 : Int} {w : WS} {q : (Int × WS)}  (hf : f_X7_placeOf a1 w = some q) : MI G yX7_placeOf cX7_placeOf 2 (some .int) rmX7_placeOf [gr G 76, vi a1] w q := by
  refine MI_of (by decide +kernel) (Nat.le_of_ble_eq_true rfl) (fun E X hE => ?_)
  have X : Cx G E cX7_placeOf RX7 (some .int) rmX7_placeOf 2 := X
  unfold f_X7_placeOf at hf
  refine V_iload_n X dX7_placeOf_0 rfl rfl ?_
  refine V_gload_n X dX7_placeOf_1 rfl rfl ?_
  refine V_getr X ob_76 rfl rfl hin_X7 0 (Nat.le_of_ble_eq_true rfl) tw_346 rfl dX7_placeOf_2 ?_
  refine V_getiN X ob_57 rfl rfl hin_X4 6 (Nat.le_of_ble_eq_true rfl) nw_20 rfl dX7_placeOf_5 ?_
  refine V_cSNI X hf [vi a1, vi (w 57 6)] _ 2 (fun _ h => m_X8_isBelow h) tw_678 tw_86 nw_33 tw_677 dX7_placeOf_8 ⟨by decide +kernel, by decide +kernel, by decide +kernel⟩ ⟨rfl, rfl⟩ ⟨Nat.le_of_ble_eq_true rfl, Nat.le_of_ble_eq_true rfl⟩ rfl (Nat.le_of_ble_eq_true rfl) ⟨Nat.zero_le _, Nat.zero_le _⟩ (fun r1 w1 hf => ?_)
  refine V_if_eq X (tgt := 18) dX7_placeOf_11 (by decide) hf (fun hf => ?_) (fun hf => ?_)
  · refine V_gload_n X dX7_placeOf_18 rfl rfl ?_
    refine V_bipush X dX7_placeOf_19 (by decide) ?_
    refine V_cVI X hf [vi 7] _ 1 (fun _ h => m_X7_breakOff h) ob_76 rfl tw_1132 tw_94 tw_1129 tw_1131 tw_30 dX7_placeOf_21 ⟨by decide +kernel, by decide +kernel, by decide +kernel⟩ ⟨rfl, rfl⟩ ⟨Nat.le_of_ble_eq_true rfl, Nat.le_of_ble_eq_true rfl⟩ rfl (Nat.le_of_ble_eq_true rfl) ⟨Nat.zero_le _, Nat.zero_le _⟩ (fun r2 w2 hf => ?_)
    exact V_iret X hE dX7_placeOf_24 hf
  · refine V_iload_n X dX7_placeOf_14 rfl rfl ?_
    refine V_goto X (tgt := 24) dX7_placeOf_15 (by decide) ?_
    exact V_iret X hE dX7_placeOf_24 hf
abbrev rmX7_comeBack : Room := { frames := 2, cells := 0, slots := 0, locals := 54 }
set_option maxRecDepth 20000 in
theorem v_X7_comeBack_64 {G : GG} {E : EE} (X : Cx G E cX7_comeBack RX7 (some .int) rmX7_comeBack 5) {q : (Int × WS)} (hE : EndI G E q)   : ∀ (n : Nat) (a1 a2 a3 a4 : Int) (w : WS), f_X7_comeBack_64   n a1 a2 a3 a4 w = some q → VV G E 0 0 64 [(0, gr G 76), (1, vi a1), (2, vi a2), (3, vi a3), (4, vi a4)] [] w := by
  intro n
  induction n with
  | zero => intro a1 a2 a3 a4 w hf; cases hf
  | succ n ih =>
    intro a1 a2 a3 a4 w hf
    rw [f_X7_comeBack_64_s] at hf
    refine V_iload X dX7_comeBack_64 rfl ?_
    refine V_iconst X dX7_comeBack_66 ?_
    refine V_icmp_ge X (tgt := 112) dX7_comeBack_67 (by decide) hf (fun hf => ?_) (fun hf => ?_)
    · refine V_gload_n X dX7_comeBack_70 rfl rfl ?_
      refine V_getr X ob_76 rfl rfl hin_X7 3 (Nat.le_of_ble_eq_true rfl) tw_349 rfl dX7_comeBack_71 ?_
      refine V_gload_n X dX7_comeBack_74 rfl rfl ?_
      refine V_getr X ob_76 rfl rfl hin_X7 0 (Nat.le_of_ble_eq_true rfl) tw_346 rfl dX7_comeBack_75 ?_
      refine V_getrN X ob_57 rfl rfl hin_X4 9 (Nat.le_of_ble_eq_true rfl) nw_24 rfl dX7_comeBack_78 ?_
      refine V_iconst X dX7_comeBack_81 ?_
      refine V_iload_n X dX7_comeBack_82 rfl rfl ?_
      refine V_imul X dX7_comeBack_83 ?_
      refine V_iload X dX7_comeBack_84 rfl ?_
      refine V_iadd X dX7_comeBack_86 ?_
      refine V_cVI X hf [vi ((3 * a3) + a4)] _ 1 (fun _ h => m_X1_get is_74 h) ob_74 rfl tw_500 tw_89 tw_944 tw_498 tw_499 dX7_comeBack_87 ⟨by decide +kernel, by decide +kernel, by decide +kernel⟩ ⟨rfl, rfl⟩ ⟨Nat.le_of_ble_eq_true rfl, Nat.le_of_ble_eq_true rfl⟩ rfl (Nat.le_of_ble_eq_true rfl) ⟨Nat.zero_le _, Nat.zero_le _⟩ (fun r5 w5 hf => ?_)
      refine V_gload_n X dX7_comeBack_90 rfl rfl ?_
      refine V_getr X ob_76 rfl rfl hin_X7 6 (Nat.le_of_ble_eq_true rfl) tw_352 rfl dX7_comeBack_91 ?_
      refine V_iconst X dX7_comeBack_94 ?_
      refine V_gload_n X dX7_comeBack_95 rfl rfl ?_
      refine V_geti X ob_76 rfl rfl hin_X7 14 (Nat.le_of_ble_eq_true rfl) tw_366 rfl dX7_comeBack_96 ?_
      refine V_imul X dX7_comeBack_99 ?_
      refine V_iload X dX7_comeBack_100 rfl ?_
      refine V_iadd X dX7_comeBack_102 ?_
      refine V_cVV X hf [vi r5, gr G 22, vi ((3 * (w5 76 14)) + a4)] _ 3 (fun _ h => m_X6_copy is_7 is_22 h) ob_7 rfl tw_635 tw_87 tw_1015 tw_633 tw_634 dX7_comeBack_103 ⟨by decide +kernel, by decide +kernel, by decide +kernel⟩ ⟨rfl, rfl⟩ ⟨Nat.le_of_ble_eq_true rfl, Nat.le_of_ble_eq_true rfl⟩ rfl (Nat.le_of_ble_eq_true rfl) ⟨Nat.zero_le _, Nat.zero_le _⟩ (fun r6 w6 hf => ?_)
      refine V_iinc X dX7_comeBack_106 rfl (by decide) ?_
      refine V_goto X (tgt := 64) dX7_comeBack_109 (by decide) ?_
      exact V_cut [0, 1, 2, 3, 4] rfl (ih _ _ _ _ _ hf)
    · refine V_iload_n X dX7_comeBack_112 rfl rfl ?_
      refine V_if_eq X (tgt := 139) dX7_comeBack_113 (by decide) hf (fun hf => ?_) (fun hf => ?_)
      · refine V_iload_n X dX7_comeBack_139 rfl rfl ?_
        exact V_iret X hE dX7_comeBack_140 hf
      · refine V_gload_n X dX7_comeBack_116 rfl rfl ?_
        refine V_getr X ob_76 rfl rfl hin_X7 3 (Nat.le_of_ble_eq_true rfl) tw_349 rfl dX7_comeBack_117 ?_
        refine V_gload_n X dX7_comeBack_120 rfl rfl ?_
        refine V_getr X ob_76 rfl rfl hin_X7 0 (Nat.le_of_ble_eq_true rfl) tw_346 rfl dX7_comeBack_121 ?_
        refine V_getrN X ob_57 rfl rfl hin_X4 1 (Nat.le_of_ble_eq_true rfl) nw_15 rfl dX7_comeBack_124 ?_
        refine V_iload_n X dX7_comeBack_127 rfl rfl ?_
        refine V_cVI X hf [vi a2] _ 1 (fun _ h => m_X1_get is_60 h) ob_60 rfl tw_500 tw_89 tw_944 tw_498 tw_499 dX7_comeBack_128 ⟨by decide +kernel, by decide +kernel, by decide +kernel⟩ ⟨rfl, rfl⟩ ⟨Nat.le_of_ble_eq_true rfl, Nat.le_of_ble_eq_true rfl⟩ rfl (Nat.le_of_ble_eq_true rfl) ⟨Nat.zero_le _, Nat.zero_le _⟩ (fun r7 w7 hf => ?_)
        refine V_gload_n X dX7_comeBack_131 rfl rfl ?_
        refine V_getr X ob_76 rfl rfl hin_X7 4 (Nat.le_of_ble_eq_true rfl) tw_350 rfl dX7_comeBack_132 ?_
        refine V_iconst X dX7_comeBack_135 ?_
        refine V_cVV X hf [vi r7, gr G 19, vi 0] _ 3 (fun _ h => m_X6_copy is_7 is_19 h) ob_7 rfl tw_635 tw_87 tw_1015 tw_633 tw_634 dX7_comeBack_136 ⟨by decide +kernel, by decide +kernel, by decide +kernel⟩ ⟨rfl, rfl⟩ ⟨Nat.le_of_ble_eq_true rfl, Nat.le_of_ble_eq_true rfl⟩ rfl (Nat.le_of_ble_eq_true rfl) ⟨Nat.zero_le _, Nat.zero_le _⟩ (fun r8 w8 hf => ?_)
        refine V_iload_n X dX7_comeBack_139 rfl rfl ?_
        exact V_iret X hE dX7_comeBack_140 hf
set_option maxRecDepth 20000 in
theorem m_X7_comeBack {G : GG} {a1 : Int} {w : WS} {q : (Int × WS)}  (hf : f_X7_comeBack a1 w = some q) : MI G yX7_comeBack cX7_comeBack 5 (some .int) rmX7_comeBack [gr G 76, vi a1] w q := by
  refine MI_of (by decide +kernel) (Nat.le_of_ble_eq_true rfl) (fun E X hE => ?_)
  have X : Cx G E cX7_comeBack RX7 (some .int) rmX7_comeBack 5 := X
  unfold f_X7_comeBack at hf
  refine V_gload_n X dX7_comeBack_0 rfl rfl ?_
  refine V_dup X dX7_comeBack_1 rfl ?_
  refine V_geti X ob_76 rfl rfl hin_X7 14 (Nat.le_of_ble_eq_true rfl) tw_366 rfl dX7_comeBack_2 ?_
  refine V_iconst X dX7_comeBack_5 ?_
  refine V_isub X dX7_comeBack_6 ?_
  refine V_puti X ob_76 rfl rfl hin_X7 14 (Nat.le_of_ble_eq_true rfl) tw_366 tyX7 tyX7_ok nmX7 rfl (by decide +kernel) rfl dX7_comeBack_7 ?_
  refine V_gload_n X dX7_comeBack_10 rfl rfl ?_
  refine V_getr X ob_76 rfl rfl hin_X7 5 (Nat.le_of_ble_eq_true rfl) tw_351 rfl dX7_comeBack_11 ?_
  refine V_gload_n X dX7_comeBack_14 rfl rfl ?_
  refine V_geti X ob_76 rfl rfl hin_X7 14 (Nat.le_of_ble_eq_true rfl) tw_366 rfl dX7_comeBack_15 ?_
  refine V_cVI X hf [vi ((up w 76 14 ((w 76 14) - 1)) 76 14)] _ 1 (fun _ h => m_X1_get is_77 h) ob_77 rfl tw_500 tw_89 tw_944 tw_498 tw_499 dX7_comeBack_18 ⟨by decide +kernel, by decide +kernel, by decide +kernel⟩ ⟨rfl, rfl⟩ ⟨Nat.le_of_ble_eq_true rfl, Nat.le_of_ble_eq_true rfl⟩ rfl (Nat.le_of_ble_eq_true rfl) ⟨Nat.zero_le _, Nat.zero_le _⟩ (fun r1 w1 hf => ?_)
  refine V_istore_n X dX7_comeBack_21 rfl (by decide) ?_
  refine V_gload_n X dX7_comeBack_22 rfl rfl ?_
  refine V_getr X ob_76 rfl rfl hin_X7 0 (Nat.le_of_ble_eq_true rfl) tw_346 rfl dX7_comeBack_23 ?_
  refine V_getrN X ob_57 rfl rfl hin_X4 2 (Nat.le_of_ble_eq_true rfl) nw_16 rfl dX7_comeBack_26 ?_
  refine V_iload_n X dX7_comeBack_29 rfl rfl ?_
  refine V_cVI X hf [vi r1] _ 1 (fun _ h => m_X1_get is_62 h) ob_62 rfl tw_500 tw_89 tw_944 tw_498 tw_499 dX7_comeBack_30 ⟨by decide +kernel, by decide +kernel, by decide +kernel⟩ ⟨rfl, rfl⟩ ⟨Nat.le_of_ble_eq_true rfl, Nat.le_of_ble_eq_true rfl⟩ rfl (Nat.le_of_ble_eq_true rfl) ⟨Nat.zero_le _, Nat.zero_le _⟩ (fun r2 w2 hf => ?_)
  refine V_istore_n X dX7_comeBack_33 rfl (by decide) ?_
  refine V_gload_n X dX7_comeBack_34 rfl rfl ?_
  refine V_getr X ob_76 rfl rfl hin_X7 4 (Nat.le_of_ble_eq_true rfl) tw_350 rfl dX7_comeBack_35 ?_
  refine V_iconst X dX7_comeBack_38 ?_
  refine V_gload_n X dX7_comeBack_39 rfl rfl ?_
  refine V_getr X ob_76 rfl rfl hin_X7 3 (Nat.le_of_ble_eq_true rfl) tw_349 rfl dX7_comeBack_40 ?_
  refine V_gload_n X dX7_comeBack_43 rfl rfl ?_
  refine V_getr X ob_76 rfl rfl hin_X7 0 (Nat.le_of_ble_eq_true rfl) tw_346 rfl dX7_comeBack_44 ?_
  refine V_getrN X ob_57 rfl rfl hin_X4 9 (Nat.le_of_ble_eq_true rfl) nw_24 rfl dX7_comeBack_47 ?_
  refine V_iconst X dX7_comeBack_50 ?_
  refine V_iload_n X dX7_comeBack_51 rfl rfl ?_
  refine V_imul X dX7_comeBack_52 ?_
  refine V_iconst X dX7_comeBack_53 ?_
  refine V_iadd X dX7_comeBack_54 ?_
  refine V_cVI X hf [vi ((3 * r2) + 2)] _ 1 (fun _ h => m_X1_get is_74 h) ob_74 rfl tw_500 tw_89 tw_944 tw_498 tw_499 dX7_comeBack_55 ⟨by decide +kernel, by decide +kernel, by decide +kernel⟩ ⟨rfl, rfl⟩ ⟨Nat.le_of_ble_eq_true rfl, Nat.le_of_ble_eq_true rfl⟩ rfl (Nat.le_of_ble_eq_true rfl) ⟨Nat.zero_le _, Nat.zero_le _⟩ (fun r3 w3 hf => ?_)
  refine V_cVV X hf [vi 0, gr G 7, vi r3] _ 3 (fun _ h => m_X6_copy is_19 is_7 h) ob_19 rfl tw_635 tw_87 tw_1015 tw_633 tw_634 dX7_comeBack_58 ⟨by decide +kernel, by decide +kernel, by decide +kernel⟩ ⟨rfl, rfl⟩ ⟨Nat.le_of_ble_eq_true rfl, Nat.le_of_ble_eq_true rfl⟩ rfl (Nat.le_of_ble_eq_true rfl) ⟨Nat.zero_le _, Nat.zero_le _⟩ (fun r4 w4 hf => ?_)
  refine V_iconst X dX7_comeBack_61 ?_
  refine V_istore X dX7_comeBack_62 (by decide) ?_
  exact V_cut [0, 1, 2, 3, 4] rfl (v_X7_comeBack_64 X hE FU _ _ _ _ _ hf)
abbrev rmX7_leave : Room := { frames := 3, cells := 0, slots := 0, locals := 78 }
set_option maxRecDepth 20000 in
theorem v_X7_leave_136 {G : GG} {E : EE} (X : Cx G E cX7_leave RX7 (some .int) rmX7_leave 7) {q : (Int × WS)} (hE : EndI G E q)   {k8 : Int → Int → Int → WS → Option (Int × WS)} (hk8 : ∀ (a3 a4 a5 : Int) (w : WS), k8 a3 a4 a5 w = some q → VV G E 0 0 8 [(0, gr G 76), (3, vi a3), (4, vi a4), (5, vi a5)] [] w) {a5 s0 : Int} {w : WS} (hf : f_X7_leave_136  k8 a5 s0 w = some q) : VV G E 0 0 136 [(0, gr G 76), (5, vi a5)] [vi s0] w := by
  unfold f_X7_leave_136 at hf
  refine V_istore X dX7_leave_136 (by decide) ?_
  refine V_gload_n X dX7_leave_138 rfl rfl ?_
  refine V_iload X dX7_leave_139 rfl ?_
  refine V_cVI X hf [vi s0] _ 1 (fun _ h => m_X7_comeBack h) ob_76 rfl tw_1145 tw_94 tw_1142 tw_1144 tw_33 dX7_leave_141 ⟨by decide +kernel, by decide +kernel, by decide +kernel⟩ ⟨rfl, rfl⟩ ⟨Nat.le_of_ble_eq_true rfl, Nat.le_of_ble_eq_true rfl⟩ rfl (Nat.le_of_ble_eq_true rfl) ⟨Nat.zero_le _, Nat.zero_le _⟩ (fun r5 w5 hf => ?_)
  refine V_istore_n X dX7_leave_144 rfl (by decide) ?_
  refine V_iinc X dX7_leave_145 rfl (by decide) ?_
  refine V_goto X (tgt := 8) dX7_leave_148 (by decide) ?_
  exact V_cut [0, 3, 4, 5] rfl (hk8 _ _ _ _ hf)
set_option maxRecDepth 20000 in
theorem v_X7_leave_88 {G : GG} {E : EE} (X : Cx G E cX7_leave RX7 (some .int) rmX7_leave 7) {q : (Int × WS)} (hE : EndI G E q)   {k8 : Int → Int → Int → WS → Option (Int × WS)} (hk8 : ∀ (a3 a4 a5 : Int) (w : WS), k8 a3 a4 a5 w = some q → VV G E 0 0 8 [(0, gr G 76), (3, vi a3), (4, vi a4), (5, vi a5)] [] w) {a3 a5 a6 : Int} {w : WS} (hf : f_X7_leave_88  k8 a3 a5 a6 w = some q) : VV G E 0 0 88 [(0, gr G 76), (3, vi a3), (5, vi a5), (6, vi a6)] [] w := by
  unfold f_X7_leave_88 at hf
  refine V_iload X dX7_leave_88 rfl ?_
  refine V_iconst X dX7_leave_90 ?_
  refine V_icmp_ne X (tgt := 98) dX7_leave_91 (by decide) hf (fun hf => ?_) (fun hf => ?_)
  · refine V_iload_n X dX7_leave_94 rfl rfl ?_
    refine V_iconst X dX7_leave_95 ?_
    refine V_iadd X dX7_leave_96 ?_
    exact V_iret X hE dX7_leave_97 hf
  · refine V_iload X dX7_leave_98 rfl ?_
    refine V_if_lt X (tgt := 110) dX7_leave_100 (by decide) hf (fun hf => ?_) (fun hf => ?_)
    · refine V_gload_n X dX7_leave_110 rfl rfl ?_
      refine V_geti X ob_76 rfl rfl hin_X7 14 (Nat.le_of_ble_eq_true rfl) tw_366 rfl dX7_leave_111 ?_
      refine V_if_ne X (tgt := 124) dX7_leave_114 (by decide) hf (fun hf => ?_) (fun hf => ?_)
      · refine V_gload_n X dX7_leave_117 rfl rfl ?_
        refine V_bipush X dX7_leave_118 (by decide) ?_
        refine V_cVI X hf [vi 6] _ 1 (fun _ h => m_X7_breakOff h) ob_76 rfl tw_1132 tw_94 tw_1129 tw_1131 tw_30 dX7_leave_120 ⟨by decide +kernel, by decide +kernel, by decide +kernel⟩ ⟨rfl, rfl⟩ ⟨Nat.le_of_ble_eq_true rfl, Nat.le_of_ble_eq_true rfl⟩ rfl (Nat.le_of_ble_eq_true rfl) ⟨Nat.zero_le _, Nat.zero_le _⟩ (fun r4 w4 hf => ?_)
        exact V_iret X hE dX7_leave_123 hf
      · refine V_iload X dX7_leave_124 rfl ?_
        refine V_bipush X dX7_leave_126 (by decide) ?_
        refine V_icmp_ne X (tgt := 135) dX7_leave_128 (by decide) hf (fun hf => ?_) (fun hf => ?_)
        · refine V_iconst X dX7_leave_131 ?_
          refine V_goto X (tgt := 136) dX7_leave_132 (by decide) ?_
          exact V_cut [0, 5] rfl (v_X7_leave_136 X hE hk8 hf)
        · refine V_iconst X dX7_leave_135 ?_
          exact V_cut [0, 5] rfl (v_X7_leave_136 X hE hk8 hf)
    · refine V_gload_n X dX7_leave_103 rfl rfl ?_
      refine V_iload X dX7_leave_104 rfl ?_
      refine V_cVI X hf [vi a6] _ 1 (fun _ h => m_X7_placeOf h) ob_76 rfl tw_1136 tw_94 tw_1133 tw_1135 tw_31 dX7_leave_106 ⟨by decide +kernel, by decide +kernel, by decide +kernel⟩ ⟨rfl, rfl⟩ ⟨Nat.le_of_ble_eq_true rfl, Nat.le_of_ble_eq_true rfl⟩ rfl (Nat.le_of_ble_eq_true rfl) ⟨Nat.zero_le _, Nat.zero_le _⟩ (fun r6 w6 hf => ?_)
      exact V_iret X hE dX7_leave_109 hf
set_option maxRecDepth 20000 in
theorem v_X7_leave_58 {G : GG} {E : EE} (X : Cx G E cX7_leave RX7 (some .int) rmX7_leave 7) {q : (Int × WS)} (hE : EndI G E q)   {k8 : Int → Int → Int → WS → Option (Int × WS)} (hk8 : ∀ (a3 a4 a5 : Int) (w : WS), k8 a3 a4 a5 w = some q → VV G E 0 0 8 [(0, gr G 76), (3, vi a3), (4, vi a4), (5, vi a5)] [] w) {a3 a5 s0 : Int} {w : WS} (hf : f_X7_leave_58  k8 a3 a5 s0 w = some q) : VV G E 0 0 58 [(0, gr G 76), (3, vi a3), (5, vi a5)] [vi s0] w := by
  unfold f_X7_leave_58 at hf
  refine V_istore X dX7_leave_58 (by decide) ?_
  refine V_iload X dX7_leave_60 rfl ?_
  refine V_bipush X dX7_leave_62 (by decide) ?_
  refine V_icmp_eq X (tgt := 86) dX7_leave_64 (by decide) hf (fun hf => ?_) (fun hf => ?_)
  · refine V_iconst X dX7_leave_86 ?_
    exact V_iret X hE dX7_leave_87 hf
  · refine V_iload X dX7_leave_67 rfl ?_
    refine V_iconst X dX7_leave_69 ?_
    refine V_icmp_ne X (tgt := 88) dX7_leave_70 (by decide) hf (fun hf => ?_) (fun hf => ?_)
    · refine V_iload_n X dX7_leave_73 rfl rfl ?_
      refine V_iconst X dX7_leave_74 ?_
      refine V_iadd X dX7_leave_75 ?_
      refine V_gload_n X dX7_leave_76 rfl rfl ?_
      refine V_getr X ob_76 rfl rfl hin_X7 0 (Nat.le_of_ble_eq_true rfl) tw_346 rfl dX7_leave_77 ?_
      refine V_getiN X ob_57 rfl rfl hin_X4 6 (Nat.le_of_ble_eq_true rfl) nw_20 rfl dX7_leave_80 ?_
      refine V_icmp_ne X (tgt := 88) dX7_leave_83 (by decide) hf (fun hf => ?_) (fun hf => ?_)
      · refine V_iconst X dX7_leave_86 ?_
        exact V_iret X hE dX7_leave_87 hf
      · exact V_cut [0, 3, 5, 6] rfl (v_X7_leave_88 X hE hk8 hf)
    · exact V_cut [0, 3, 5, 6] rfl (v_X7_leave_88 X hE hk8 hf)
set_option maxRecDepth 20000 in
theorem v_X7_leave_28 {G : GG} {E : EE} (X : Cx G E cX7_leave RX7 (some .int) rmX7_leave 7) {q : (Int × WS)} (hE : EndI G E q)   {k8 : Int → Int → Int → WS → Option (Int × WS)} (hk8 : ∀ (a3 a4 a5 : Int) (w : WS), k8 a3 a4 a5 w = some q → VV G E 0 0 8 [(0, gr G 76), (3, vi a3), (4, vi a4), (5, vi a5)] [] w) {a3 a4 a5 : Int} {w : WS} (hf : f_X7_leave_28  k8 a3 a4 a5 w = some q) : VV G E 0 0 28 [(0, gr G 76), (3, vi a3), (4, vi a4), (5, vi a5)] [] w := by
  unfold f_X7_leave_28 at hf
  refine V_iload X dX7_leave_28 rfl ?_
  refine V_if_eq X (tgt := 47) dX7_leave_30 (by decide) hf (fun hf => ?_) (fun hf => ?_)
  · refine V_gload_n X dX7_leave_47 rfl rfl ?_
    refine V_getr X ob_76 rfl rfl hin_X7 0 (Nat.le_of_ble_eq_true rfl) tw_346 rfl dX7_leave_48 ?_
    refine V_getrN X ob_57 rfl rfl hin_X4 5 (Nat.le_of_ble_eq_true rfl) nw_19 rfl dX7_leave_51 ?_
    refine V_iload_n X dX7_leave_54 rfl rfl ?_
    refine V_cVI X hf [vi a3] _ 1 (fun _ h => m_X1_get is_68 h) ob_68 rfl tw_500 tw_89 tw_944 tw_498 tw_499 dX7_leave_55 ⟨by decide +kernel, by decide +kernel, by decide +kernel⟩ ⟨rfl, rfl⟩ ⟨Nat.le_of_ble_eq_true rfl, Nat.le_of_ble_eq_true rfl⟩ rfl (Nat.le_of_ble_eq_true rfl) ⟨Nat.zero_le _, Nat.zero_le _⟩ (fun r3 w3 hf => ?_)
    exact V_cut [0, 3, 5] rfl (v_X7_leave_58 X hE hk8 hf)
  · refine V_gload_n X dX7_leave_33 rfl rfl ?_
    refine V_getr X ob_76 rfl rfl hin_X7 0 (Nat.le_of_ble_eq_true rfl) tw_346 rfl dX7_leave_34 ?_
    refine V_getrN X ob_57 rfl rfl hin_X4 4 (Nat.le_of_ble_eq_true rfl) nw_18 rfl dX7_leave_37 ?_
    refine V_iload_n X dX7_leave_40 rfl rfl ?_
    refine V_cVI X hf [vi a3] _ 1 (fun _ h => m_X1_get is_66 h) ob_66 rfl tw_500 tw_89 tw_944 tw_498 tw_499 dX7_leave_41 ⟨by decide +kernel, by decide +kernel, by decide +kernel⟩ ⟨rfl, rfl⟩ ⟨Nat.le_of_ble_eq_true rfl, Nat.le_of_ble_eq_true rfl⟩ rfl (Nat.le_of_ble_eq_true rfl) ⟨Nat.zero_le _, Nat.zero_le _⟩ (fun r7 w7 hf => ?_)
    refine V_goto X (tgt := 58) dX7_leave_44 (by decide) ?_
    exact V_cut [0, 3, 5] rfl (v_X7_leave_58 X hE hk8 hf)
set_option maxRecDepth 20000 in
theorem v_X7_leave_8 {G : GG} {E : EE} (X : Cx G E cX7_leave RX7 (some .int) rmX7_leave 7) {q : (Int × WS)} (hE : EndI G E q)   : ∀ (n : Nat) (a3 a4 a5 : Int) (w : WS), f_X7_leave_8   n a3 a4 a5 w = some q → VV G E 0 0 8 [(0, gr G 76), (3, vi a3), (4, vi a4), (5, vi a5)] [] w := by
  intro n
  induction n with
  | zero => intro a3 a4 a5 w hf; cases hf
  | succ n ih =>
    intro a3 a4 a5 w hf
    rw [f_X7_leave_8_s] at hf
    refine V_iload X dX7_leave_8 rfl ?_
    refine V_bipush X dX7_leave_10 (by decide) ?_
    refine V_icmp_gt X (tgt := 151) dX7_leave_12 (by decide) hf (fun hf => ?_) (fun hf => ?_)
    · refine V_gload_n X dX7_leave_151 rfl rfl ?_
      refine V_bipush X dX7_leave_152 (by decide) ?_
      refine V_cVI X hf [vi 6] _ 1 (fun _ h => m_X7_breakOff h) ob_76 rfl tw_1132 tw_94 tw_1129 tw_1131 tw_30 dX7_leave_154 ⟨by decide +kernel, by decide +kernel, by decide +kernel⟩ ⟨rfl, rfl⟩ ⟨Nat.le_of_ble_eq_true rfl, Nat.le_of_ble_eq_true rfl⟩ rfl (Nat.le_of_ble_eq_true rfl) ⟨Nat.zero_le _, Nat.zero_le _⟩ (fun r1 w1 hf => ?_)
      exact V_iret X hE dX7_leave_157 hf
    · refine V_iload X dX7_leave_15 rfl ?_
      refine V_if_ne X (tgt := 28) dX7_leave_17 (by decide) hf (fun hf => ?_) (fun hf => ?_)
      · refine V_gload_n X dX7_leave_20 rfl rfl ?_
        refine V_getr X ob_76 rfl rfl hin_X7 8 (Nat.le_of_ble_eq_true rfl) tw_355 rfl dX7_leave_21 ?_
        refine V_iload_n X dX7_leave_24 rfl rfl ?_
        refine V_cVV X hf [vi a3] _ 1 (fun _ h => m_X1_increase is_81 h) ob_81 rfl tw_942 tw_89 tw_939 tw_940 tw_941 dX7_leave_25 ⟨by decide +kernel, by decide +kernel, by decide +kernel⟩ ⟨rfl, rfl⟩ ⟨Nat.le_of_ble_eq_true rfl, Nat.le_of_ble_eq_true rfl⟩ rfl (Nat.le_of_ble_eq_true rfl) ⟨Nat.zero_le _, Nat.zero_le _⟩ (fun r2 w2 hf => ?_)
        exact V_cut [0, 3, 4, 5] rfl (v_X7_leave_28 X hE (fun x0 x1 x2 x hf => ih x0 x1 x2 x hf) hf)
      · exact V_cut [0, 3, 4, 5] rfl (v_X7_leave_28 X hE (fun x0 x1 x2 x hf => ih x0 x1 x2 x hf) hf)
set_option maxRecDepth 20000 in
theorem m_X7_leave {G : GG} {a1 : Int} {a2 : Int} {w : WS} {q : (Int × WS)}  (hf : f_X7_leave a1 a2 w = some q) : MI G yX7_leave cX7_leave 7 (some .int) rmX7_leave [gr G 76, vi a1, vi a2] w q := by
  refine MI_of (by decide +kernel) (Nat.le_of_ble_eq_true rfl) (fun E X hE => ?_)
  have X : Cx G E cX7_leave RX7 (some .int) rmX7_leave 7 := X
  unfold f_X7_leave at hf
  refine V_iload_n X dX7_leave_0 rfl rfl ?_
  refine V_istore_n X dX7_leave_1 rfl (by decide) ?_
  refine V_iload_n X dX7_leave_2 rfl rfl ?_
  refine V_istore X dX7_leave_3 (by decide) ?_
  refine V_iconst X dX7_leave_5 ?_
  refine V_istore X dX7_leave_6 (by decide) ?_
  exact V_cut [0, 3, 4, 5] rfl (v_X7_leave_8 X hE FU _ _ _ _ hf)
abbrev rmX7_placeBehind : Room := { frames := 4, cells := 0, slots := 0, locals := 104 }
set_option maxRecDepth 20000 in
theorem v_X7_placeBehind_53 {G : GG} {E : EE} (X : Cx G E cX7_placeBehind RX7 (some .int) rmX7_placeBehind 3) {q : (Int × WS)} (hE : EndI G E q)   {s0 s1 : Int} {w : WS} (hf : f_X7_placeBehind_53   s0 s1 w = some q) : VV G E 0 0 53 [] [vi s0, vi s1, gr G 76] w := by
  unfold f_X7_placeBehind_53 at hf
  refine V_cVI X hf [vi s1, vi s0] _ 2 (fun _ h => m_X7_leave h) ob_76 rfl tw_1141 tw_94 tw_1138 tw_1140 tw_32 dX7_placeBehind_53 ⟨by decide +kernel, by decide +kernel, by decide +kernel⟩ ⟨rfl, rfl⟩ ⟨Nat.le_of_ble_eq_true rfl, Nat.le_of_ble_eq_true rfl⟩ rfl (Nat.le_of_ble_eq_true rfl) ⟨Nat.zero_le _, Nat.zero_le _⟩ (fun r5 w5 hf => ?_)
  exact V_iret X hE dX7_placeBehind_56 hf
set_option maxRecDepth 20000 in
theorem m_X7_placeBehind {G : GG} {a1 : Int} {a2 : Int} {w : WS} {q : (Int × WS)}  (hf : f_X7_placeBehind a1 a2 w = some q) : MI G yX7_placeBehind cX7_placeBehind 3 (some .int) rmX7_placeBehind [gr G 76, vi a1, vi a2] w q := by
  refine MI_of (by decide +kernel) (Nat.le_of_ble_eq_true rfl) (fun E X hE => ?_)
  have X : Cx G E cX7_placeBehind RX7 (some .int) rmX7_placeBehind 3 := X
  unfold f_X7_placeBehind at hf
  refine V_iload_n X dX7_placeBehind_0 rfl rfl ?_
  refine V_if_le X (tgt := 10) dX7_placeBehind_1 (by decide) hf (fun hf => ?_) (fun hf => ?_)
  · refine V_gload_n X dX7_placeBehind_4 rfl rfl ?_
    refine V_iload_n X dX7_placeBehind_5 rfl rfl ?_
    refine V_cVI X hf [vi a2] _ 1 (fun _ h => m_X7_breakOff h) ob_76 rfl tw_1132 tw_94 tw_1129 tw_1131 tw_30 dX7_placeBehind_6 ⟨by decide +kernel, by decide +kernel, by decide +kernel⟩ ⟨rfl, rfl⟩ ⟨Nat.le_of_ble_eq_true rfl, Nat.le_of_ble_eq_true rfl⟩ rfl (Nat.le_of_ble_eq_true rfl) ⟨Nat.zero_le _, Nat.zero_le _⟩ (fun r1 w1 hf => ?_)
    exact V_iret X hE dX7_placeBehind_9 hf
  · refine V_iload_n X dX7_placeBehind_10 rfl rfl ?_
    refine V_bipush X dX7_placeBehind_11 (by decide) ?_
    refine V_icmp_ne X (tgt := 42) dX7_placeBehind_13 (by decide) hf (fun hf => ?_) (fun hf => ?_)
    · refine V_gload_n X dX7_placeBehind_16 rfl rfl ?_
      refine V_gload_n X dX7_placeBehind_17 rfl rfl ?_
      refine V_getr X ob_76 rfl rfl hin_X7 0 (Nat.le_of_ble_eq_true rfl) tw_346 rfl dX7_placeBehind_18 ?_
      refine V_getrN X ob_57 rfl rfl hin_X4 8 (Nat.le_of_ble_eq_true rfl) nw_23 rfl dX7_placeBehind_21 ?_
      refine V_gload_n X dX7_placeBehind_24 rfl rfl ?_
      refine V_getr X ob_76 rfl rfl hin_X7 0 (Nat.le_of_ble_eq_true rfl) tw_346 rfl dX7_placeBehind_25 ?_
      refine V_getrN X ob_57 rfl rfl hin_X4 2 (Nat.le_of_ble_eq_true rfl) nw_16 rfl dX7_placeBehind_28 ?_
      refine V_iload_n X dX7_placeBehind_31 rfl rfl ?_
      refine V_cVI X hf [vi a1] _ 1 (fun _ h => m_X1_get is_62 h) ob_62 rfl tw_500 tw_89 tw_944 tw_498 tw_499 dX7_placeBehind_32 ⟨by decide +kernel, by decide +kernel, by decide +kernel⟩ ⟨rfl, rfl⟩ ⟨Nat.le_of_ble_eq_true rfl, Nat.le_of_ble_eq_true rfl⟩ rfl (Nat.le_of_ble_eq_true rfl) ⟨Nat.zero_le _, Nat.zero_le _⟩ (fun r2 w2 hf => ?_)
      refine V_cVI X hf [vi r2] _ 1 (fun _ h => m_X1_get is_72 h) ob_72 rfl tw_500 tw_89 tw_944 tw_498 tw_499 dX7_placeBehind_35 ⟨by decide +kernel, by decide +kernel, by decide +kernel⟩ ⟨rfl, rfl⟩ ⟨Nat.le_of_ble_eq_true rfl, Nat.le_of_ble_eq_true rfl⟩ rfl (Nat.le_of_ble_eq_true rfl) ⟨Nat.zero_le _, Nat.zero_le _⟩ (fun r3 w3 hf => ?_)
      refine V_cVI X hf [vi r3] _ 1 (fun _ h => m_X7_placeOf h) ob_76 rfl tw_1136 tw_94 tw_1133 tw_1135 tw_31 dX7_placeBehind_38 ⟨by decide +kernel, by decide +kernel, by decide +kernel⟩ ⟨rfl, rfl⟩ ⟨Nat.le_of_ble_eq_true rfl, Nat.le_of_ble_eq_true rfl⟩ rfl (Nat.le_of_ble_eq_true rfl) ⟨Nat.zero_le _, Nat.zero_le _⟩ (fun r4 w4 hf => ?_)
      exact V_iret X hE dX7_placeBehind_41 hf
    · refine V_gload_n X dX7_placeBehind_42 rfl rfl ?_
      refine V_iload_n X dX7_placeBehind_43 rfl rfl ?_
      refine V_iload_n X dX7_placeBehind_44 rfl rfl ?_
      refine V_if_ne X (tgt := 52) dX7_placeBehind_45 (by decide) hf (fun hf => ?_) (fun hf => ?_)
      · refine V_iconst X dX7_placeBehind_48 ?_
        refine V_goto X (tgt := 53) dX7_placeBehind_49 (by decide) ?_
        exact V_cut [] rfl (v_X7_placeBehind_53 X hE hf)
      · refine V_iconst X dX7_placeBehind_52 ?_
        exact V_cut [] rfl (v_X7_placeBehind_53 X hE hf)
abbrev rmX7_go : Room := { frames := 5, cells := 0, slots := 0, locals := 134 }
set_option maxRecDepth 20000 in
theorem v_X7_go_146 {G : GG} {E : EE} (X : Cx G E cX7_go RX7 (some .char) rmX7_go 7) {q : (Int × WS)} (hE : EndI G E q)   {k45 : Int → Int → Int → WS → Option (Int × WS)} (hk45 : ∀ (a2 a4 a5 : Int) (w : WS), k45 a2 a4 a5 w = some q → VV G E 0 0 45 [(0, gr G 76), (2, vi a2), (4, vi a4), (5, vi a5)] [] w) {a2 a4 a5 a6 : Int} {w : WS} (hf : f_X7_go_146  k45 a2 a4 a5 a6 w = some q) : VV G E 0 0 146 [(0, gr G 76), (2, vi a2), (4, vi a4), (5, vi a5), (6, vi a6)] [] w := by
  unfold f_X7_go_146 at hf
  refine V_gload_n X dX7_go_146 rfl rfl ?_
  refine V_iload X dX7_go_147 rfl ?_
  refine V_iload X dX7_go_149 rfl ?_
  refine V_cVI X hf [vi a4, vi a6] _ 2 (fun _ h => m_X7_placeBehind h) ob_76 rfl tw_1128 tw_94 tw_1125 tw_1127 tw_29 dX7_go_151 ⟨by decide +kernel, by decide +kernel, by decide +kernel⟩ ⟨rfl, rfl⟩ ⟨Nat.le_of_ble_eq_true rfl, Nat.le_of_ble_eq_true rfl⟩ rfl (Nat.le_of_ble_eq_true rfl) ⟨Nat.zero_le _, Nat.zero_le _⟩ (fun r6 w6 hf => ?_)
  refine V_istore X dX7_go_154 (by decide) ?_
  refine V_iload X dX7_go_156 rfl ?_
  refine V_iconst X dX7_go_158 ?_
  refine V_icmp_ne X (tgt := 165) dX7_go_159 (by decide) hf (fun hf => ?_) (fun hf => ?_)
  · refine V_bipush X dX7_go_162 (by decide) ?_
    exact V_cret X hE dX7_go_164 (by decide) hf
  · refine V_iload X dX7_go_165 rfl ?_
    refine V_bipush X dX7_go_167 (by decide) ?_
    refine V_icmp_ne X (tgt := 175) dX7_go_169 (by decide) hf (fun hf => ?_) (fun hf => ?_)
    · refine V_bipush X dX7_go_172 (by decide) ?_
      exact V_cret X hE dX7_go_174 (by decide) hf
    · refine V_iinc X dX7_go_175 rfl (by decide) ?_
      refine V_goto X (tgt := 45) dX7_go_178 (by decide) ?_
      exact V_cut [0, 2, 4, 5] rfl (hk45 _ _ _ _ hf)
set_option maxRecDepth 20000 in
theorem v_X7_go_45 {G : GG} {E : EE} (X : Cx G E cX7_go RX7 (some .char) rmX7_go 7) {q : (Int × WS)} (hE : EndI G E q)   : ∀ (n : Nat) (a2 a4 a5 : Int) (w : WS), f_X7_go_45   n a2 a4 a5 w = some q → VV G E 0 0 45 [(0, gr G 76), (2, vi a2), (4, vi a4), (5, vi a5)] [] w := by
  intro n
  induction n with
  | zero => intro a2 a4 a5 w hf; cases hf
  | succ n ih =>
    intro a2 a4 a5 w hf
    rw [f_X7_go_45_s] at hf
    refine V_iload X dX7_go_45 rfl ?_
    refine V_iload_n X dX7_go_47 rfl rfl ?_
    refine V_icmp_ge X (tgt := 181) dX7_go_48 (by decide) hf (fun hf => ?_) (fun hf => ?_)
    · refine V_gload_n X dX7_go_51 rfl rfl ?_
      refine V_iload X dX7_go_52 rfl ?_
      refine V_puti X ob_76 rfl rfl hin_X7 12 (Nat.le_of_ble_eq_true rfl) tw_362 tyX7 tyX7_ok nmX7 rfl (by decide +kernel) rfl dX7_go_54 ?_
      refine V_gload_n X dX7_go_57 rfl rfl ?_
      refine V_dup X dX7_go_58 rfl ?_
      refine V_geti X ob_76 rfl rfl hin_X7 13 (Nat.le_of_ble_eq_true rfl) tw_364 rfl dX7_go_59 ?_
      refine V_iconst X dX7_go_62 ?_
      refine V_iadd X dX7_go_63 ?_
      refine V_puti X ob_76 rfl rfl hin_X7 13 (Nat.le_of_ble_eq_true rfl) tw_364 tyX7 tyX7_ok nmX7 rfl (by decide +kernel) rfl dX7_go_64 ?_
      refine V_gload_n X dX7_go_67 rfl rfl ?_
      refine V_getr X ob_76 rfl rfl hin_X7 7 (Nat.le_of_ble_eq_true rfl) tw_353 rfl dX7_go_68 ?_
      refine V_iload X dX7_go_71 rfl ?_
      refine V_cVV X hf [vi a4] _ 1 (fun _ h => m_X1_increase is_79 h) ob_79 rfl tw_942 tw_89 tw_939 tw_940 tw_941 dX7_go_73 ⟨by decide +kernel, by decide +kernel, by decide +kernel⟩ ⟨rfl, rfl⟩ ⟨Nat.le_of_ble_eq_true rfl, Nat.le_of_ble_eq_true rfl⟩ rfl (Nat.le_of_ble_eq_true rfl) ⟨Nat.zero_le _, Nat.zero_le _⟩ (fun r3 w3 hf => ?_)
      refine V_gload_n X dX7_go_76 rfl rfl ?_
      refine V_getr X ob_76 rfl rfl hin_X7 0 (Nat.le_of_ble_eq_true rfl) tw_346 rfl dX7_go_77 ?_
      refine V_getrN X ob_57 rfl rfl hin_X4 0 (Nat.le_of_ble_eq_true rfl) nw_14 rfl dX7_go_80 ?_
      refine V_iload X dX7_go_83 rfl ?_
      refine V_cVI X hf [vi a4] _ 1 (fun _ h => m_X1_get is_58 h) ob_58 rfl tw_500 tw_89 tw_944 tw_498 tw_499 dX7_go_85 ⟨by decide +kernel, by decide +kernel, by decide +kernel⟩ ⟨rfl, rfl⟩ ⟨Nat.le_of_ble_eq_true rfl, Nat.le_of_ble_eq_true rfl⟩ rfl (Nat.le_of_ble_eq_true rfl) ⟨Nat.zero_le _, Nat.zero_le _⟩ (fun r4 w4 hf => ?_)
      refine ite_c hf (fun h0 hf => ?_) (fun h0 hf => ?_)
      · refine V_lookup X (off := 28) (tgt := 116) dX7_go_88 (by decide) (by exact off_pos h0) (by decide) ?_
        refine V_gload_n X dX7_go_116 rfl rfl ?_
        refine V_iload X dX7_go_117 rfl ?_
        refine V_cVI X hf [vi a4] _ 1 (fun _ h => m_X7_doAssignment h) ob_76 rfl tw_948 tw_94 tw_945 tw_947 tw_7 dX7_go_119 ⟨by decide +kernel, by decide +kernel, by decide +kernel⟩ ⟨rfl, rfl⟩ ⟨Nat.le_of_ble_eq_true rfl, Nat.le_of_ble_eq_true rfl⟩ rfl (Nat.le_of_ble_eq_true rfl) ⟨Nat.zero_le _, Nat.zero_le _⟩ (fun r5 w5 hf => ?_)
        refine V_istore X dX7_go_122 (by decide) ?_
        refine V_goto X (tgt := 146) dX7_go_124 (by decide) ?_
        exact V_cut [0, 2, 4, 5, 6] rfl (v_X7_go_146 X hE (fun x0 x1 x2 x hf => ih x0 x1 x2 x hf) hf)
      refine ite_c hf (fun h1 hf => ?_) (fun h1 hf => ?_)
      · refine V_lookup X (off := 39) (tgt := 127) dX7_go_88 (by decide) (by exact off_neg h0 (off_pos h1)) (by decide) ?_
        refine V_gload_n X dX7_go_127 rfl rfl ?_
        refine V_iload X dX7_go_128 rfl ?_
        refine V_cVI X hf [vi a4] _ 1 (fun _ h => m_X7_doScan h) ob_76 rfl tw_1019 tw_94 tw_1016 tw_1018 tw_14 dX7_go_130 ⟨by decide +kernel, by decide +kernel, by decide +kernel⟩ ⟨rfl, rfl⟩ ⟨Nat.le_of_ble_eq_true rfl, Nat.le_of_ble_eq_true rfl⟩ rfl (Nat.le_of_ble_eq_true rfl) ⟨Nat.zero_le _, Nat.zero_le _⟩ (fun r7 w7 hf => ?_)
        refine V_istore X dX7_go_133 (by decide) ?_
        refine V_goto X (tgt := 146) dX7_go_135 (by decide) ?_
        exact V_cut [0, 2, 4, 5, 6] rfl (v_X7_go_146 X hE (fun x0 x1 x2 x hf => ih x0 x1 x2 x hf) hf)
      refine V_lookup X (off := 50) (tgt := 138) dX7_go_88 (by decide) (by exact off_neg h0 (off_neg h1 (rfl))) (by decide) ?_
      refine V_gload_n X dX7_go_138 rfl rfl ?_
      refine V_iload X dX7_go_139 rfl ?_
      refine V_cVI X hf [vi a4] _ 1 (fun _ h => m_X7_doCall h) ob_76 rfl tw_1122 tw_94 tw_1119 tw_1121 tw_28 dX7_go_141 ⟨by decide +kernel, by decide +kernel, by decide +kernel⟩ ⟨rfl, rfl⟩ ⟨Nat.le_of_ble_eq_true rfl, Nat.le_of_ble_eq_true rfl⟩ rfl (Nat.le_of_ble_eq_true rfl) ⟨Nat.zero_le _, Nat.zero_le _⟩ (fun r8 w8 hf => ?_)
      refine V_istore X dX7_go_144 (by decide) ?_
      exact V_cut [0, 2, 4, 5, 6] rfl (v_X7_go_146 X hE (fun x0 x1 x2 x hf => ih x0 x1 x2 x hf) hf)
    · refine V_bipush X dX7_go_181 (by decide) ?_
      exact V_cret X hE dX7_go_183 (by decide) hf
set_option maxRecDepth 20000 in
theorem m_X7_go {G : GG} {a1 : Int} {a2 : Int} {a3 : Int} {w : WS} {q : (Int × WS)}  (hf : f_X7_go a1 a2 a3 w = some q) : MI G yX7_go cX7_go 7 (some .char) rmX7_go [gr G 76, vi a1, vi a2, vi a3] w q := by
  refine MI_of (by decide +kernel) (Nat.le_of_ble_eq_true rfl) (fun E X hE => ?_)
  have X : Cx G E cX7_go RX7 (some .char) rmX7_go 7 := X
  unfold f_X7_go at hf
  refine V_gload_n X dX7_go_0 rfl rfl ?_
  refine V_iconst X dX7_go_1 ?_
  refine V_putz X ob_76 rfl rfl hin_X7 10 (Nat.le_of_ble_eq_true rfl) tw_358 tyX7 tyX7_ok nmX7 rfl (by decide +kernel) (Or.inr rfl) rfl dX7_go_2 ?_
  refine V_gload_n X dX7_go_5 rfl rfl ?_
  refine V_iload_n X dX7_go_6 rfl rfl ?_
  obtain ⟨hz, hf⟩ := ite_n hf
  refine V_putz X ob_76 rfl rfl hin_X7 9 (Nat.le_of_ble_eq_true rfl) tw_357 tyX7 tyX7_ok nmX7 rfl (by decide +kernel) hz rfl dX7_go_7 ?_
  refine V_gload_n X dX7_go_10 rfl rfl ?_
  refine V_iconst X dX7_go_11 ?_
  refine V_puti X ob_76 rfl rfl hin_X7 11 (Nat.le_of_ble_eq_true rfl) tw_360 tyX7 tyX7_ok nmX7 rfl (by decide +kernel) rfl dX7_go_12 ?_
  refine V_gload_n X dX7_go_15 rfl rfl ?_
  refine V_iconst X dX7_go_16 ?_
  refine V_puti X ob_76 rfl rfl hin_X7 13 (Nat.le_of_ble_eq_true rfl) tw_364 tyX7 tyX7_ok nmX7 rfl (by decide +kernel) rfl dX7_go_17 ?_
  refine V_gload_n X dX7_go_20 rfl rfl ?_
  refine V_iconst X dX7_go_21 ?_
  refine V_puti X ob_76 rfl rfl hin_X7 14 (Nat.le_of_ble_eq_true rfl) tw_366 tyX7 tyX7_ok nmX7 rfl (by decide +kernel) rfl dX7_go_22 ?_
  refine V_gload_n X dX7_go_25 rfl rfl ?_
  refine V_getr X ob_76 rfl rfl hin_X7 7 (Nat.le_of_ble_eq_true rfl) tw_353 rfl dX7_go_26 ?_
  refine V_cVV X hf [] _ 0 (fun _ h => m_X1_clearAll is_79 h) ob_79 rfl tw_938 tw_89 tw_935 tw_936 tw_937 dX7_go_29 ⟨by decide +kernel, by decide +kernel, by decide +kernel⟩ ⟨rfl, rfl⟩ ⟨Nat.le_of_ble_eq_true rfl, Nat.le_of_ble_eq_true rfl⟩ rfl (Nat.le_of_ble_eq_true rfl) ⟨Nat.zero_le _, Nat.zero_le _⟩ (fun r1 w1 hf => ?_)
  refine V_gload_n X dX7_go_32 rfl rfl ?_
  refine V_getr X ob_76 rfl rfl hin_X7 8 (Nat.le_of_ble_eq_true rfl) tw_355 rfl dX7_go_33 ?_
  refine V_cVV X hf [] _ 0 (fun _ h => m_X1_clearAll is_81 h) ob_81 rfl tw_938 tw_89 tw_935 tw_936 tw_937 dX7_go_36 ⟨by decide +kernel, by decide +kernel, by decide +kernel⟩ ⟨rfl, rfl⟩ ⟨Nat.le_of_ble_eq_true rfl, Nat.le_of_ble_eq_true rfl⟩ rfl (Nat.le_of_ble_eq_true rfl) ⟨Nat.zero_le _, Nat.zero_le _⟩ (fun r2 w2 hf => ?_)
  refine V_iload_n X dX7_go_39 rfl rfl ?_
  refine V_istore X dX7_go_40 (by decide) ?_
  refine V_iconst X dX7_go_42 ?_
  refine V_istore X dX7_go_43 (by decide) ?_
  exact V_cut [0, 2, 4, 5] rfl (v_X7_go_45 X hE FU _ _ _ _ hf)
