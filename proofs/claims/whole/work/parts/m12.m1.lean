abbrev rmX9_thrown : Room := { frames := 0, cells := 0, slots := 0, locals := 0 }
set_option maxRecDepth 20000 in
theorem m_X9_thrown {G : GG}  {w : WS} {q : (Int × WS)}  (hf : f_X9_thrown  w = some q) : MI G yX9_thrown cX9_thrown 1 (some .int) rmX9_thrown [gr G 85] w q := by
  refine MI_of (by decide +kernel) (Nat.le_of_ble_eq_true rfl) (fun E X hE => ?_)
  have X : Cx G E cX9_thrown RX9 (some .int) rmX9_thrown 1 := X
  unfold f_X9_thrown at hf
  refine V_gload_n X dX9_thrown_0 rfl rfl ?_
  refine V_geti X ob_85 rfl rfl hin_X9 0 (Nat.le_of_ble_eq_true rfl) tw_1316 rfl dX9_thrown_1 ?_
  exact V_iret X hE dX9_thrown_4 hf
abbrev rmX9_in : Room := { frames := 0, cells := 0, slots := 0, locals := 0 }
set_option maxRecDepth 20000 in
theorem m_X9_in {G : GG} {a0 : Int} {a2 : Int} {a4 : Int} {w : WS} {q : (Int × WS)}  (hf : f_X9_in a0 a2 a4 w = some q) : MI G yX9_in cX9_in 6 (some .boolean) rmX9_in [vl a0, vl a2, vl a4] w q := by
  refine MI_of (by decide +kernel) (Nat.le_of_ble_eq_true rfl) (fun E X hE => ?_)
  have X : Cx G E cX9_in RX9 (some .boolean) rmX9_in 6 := X
  unfold f_X9_in at hf
  refine V_lload_n X dX9_in_0 rfl rfl ?_
  refine V_lload_n X dX9_in_1 rfl rfl ?_
  refine V_lcmp_lt X (tgt := 17) (pc2 := 3) dX9_in_2 rfl dX9_in_3 (by decide) hf (fun hf => ?_) (fun hf => ?_)
  · refine V_iconst X dX9_in_17 ?_
    exact V_zret X hE dX9_in_18 (Or.inl rfl) hf
  · refine V_lload_n X dX9_in_6 rfl rfl ?_
    refine V_lload X dX9_in_7 rfl ?_
    refine V_lcmp_gt X (tgt := 17) (pc2 := 10) dX9_in_9 rfl dX9_in_10 (by decide) hf (fun hf => ?_) (fun hf => ?_)
    · refine V_iconst X dX9_in_17 ?_
      exact V_zret X hE dX9_in_18 (Or.inl rfl) hf
    · refine V_iconst X dX9_in_13 ?_
      refine V_goto X (tgt := 18) dX9_in_14 (by decide) ?_
      exact V_zret X hE dX9_in_18 (Or.inr rfl) hf
abbrev rmX9_fails : Room := { frames := 0, cells := 0, slots := 0, locals := 0 }
set_option maxRecDepth 20000 in
theorem v_X9_fails_16 {G : GG} {E : EE} (X : Cx G E cX9_fails RX9 (some .boolean) rmX9_fails 3) {q : (Int × WS)} (hE : EndI G E q)   {w : WS} (hf : f_X9_fails_16    w = some q) : VV G E 0 0 16 [(0, gr G 85)] [] w := by
  unfold f_X9_fails_16 at hf
  refine V_gload_n X dX9_fails_16 rfl rfl ?_
  refine V_geti X ob_85 rfl rfl hin_X9 0 (Nat.le_of_ble_eq_true rfl) tw_1316 rfl dX9_fails_17 ?_
  refine V_if_le X (tgt := 27) dX9_fails_20 (by decide) hf (fun hf => ?_) (fun hf => ?_)
  · refine V_iconst X dX9_fails_23 ?_
    refine V_goto X (tgt := 28) dX9_fails_24 (by decide) ?_
    exact V_zret X hE dX9_fails_28 (Or.inr rfl) hf
  · refine V_iconst X dX9_fails_27 ?_
    exact V_zret X hE dX9_fails_28 (Or.inl rfl) hf
set_option maxRecDepth 20000 in
theorem m_X9_fails {G : GG} {a1 : Int} {a2 : Int} {w : WS} {q : (Int × WS)}  (hf : f_X9_fails a1 a2 w = some q) : MI G yX9_fails cX9_fails 3 (some .boolean) rmX9_fails [gr G 85, vi a1, vi a2] w q := by
  refine MI_of (by decide +kernel) (Nat.le_of_ble_eq_true rfl) (fun E X hE => ?_)
  have X : Cx G E cX9_fails RX9 (some .boolean) rmX9_fails 3 := X
  unfold f_X9_fails at hf
  refine V_gload_n X dX9_fails_0 rfl rfl ?_
  refine V_geti X ob_85 rfl rfl hin_X9 0 (Nat.le_of_ble_eq_true rfl) tw_1316 rfl dX9_fails_1 ?_
  refine V_if_ne X (tgt := 16) dX9_fails_4 (by decide) hf (fun hf => ?_) (fun hf => ?_)
  · refine V_iload_n X dX9_fails_7 rfl rfl ?_
    refine V_if_eq X (tgt := 16) dX9_fails_8 (by decide) hf (fun hf => ?_) (fun hf => ?_)
    · exact V_cut [0] rfl (v_X9_fails_16 X hE hf)
    · refine V_gload_n X dX9_fails_11 rfl rfl ?_
      refine V_iload_n X dX9_fails_12 rfl rfl ?_
      refine V_puti X ob_85 rfl rfl hin_X9 0 (Nat.le_of_ble_eq_true rfl) tw_1316 tyX9 tyX9_ok nmX9 rfl (by decide +kernel) rfl dX9_fails_13 ?_
      exact V_cut [0] rfl (v_X9_fails_16 X hE hf)
  · exact V_cut [0] rfl (v_X9_fails_16 X hE hf)
abbrev rmX9_type : Room := { frames := 1, cells := 0, slots := 0, locals := 25 }
set_option maxRecDepth 20000 in
theorem v_X9_type_61 {G : GG} {E : EE} (X : Cx G E cX9_type RX9 (some .int) rmX9_type 2) {q : (Int × WS)} (hE : EndI G E q)   {a1 s0 : Int} {w : WS} (hf : f_X9_type_61   a1 s0 w = some q) : VV G E 0 0 61 [(0, gr G 85), (1, vi a1)] [vi s0, gr G 85] w := by
  unfold f_X9_type_61 at hf
  refine V_iconst X dX9_type_61 ?_
  refine V_cVI X hf [vi s0, vi 2] _ 2 (fun _ h => m_X9_fails h) ob_85 rfl tw_1580 tw_95 tw_1577 tw_1579 tw_38 dX9_type_62 ⟨by decide +kernel, by decide +kernel, by decide +kernel⟩ ⟨rfl, rfl⟩ ⟨Nat.le_of_ble_eq_true rfl, Nat.le_of_ble_eq_true rfl⟩ rfl (Nat.le_of_ble_eq_true rfl) ⟨Nat.zero_le _, Nat.zero_le _⟩ (fun r4 w4 hf => ?_)
  refine V_if_eq X (tgt := 70) dX9_type_65 (by decide) hf (fun hf => ?_) (fun hf => ?_)
  · refine V_gload_n X dX9_type_70 rfl rfl ?_
    refine V_getr X ob_85 rfl rfl hin_X9 1 (Nat.le_of_ble_eq_true rfl) tw_1317 rfl dX9_type_71 ?_
    refine V_gload_n X dX9_type_74 rfl rfl ?_
    refine V_geti X ob_85 rfl rfl hin_X9 2 (Nat.le_of_ble_eq_true rfl) tw_1318 rfl dX9_type_75 ?_
    refine V_iload_n X dX9_type_78 rfl rfl ?_
    refine V_iast X ar_86 dX9_type_79 hf (fun hf => ?_)
    refine V_gload_n X dX9_type_80 rfl rfl ?_
    refine V_dup X dX9_type_81 rfl ?_
    refine V_geti X ob_85 rfl rfl hin_X9 2 (Nat.le_of_ble_eq_true rfl) tw_1318 rfl dX9_type_82 ?_
    refine V_iconst X dX9_type_85 ?_
    refine V_iadd X dX9_type_86 ?_
    refine V_puti X ob_85 rfl rfl hin_X9 2 (Nat.le_of_ble_eq_true rfl) tw_1318 tyX9 tyX9_ok nmX9 rfl (by decide +kernel) rfl dX9_type_87 ?_
    refine V_gload_n X dX9_type_90 rfl rfl ?_
    refine V_geti X ob_85 rfl rfl hin_X9 2 (Nat.le_of_ble_eq_true rfl) tw_1318 rfl dX9_type_91 ?_
    exact V_iret X hE dX9_type_94 hf
  · refine V_iconst X dX9_type_68 ?_
    exact V_iret X hE dX9_type_69 hf
set_option maxRecDepth 20000 in
theorem v_X9_type_39 {G : GG} {E : EE} (X : Cx G E cX9_type RX9 (some .int) rmX9_type 2) {q : (Int × WS)} (hE : EndI G E q)   {a1 s0 : Int} {w : WS} (hf : f_X9_type_39   a1 s0 w = some q) : VV G E 0 0 39 [(0, gr G 85), (1, vi a1)] [vi s0, gr G 85] w := by
  unfold f_X9_type_39 at hf
  refine V_iconst X dX9_type_39 ?_
  refine V_cVI X hf [vi s0, vi 1] _ 2 (fun _ h => m_X9_fails h) ob_85 rfl tw_1580 tw_95 tw_1577 tw_1579 tw_38 dX9_type_40 ⟨by decide +kernel, by decide +kernel, by decide +kernel⟩ ⟨rfl, rfl⟩ ⟨Nat.le_of_ble_eq_true rfl, Nat.le_of_ble_eq_true rfl⟩ rfl (Nat.le_of_ble_eq_true rfl) ⟨Nat.zero_le _, Nat.zero_le _⟩ (fun r3 w3 hf => ?_)
  refine V_if_ne X (tgt := 68) dX9_type_43 (by decide) hf (fun hf => ?_) (fun hf => ?_)
  · refine V_gload_n X dX9_type_46 rfl rfl ?_
    refine V_gload_n X dX9_type_47 rfl rfl ?_
    refine V_geti X ob_85 rfl rfl hin_X9 2 (Nat.le_of_ble_eq_true rfl) tw_1318 rfl dX9_type_48 ?_
    refine V_bipush X dX9_type_51 (by decide) ?_
    refine V_icmp_ne X (tgt := 60) dX9_type_53 (by decide) hf (fun hf => ?_) (fun hf => ?_)
    · refine V_iconst X dX9_type_56 ?_
      refine V_goto X (tgt := 61) dX9_type_57 (by decide) ?_
      exact V_cut [0, 1] rfl (v_X9_type_61 X hE hf)
    · refine V_iconst X dX9_type_60 ?_
      exact V_cut [0, 1] rfl (v_X9_type_61 X hE hf)
  · refine V_iconst X dX9_type_68 ?_
    exact V_iret X hE dX9_type_69 hf
set_option maxRecDepth 20000 in
theorem v_X9_type_38 {G : GG} {E : EE} (X : Cx G E cX9_type RX9 (some .int) rmX9_type 2) {q : (Int × WS)} (hE : EndI G E q)   {a1 : Int} {w : WS} (hf : f_X9_type_38   a1 w = some q) : VV G E 0 0 38 [(0, gr G 85), (1, vi a1)] [gr G 85] w := by
  unfold f_X9_type_38 at hf
  refine V_iconst X dX9_type_38 ?_
  exact V_cut [0, 1] rfl (v_X9_type_39 X hE hf)
set_option maxRecDepth 20000 in
theorem m_X9_type {G : GG} {a1 : Int} {w : WS} {q : (Int × WS)}  (hf : f_X9_type a1 w = some q) : MI G yX9_type cX9_type 2 (some .int) rmX9_type [gr G 85, vi a1] w q := by
  refine MI_of (by decide +kernel) (Nat.le_of_ble_eq_true rfl) (fun E X hE => ?_)
  have X : Cx G E cX9_type RX9 (some .int) rmX9_type 2 := X
  unfold f_X9_type at hf
  refine V_gload_n X dX9_type_0 rfl rfl ?_
  refine V_iconst X dX9_type_1 ?_
  refine V_puti X ob_85 rfl rfl hin_X9 0 (Nat.le_of_ble_eq_true rfl) tw_1316 tyX9 tyX9_ok nmX9 rfl (by decide +kernel) rfl dX9_type_2 ?_
  refine V_gload_n X dX9_type_5 rfl rfl ?_
  refine V_iload_n X dX9_type_6 rfl rfl ?_
  refine V_i2l X dX9_type_7 ?_
  refine V_ldc2 (a := 32) X tw_1570 dX9_type_8 (by decide) ?_
  refine V_ldc2 (a := 126) X tw_1571 dX9_type_11 (by decide) ?_
  refine V_cSI X hf [vl (wr a1), vl 32, vl 126] _ 3 (fun _ h => m_X9_in h) tw_1574 tw_95 tw_1572 tw_1573 dX9_type_14 ⟨by decide +kernel, by decide +kernel, by decide +kernel⟩ ⟨rfl, rfl⟩ ⟨Nat.le_of_ble_eq_true rfl, Nat.le_of_ble_eq_true rfl⟩ rfl (Nat.le_of_ble_eq_true rfl) ⟨Nat.zero_le _, Nat.zero_le _⟩ (fun r1 w1 hf => ?_)
  refine V_if_ne X (tgt := 38) dX9_type_17 (by decide) hf (fun hf => ?_) (fun hf => ?_)
  · refine V_iload_n X dX9_type_20 rfl rfl ?_
    refine V_i2l X dX9_type_21 ?_
    refine V_ldc2 (a := 128512) X tw_1575 dX9_type_22 (by decide) ?_
    refine V_ldc2 (a := 128591) X tw_1576 dX9_type_25 (by decide) ?_
    refine V_cSI X hf [vl (wr a1), vl 128512, vl 128591] _ 3 (fun _ h => m_X9_in h) tw_1574 tw_95 tw_1572 tw_1573 dX9_type_28 ⟨by decide +kernel, by decide +kernel, by decide +kernel⟩ ⟨rfl, rfl⟩ ⟨Nat.le_of_ble_eq_true rfl, Nat.le_of_ble_eq_true rfl⟩ rfl (Nat.le_of_ble_eq_true rfl) ⟨Nat.zero_le _, Nat.zero_le _⟩ (fun r2 w2 hf => ?_)
    refine V_if_ne X (tgt := 38) dX9_type_31 (by decide) hf (fun hf => ?_) (fun hf => ?_)
    · refine V_iconst X dX9_type_34 ?_
      refine V_goto X (tgt := 39) dX9_type_35 (by decide) ?_
      exact V_cut [0, 1] rfl (v_X9_type_39 X hE hf)
    · exact V_cut [0, 1] rfl (v_X9_type_38 X hE hf)
  · exact V_cut [0, 1] rfl (v_X9_type_38 X hE hf)
abbrev rmX9_wipe : Room := { frames := 0, cells := 0, slots := 0, locals := 0 }
set_option maxRecDepth 20000 in
theorem m_X9_wipe {G : GG}  {w : WS} {q : (Int × WS)}  (hf : f_X9_wipe  w = some q) : MI G yX9_wipe cX9_wipe 2 (some .int) rmX9_wipe [gr G 85] w q := by
  refine MI_of (by decide +kernel) (Nat.le_of_ble_eq_true rfl) (fun E X hE => ?_)
  have X : Cx G E cX9_wipe RX9 (some .int) rmX9_wipe 2 := X
  unfold f_X9_wipe at hf
  refine V_gload_n X dX9_wipe_0 rfl rfl ?_
  refine V_iconst X dX9_wipe_1 ?_
  refine V_puti X ob_85 rfl rfl hin_X9 0 (Nat.le_of_ble_eq_true rfl) tw_1316 tyX9 tyX9_ok nmX9 rfl (by decide +kernel) rfl dX9_wipe_2 ?_
  refine V_gload_n X dX9_wipe_5 rfl rfl ?_
  refine V_geti X ob_85 rfl rfl hin_X9 2 (Nat.le_of_ble_eq_true rfl) tw_1318 rfl dX9_wipe_6 ?_
  refine V_istore_n X dX9_wipe_9 rfl (by decide) ?_
  refine V_gload_n X dX9_wipe_10 rfl rfl ?_
  refine V_iconst X dX9_wipe_11 ?_
  refine V_puti X ob_85 rfl rfl hin_X9 2 (Nat.le_of_ble_eq_true rfl) tw_1318 tyX9 tyX9_ok nmX9 rfl (by decide +kernel) rfl dX9_wipe_12 ?_
  refine V_iload_n X dX9_wipe_15 rfl rfl ?_
  exact V_iret X hE dX9_wipe_16 hf
abbrev rmX9_text : Room := { frames := 1, cells := 0, slots := 0, locals := 22 }
set_option maxRecDepth 20000 in
theorem v_X9_text_53 {G : GG} {E : EE} (X : Cx G E cX9_text RX9 (some .int) rmX9_text 2) {q : (Int × WS)} (hE : EndI G E q)   : ∀ (n : Nat) (a1 : Int) (w : WS), f_X9_text_53   n a1 w = some q → VV G E 0 0 53 [(0, gr G 85), (1, vi a1)] [] w := by
  intro n
  induction n with
  | zero => intro a1 w hf; cases hf
  | succ n ih =>
    intro a1 w hf
    rw [f_X9_text_53_s] at hf
    refine V_iload_n X dX9_text_53 rfl rfl ?_
    refine V_gload_n X dX9_text_54 rfl rfl ?_
    refine V_geti X ob_85 rfl rfl hin_X9 2 (Nat.le_of_ble_eq_true rfl) tw_1318 rfl dX9_text_55 ?_
    refine V_icmp_ge X (tgt := 87) dX9_text_58 (by decide) hf (fun hf => ?_) (fun hf => ?_)
    · refine V_gload_n X dX9_text_61 rfl rfl ?_
      refine V_getr X ob_85 rfl rfl hin_X9 3 (Nat.le_of_ble_eq_true rfl) tw_1319 rfl dX9_text_62 ?_
      refine V_bipush X dX9_text_65 (by decide) ?_
      refine V_gload_n X dX9_text_67 rfl rfl ?_
      refine V_geti X ob_85 rfl rfl hin_X9 5 (Nat.le_of_ble_eq_true rfl) tw_1321 rfl dX9_text_68 ?_
      refine V_imul X dX9_text_71 ?_
      refine V_iload_n X dX9_text_72 rfl rfl ?_
      refine V_iadd X dX9_text_73 ?_
      refine V_gload_n X dX9_text_74 rfl rfl ?_
      refine V_getr X ob_85 rfl rfl hin_X9 1 (Nat.le_of_ble_eq_true rfl) tw_1317 rfl dX9_text_75 ?_
      refine V_iload_n X dX9_text_78 rfl rfl ?_
      refine V_iald X ar_86 dX9_text_79 hf (fun hf => ?_)
      refine V_iast X ar_87 dX9_text_80 hf (fun hf => ?_)
      refine V_iinc X dX9_text_81 rfl (by decide) ?_
      refine V_goto X (tgt := 53) dX9_text_84 (by decide) ?_
      exact V_cut [0, 1] rfl (ih _ _ hf)
    · refine V_gload_n X dX9_text_87 rfl rfl ?_
      refine V_getr X ob_85 rfl rfl hin_X9 4 (Nat.le_of_ble_eq_true rfl) tw_1320 rfl dX9_text_88 ?_
      refine V_gload_n X dX9_text_91 rfl rfl ?_
      refine V_geti X ob_85 rfl rfl hin_X9 5 (Nat.le_of_ble_eq_true rfl) tw_1321 rfl dX9_text_92 ?_
      refine V_gload_n X dX9_text_95 rfl rfl ?_
      refine V_geti X ob_85 rfl rfl hin_X9 2 (Nat.le_of_ble_eq_true rfl) tw_1318 rfl dX9_text_96 ?_
      refine V_iast X ar_88 dX9_text_99 hf (fun hf => ?_)
      refine V_gload_n X dX9_text_100 rfl rfl ?_
      refine V_iconst X dX9_text_101 ?_
      refine V_puti X ob_85 rfl rfl hin_X9 2 (Nat.le_of_ble_eq_true rfl) tw_1318 tyX9 tyX9_ok nmX9 rfl (by decide +kernel) rfl dX9_text_102 ?_
      refine V_gload_n X dX9_text_105 rfl rfl ?_
      refine V_dup X dX9_text_106 rfl ?_
      refine V_geti X ob_85 rfl rfl hin_X9 5 (Nat.le_of_ble_eq_true rfl) tw_1321 rfl dX9_text_107 ?_
      refine V_iconst X dX9_text_110 ?_
      refine V_iadd X dX9_text_111 ?_
      refine V_puti X ob_85 rfl rfl hin_X9 5 (Nat.le_of_ble_eq_true rfl) tw_1321 tyX9 tyX9_ok nmX9 rfl (by decide +kernel) rfl dX9_text_112 ?_
      refine V_gload_n X dX9_text_115 rfl rfl ?_
      refine V_geti X ob_85 rfl rfl hin_X9 5 (Nat.le_of_ble_eq_true rfl) tw_1321 rfl dX9_text_116 ?_
      refine V_iconst X dX9_text_119 ?_
      refine V_isub X dX9_text_120 ?_
      exact V_iret X hE dX9_text_121 hf
set_option maxRecDepth 20000 in
theorem v_X9_text_42 {G : GG} {E : EE} (X : Cx G E cX9_text RX9 (some .int) rmX9_text 2) {q : (Int × WS)} (hE : EndI G E q)   {s0 : Int} {w : WS} (hf : f_X9_text_42   s0 w = some q) : VV G E 0 0 42 [(0, gr G 85)] [vi s0, gr G 85] w := by
  unfold f_X9_text_42 at hf
  refine V_iconst X dX9_text_42 ?_
  refine V_cVI X hf [vi s0, vi 2] _ 2 (fun _ h => m_X9_fails h) ob_85 rfl tw_1580 tw_95 tw_1577 tw_1579 tw_38 dX9_text_43 ⟨by decide +kernel, by decide +kernel, by decide +kernel⟩ ⟨rfl, rfl⟩ ⟨Nat.le_of_ble_eq_true rfl, Nat.le_of_ble_eq_true rfl⟩ rfl (Nat.le_of_ble_eq_true rfl) ⟨Nat.zero_le _, Nat.zero_le _⟩ (fun r2 w2 hf => ?_)
  refine V_if_eq X (tgt := 51) dX9_text_46 (by decide) hf (fun hf => ?_) (fun hf => ?_)
  · refine V_iconst X dX9_text_51 ?_
    refine V_istore_n X dX9_text_52 rfl (by decide) ?_
    exact V_cut [0, 1] rfl (v_X9_text_53 X hE FU _ _ hf)
  · refine V_iconst X dX9_text_49 ?_
    exact V_iret X hE dX9_text_50 hf
set_option maxRecDepth 20000 in
theorem v_X9_text_20 {G : GG} {E : EE} (X : Cx G E cX9_text RX9 (some .int) rmX9_text 2) {q : (Int × WS)} (hE : EndI G E q)   {s0 : Int} {w : WS} (hf : f_X9_text_20   s0 w = some q) : VV G E 0 0 20 [(0, gr G 85)] [vi s0, gr G 85] w := by
  unfold f_X9_text_20 at hf
  refine V_iconst X dX9_text_20 ?_
  refine V_cVI X hf [vi s0, vi 1] _ 2 (fun _ h => m_X9_fails h) ob_85 rfl tw_1580 tw_95 tw_1577 tw_1579 tw_38 dX9_text_21 ⟨by decide +kernel, by decide +kernel, by decide +kernel⟩ ⟨rfl, rfl⟩ ⟨Nat.le_of_ble_eq_true rfl, Nat.le_of_ble_eq_true rfl⟩ rfl (Nat.le_of_ble_eq_true rfl) ⟨Nat.zero_le _, Nat.zero_le _⟩ (fun r1 w1 hf => ?_)
  refine V_if_ne X (tgt := 49) dX9_text_24 (by decide) hf (fun hf => ?_) (fun hf => ?_)
  · refine V_gload_n X dX9_text_27 rfl rfl ?_
    refine V_gload_n X dX9_text_28 rfl rfl ?_
    refine V_geti X ob_85 rfl rfl hin_X9 5 (Nat.le_of_ble_eq_true rfl) tw_1321 rfl dX9_text_29 ?_
    refine V_bipush X dX9_text_32 (by decide) ?_
    refine V_icmp_ne X (tgt := 41) dX9_text_34 (by decide) hf (fun hf => ?_) (fun hf => ?_)
    · refine V_iconst X dX9_text_37 ?_
      refine V_goto X (tgt := 42) dX9_text_38 (by decide) ?_
      exact V_cut [0] rfl (v_X9_text_42 X hE hf)
    · refine V_iconst X dX9_text_41 ?_
      exact V_cut [0] rfl (v_X9_text_42 X hE hf)
  · refine V_iconst X dX9_text_49 ?_
    exact V_iret X hE dX9_text_50 hf
set_option maxRecDepth 20000 in
theorem m_X9_text {G : GG}  {w : WS} {q : (Int × WS)}  (hf : f_X9_text  w = some q) : MI G yX9_text cX9_text 2 (some .int) rmX9_text [gr G 85] w q := by
  refine MI_of (by decide +kernel) (Nat.le_of_ble_eq_true rfl) (fun E X hE => ?_)
  have X : Cx G E cX9_text RX9 (some .int) rmX9_text 2 := X
  unfold f_X9_text at hf
  refine V_gload_n X dX9_text_0 rfl rfl ?_
  refine V_iconst X dX9_text_1 ?_
  refine V_puti X ob_85 rfl rfl hin_X9 0 (Nat.le_of_ble_eq_true rfl) tw_1316 tyX9 tyX9_ok nmX9 rfl (by decide +kernel) rfl dX9_text_2 ?_
  refine V_gload_n X dX9_text_5 rfl rfl ?_
  refine V_gload_n X dX9_text_6 rfl rfl ?_
  refine V_geti X ob_85 rfl rfl hin_X9 2 (Nat.le_of_ble_eq_true rfl) tw_1318 rfl dX9_text_7 ?_
  refine V_bipush X dX9_text_10 (by decide) ?_
  refine V_icmp_le X (tgt := 19) dX9_text_12 (by decide) hf (fun hf => ?_) (fun hf => ?_)
  · refine V_iconst X dX9_text_15 ?_
    refine V_goto X (tgt := 20) dX9_text_16 (by decide) ?_
    exact V_cut [0] rfl (v_X9_text_20 X hE hf)
  · refine V_iconst X dX9_text_19 ?_
    exact V_cut [0] rfl (v_X9_text_20 X hE hf)
abbrev rmX9_isVariable : Room := { frames := 1, cells := 0, slots := 0, locals := 25 }
set_option maxRecDepth 20000 in
theorem m_X9_isVariable {G : GG} {a0 : Int} {w : WS} {q : (Int × WS)}  (hf : f_X9_isVariable a0 w = some q) : MI G yX9_isVariable cX9_isVariable 1 (some .boolean) rmX9_isVariable [vi a0] w q := by
  refine MI_of (by decide +kernel) (Nat.le_of_ble_eq_true rfl) (fun E X hE => ?_)
  have X : Cx G E cX9_isVariable RX9 (some .boolean) rmX9_isVariable 1 := X
  unfold f_X9_isVariable at hf
  refine V_iload_n X dX9_isVariable_0 rfl rfl ?_
  refine V_i2l X dX9_isVariable_1 ?_
  refine V_lconst (a := 0) X dX9_isVariable_2 (by decide) ?_
  refine V_ldc2 (a := 25) X tw_1596 dX9_isVariable_3 (by decide) ?_
  refine V_cSI X hf [vl (wr a0), vl 0, vl 25] _ 3 (fun _ h => m_X9_in h) tw_1574 tw_95 tw_1572 tw_1573 dX9_isVariable_6 ⟨by decide +kernel, by decide +kernel, by decide +kernel⟩ ⟨rfl, rfl⟩ ⟨Nat.le_of_ble_eq_true rfl, Nat.le_of_ble_eq_true rfl⟩ rfl (Nat.le_of_ble_eq_true rfl) ⟨Nat.zero_le _, Nat.zero_le _⟩ (fun r1 w1 hf => ?_)
  obtain ⟨hz, hf⟩ := ite_n hf
  exact V_zret X hE dX9_isVariable_9 hz hf
abbrev rmX9_set : Room := { frames := 2, cells := 0, slots := 0, locals := 45 }
set_option maxRecDepth 20000 in
theorem v_X9_set_36 {G : GG} {E : EE} (X : Cx G E cX9_set RX9 (some .int) rmX9_set 4) {q : (Int × WS)} (hE : EndI G E q)   : ∀ (n : Nat) (a1 a2 a3 : Int) (w : WS), f_X9_set_36   n a1 a2 a3 w = some q → VV G E 0 0 36 [(0, gr G 85), (1, vi a1), (2, vi a2), (3, vi a3)] [] w := by
  intro n
  induction n with
  | zero => intro a1 a2 a3 w hf; cases hf
  | succ n ih =>
    intro a1 a2 a3 w hf
    rw [f_X9_set_36_s] at hf
    refine V_iload_n X dX9_set_36 rfl rfl ?_
    refine V_gload_n X dX9_set_37 rfl rfl ?_
    refine V_geti X ob_85 rfl rfl hin_X9 2 (Nat.le_of_ble_eq_true rfl) tw_1318 rfl dX9_set_38 ?_
    refine V_icmp_ge X (tgt := 67) dX9_set_41 (by decide) hf (fun hf => ?_) (fun hf => ?_)
    · refine V_gload_n X dX9_set_44 rfl rfl ?_
      refine V_getr X ob_85 rfl rfl hin_X9 6 (Nat.le_of_ble_eq_true rfl) tw_1322 rfl dX9_set_45 ?_
      refine V_bipush X dX9_set_48 (by decide) ?_
      refine V_iload_n X dX9_set_50 rfl rfl ?_
      refine V_imul X dX9_set_51 ?_
      refine V_iload_n X dX9_set_52 rfl rfl ?_
      refine V_iadd X dX9_set_53 ?_
      refine V_gload_n X dX9_set_54 rfl rfl ?_
      refine V_getr X ob_85 rfl rfl hin_X9 1 (Nat.le_of_ble_eq_true rfl) tw_1317 rfl dX9_set_55 ?_
      refine V_iload_n X dX9_set_58 rfl rfl ?_
      refine V_iald X ar_86 dX9_set_59 hf (fun hf => ?_)
      refine V_iast X ar_89 dX9_set_60 hf (fun hf => ?_)
      refine V_iinc X dX9_set_61 rfl (by decide) ?_
      refine V_goto X (tgt := 36) dX9_set_64 (by decide) ?_
      exact V_cut [0, 1, 2, 3] rfl (ih _ _ _ _ hf)
    · refine V_gload_n X dX9_set_67 rfl rfl ?_
      refine V_getr X ob_85 rfl rfl hin_X9 7 (Nat.le_of_ble_eq_true rfl) tw_1323 rfl dX9_set_68 ?_
      refine V_iload_n X dX9_set_71 rfl rfl ?_
      refine V_gload_n X dX9_set_72 rfl rfl ?_
      refine V_geti X ob_85 rfl rfl hin_X9 2 (Nat.le_of_ble_eq_true rfl) tw_1318 rfl dX9_set_73 ?_
      refine V_iast X ar_90 dX9_set_76 hf (fun hf => ?_)
      refine V_gload_n X dX9_set_77 rfl rfl ?_
      refine V_iconst X dX9_set_78 ?_
      refine V_puti X ob_85 rfl rfl hin_X9 2 (Nat.le_of_ble_eq_true rfl) tw_1318 tyX9 tyX9_ok nmX9 rfl (by decide +kernel) rfl dX9_set_79 ?_
      refine V_iload_n X dX9_set_82 rfl rfl ?_
      exact V_iret X hE dX9_set_83 hf
set_option maxRecDepth 20000 in
theorem v_X9_set_18 {G : GG} {E : EE} (X : Cx G E cX9_set RX9 (some .int) rmX9_set 4) {q : (Int × WS)} (hE : EndI G E q)   {a1 s0 : Int} {w : WS} (hf : f_X9_set_18   a1 s0 w = some q) : VV G E 0 0 18 [(0, gr G 85), (1, vi a1)] [vi s0, gr G 85] w := by
  unfold f_X9_set_18 at hf
  refine V_iconst X dX9_set_18 ?_
  refine V_cVI X hf [vi s0, vi 1] _ 2 (fun _ h => m_X9_fails h) ob_85 rfl tw_1580 tw_95 tw_1577 tw_1579 tw_38 dX9_set_19 ⟨by decide +kernel, by decide +kernel, by decide +kernel⟩ ⟨rfl, rfl⟩ ⟨Nat.le_of_ble_eq_true rfl, Nat.le_of_ble_eq_true rfl⟩ rfl (Nat.le_of_ble_eq_true rfl) ⟨Nat.zero_le _, Nat.zero_le _⟩ (fun r2 w2 hf => ?_)
  refine V_if_eq X (tgt := 27) dX9_set_22 (by decide) hf (fun hf => ?_) (fun hf => ?_)
  · refine V_gload_n X dX9_set_27 rfl rfl ?_
    refine V_getr X ob_85 rfl rfl hin_X9 7 (Nat.le_of_ble_eq_true rfl) tw_1323 rfl dX9_set_28 ?_
    refine V_iload_n X dX9_set_31 rfl rfl ?_
    refine V_iald X ar_90 dX9_set_32 hf (fun hf => ?_)
    refine V_istore_n X dX9_set_33 rfl (by decide) ?_
    refine V_iconst X dX9_set_34 ?_
    refine V_istore_n X dX9_set_35 rfl (by decide) ?_
    exact V_cut [0, 1, 2, 3] rfl (v_X9_set_36 X hE FU _ _ _ _ hf)
  · refine V_iconst X dX9_set_25 ?_
    exact V_iret X hE dX9_set_26 hf
set_option maxRecDepth 20000 in
theorem m_X9_set {G : GG} {a1 : Int} {w : WS} {q : (Int × WS)}  (hf : f_X9_set a1 w = some q) : MI G yX9_set cX9_set 4 (some .int) rmX9_set [gr G 85, vi a1] w q := by
  refine MI_of (by decide +kernel) (Nat.le_of_ble_eq_true rfl) (fun E X hE => ?_)
  have X : Cx G E cX9_set RX9 (some .int) rmX9_set 4 := X
  unfold f_X9_set at hf
  refine V_gload_n X dX9_set_0 rfl rfl ?_
  refine V_iconst X dX9_set_1 ?_
  refine V_puti X ob_85 rfl rfl hin_X9 0 (Nat.le_of_ble_eq_true rfl) tw_1316 tyX9 tyX9_ok nmX9 rfl (by decide +kernel) rfl dX9_set_2 ?_
  refine V_gload_n X dX9_set_5 rfl rfl ?_
  refine V_iload_n X dX9_set_6 rfl rfl ?_
  refine V_cSI X hf [vi a1] _ 1 (fun _ h => m_X9_isVariable h) tw_1595 tw_95 tw_1593 tw_1594 dX9_set_7 ⟨by decide +kernel, by decide +kernel, by decide +kernel⟩ ⟨rfl, rfl⟩ ⟨Nat.le_of_ble_eq_true rfl, Nat.le_of_ble_eq_true rfl⟩ rfl (Nat.le_of_ble_eq_true rfl) ⟨Nat.zero_le _, Nat.zero_le _⟩ (fun r1 w1 hf => ?_)
  refine V_if_ne X (tgt := 17) dX9_set_10 (by decide) hf (fun hf => ?_) (fun hf => ?_)
  · refine V_iconst X dX9_set_13 ?_
    refine V_goto X (tgt := 18) dX9_set_14 (by decide) ?_
    exact V_cut [0, 1] rfl (v_X9_set_18 X hE hf)
  · refine V_iconst X dX9_set_17 ?_
    exact V_cut [0, 1] rfl (v_X9_set_18 X hE hf)
abbrev rmX9_size : Room := { frames := 2, cells := 0, slots := 0, locals := 45 }
set_option maxRecDepth 20000 in
theorem v_X9_size_18 {G : GG} {E : EE} (X : Cx G E cX9_size RX9 (some .int) rmX9_size 2) {q : (Int × WS)} (hE : EndI G E q)   {a1 s0 : Int} {w : WS} (hf : f_X9_size_18   a1 s0 w = some q) : VV G E 0 0 18 [(0, gr G 85), (1, vi a1)] [vi s0, gr G 85] w := by
  unfold f_X9_size_18 at hf
  refine V_iconst X dX9_size_18 ?_
  refine V_cVI X hf [vi s0, vi 1] _ 2 (fun _ h => m_X9_fails h) ob_85 rfl tw_1580 tw_95 tw_1577 tw_1579 tw_38 dX9_size_19 ⟨by decide +kernel, by decide +kernel, by decide +kernel⟩ ⟨rfl, rfl⟩ ⟨Nat.le_of_ble_eq_true rfl, Nat.le_of_ble_eq_true rfl⟩ rfl (Nat.le_of_ble_eq_true rfl) ⟨Nat.zero_le _, Nat.zero_le _⟩ (fun r2 w2 hf => ?_)
  refine V_if_eq X (tgt := 29) dX9_size_22 (by decide) hf (fun hf => ?_) (fun hf => ?_)
  · refine V_gload_n X dX9_size_29 rfl rfl ?_
    refine V_getr X ob_85 rfl rfl hin_X9 7 (Nat.le_of_ble_eq_true rfl) tw_1323 rfl dX9_size_30 ?_
    refine V_iload_n X dX9_size_33 rfl rfl ?_
    refine V_iald X ar_90 dX9_size_34 hf (fun hf => ?_)
    exact V_iret X hE dX9_size_35 hf
  · refine V_iconst X dX9_size_25 ?_
    refine V_goto X (tgt := 35) dX9_size_26 (by decide) ?_
    exact V_iret X hE dX9_size_35 hf
set_option maxRecDepth 20000 in
theorem m_X9_size {G : GG} {a1 : Int} {w : WS} {q : (Int × WS)}  (hf : f_X9_size a1 w = some q) : MI G yX9_size cX9_size 2 (some .int) rmX9_size [gr G 85, vi a1] w q := by
  refine MI_of (by decide +kernel) (Nat.le_of_ble_eq_true rfl) (fun E X hE => ?_)
  have X : Cx G E cX9_size RX9 (some .int) rmX9_size 2 := X
  unfold f_X9_size at hf
  refine V_gload_n X dX9_size_0 rfl rfl ?_
  refine V_iconst X dX9_size_1 ?_
  refine V_puti X ob_85 rfl rfl hin_X9 0 (Nat.le_of_ble_eq_true rfl) tw_1316 tyX9 tyX9_ok nmX9 rfl (by decide +kernel) rfl dX9_size_2 ?_
  refine V_gload_n X dX9_size_5 rfl rfl ?_
  refine V_iload_n X dX9_size_6 rfl rfl ?_
  refine V_cSI X hf [vi a1] _ 1 (fun _ h => m_X9_isVariable h) tw_1595 tw_95 tw_1593 tw_1594 dX9_size_7 ⟨by decide +kernel, by decide +kernel, by decide +kernel⟩ ⟨rfl, rfl⟩ ⟨Nat.le_of_ble_eq_true rfl, Nat.le_of_ble_eq_true rfl⟩ rfl (Nat.le_of_ble_eq_true rfl) ⟨Nat.zero_le _, Nat.zero_le _⟩ (fun r1 w1 hf => ?_)
  refine V_if_ne X (tgt := 17) dX9_size_10 (by decide) hf (fun hf => ?_) (fun hf => ?_)
  · refine V_iconst X dX9_size_13 ?_
    refine V_goto X (tgt := 18) dX9_size_14 (by decide) ?_
    exact V_cut [0, 1] rfl (v_X9_size_18 X hE hf)
  · refine V_iconst X dX9_size_17 ?_
    exact V_cut [0, 1] rfl (v_X9_size_18 X hE hf)
abbrev rmX9_at : Room := { frames := 2, cells := 0, slots := 0, locals := 45 }
set_option maxRecDepth 20000 in
theorem v_X9_at_49 {G : GG} {E : EE} (X : Cx G E cX9_at RX9 (some .int) rmX9_at 3) {q : (Int × WS)} (hE : EndI G E q)   {a1 a2 s0 : Int} {w : WS} (hf : f_X9_at_49   a1 a2 s0 w = some q) : VV G E 0 0 49 [(0, gr G 85), (1, vi a1), (2, vi a2)] [vi s0, gr G 85] w := by
  unfold f_X9_at_49 at hf
  refine V_iconst X dX9_at_49 ?_
  refine V_cVI X hf [vi s0, vi 2] _ 2 (fun _ h => m_X9_fails h) ob_85 rfl tw_1580 tw_95 tw_1577 tw_1579 tw_38 dX9_at_50 ⟨by decide +kernel, by decide +kernel, by decide +kernel⟩ ⟨rfl, rfl⟩ ⟨Nat.le_of_ble_eq_true rfl, Nat.le_of_ble_eq_true rfl⟩ rfl (Nat.le_of_ble_eq_true rfl) ⟨Nat.zero_le _, Nat.zero_le _⟩ (fun r4 w4 hf => ?_)
  refine V_if_eq X (tgt := 58) dX9_at_53 (by decide) hf (fun hf => ?_) (fun hf => ?_)
  · refine V_gload_n X dX9_at_58 rfl rfl ?_
    refine V_getr X ob_85 rfl rfl hin_X9 6 (Nat.le_of_ble_eq_true rfl) tw_1322 rfl dX9_at_59 ?_
    refine V_bipush X dX9_at_62 (by decide) ?_
    refine V_iload_n X dX9_at_64 rfl rfl ?_
    refine V_imul X dX9_at_65 ?_
    refine V_iload_n X dX9_at_66 rfl rfl ?_
    refine V_iadd X dX9_at_67 ?_
    refine V_iald X ar_89 dX9_at_68 hf (fun hf => ?_)
    exact V_iret X hE dX9_at_69 hf
  · refine V_iconst X dX9_at_56 ?_
    exact V_iret X hE dX9_at_57 hf
set_option maxRecDepth 20000 in
theorem v_X9_at_18 {G : GG} {E : EE} (X : Cx G E cX9_at RX9 (some .int) rmX9_at 3) {q : (Int × WS)} (hE : EndI G E q)   {a1 a2 s0 : Int} {w : WS} (hf : f_X9_at_18   a1 a2 s0 w = some q) : VV G E 0 0 18 [(0, gr G 85), (1, vi a1), (2, vi a2)] [vi s0, gr G 85] w := by
  unfold f_X9_at_18 at hf
  refine V_iconst X dX9_at_18 ?_
  refine V_cVI X hf [vi s0, vi 1] _ 2 (fun _ h => m_X9_fails h) ob_85 rfl tw_1580 tw_95 tw_1577 tw_1579 tw_38 dX9_at_19 ⟨by decide +kernel, by decide +kernel, by decide +kernel⟩ ⟨rfl, rfl⟩ ⟨Nat.le_of_ble_eq_true rfl, Nat.le_of_ble_eq_true rfl⟩ rfl (Nat.le_of_ble_eq_true rfl) ⟨Nat.zero_le _, Nat.zero_le _⟩ (fun r2 w2 hf => ?_)
  refine V_if_ne X (tgt := 56) dX9_at_22 (by decide) hf (fun hf => ?_) (fun hf => ?_)
  · refine V_gload_n X dX9_at_25 rfl rfl ?_
    refine V_iload_n X dX9_at_26 rfl rfl ?_
    refine V_i2l X dX9_at_27 ?_
    refine V_lconst (a := 0) X dX9_at_28 (by decide) ?_
    refine V_gload_n X dX9_at_29 rfl rfl ?_
    refine V_getr X ob_85 rfl rfl hin_X9 7 (Nat.le_of_ble_eq_true rfl) tw_1323 rfl dX9_at_30 ?_
    refine V_iload_n X dX9_at_33 rfl rfl ?_
    refine V_iald X ar_90 dX9_at_34 hf (fun hf => ?_)
    refine V_iconst X dX9_at_35 ?_
    refine V_isub X dX9_at_36 ?_
    refine V_i2l X dX9_at_37 ?_
    refine V_cSI X hf [vl (wr a2), vl 0, vl (wr ((w2 90 (wr a1).toNat) - 1))] _ 3 (fun _ h => m_X9_in h) tw_1574 tw_95 tw_1572 tw_1573 dX9_at_38 ⟨by decide +kernel, by decide +kernel, by decide +kernel⟩ ⟨rfl, rfl⟩ ⟨Nat.le_of_ble_eq_true rfl, Nat.le_of_ble_eq_true rfl⟩ rfl (Nat.le_of_ble_eq_true rfl) ⟨Nat.zero_le _, Nat.zero_le _⟩ (fun r3 w3 hf => ?_)
    refine V_if_ne X (tgt := 48) dX9_at_41 (by decide) hf (fun hf => ?_) (fun hf => ?_)
    · refine V_iconst X dX9_at_44 ?_
      refine V_goto X (tgt := 49) dX9_at_45 (by decide) ?_
      exact V_cut [0, 1, 2] rfl (v_X9_at_49 X hE hf)
    · refine V_iconst X dX9_at_48 ?_
      exact V_cut [0, 1, 2] rfl (v_X9_at_49 X hE hf)
  · refine V_iconst X dX9_at_56 ?_
    exact V_iret X hE dX9_at_57 hf
set_option maxRecDepth 20000 in
theorem m_X9_at {G : GG} {a1 : Int} {a2 : Int} {w : WS} {q : (Int × WS)}  (hf : f_X9_at a1 a2 w = some q) : MI G yX9_at cX9_at 3 (some .int) rmX9_at [gr G 85, vi a1, vi a2] w q := by
  refine MI_of (by decide +kernel) (Nat.le_of_ble_eq_true rfl) (fun E X hE => ?_)
  have X : Cx G E cX9_at RX9 (some .int) rmX9_at 3 := X
  unfold f_X9_at at hf
  refine V_gload_n X dX9_at_0 rfl rfl ?_
  refine V_iconst X dX9_at_1 ?_
  refine V_puti X ob_85 rfl rfl hin_X9 0 (Nat.le_of_ble_eq_true rfl) tw_1316 tyX9 tyX9_ok nmX9 rfl (by decide +kernel) rfl dX9_at_2 ?_
  refine V_gload_n X dX9_at_5 rfl rfl ?_
  refine V_iload_n X dX9_at_6 rfl rfl ?_
  refine V_cSI X hf [vi a1] _ 1 (fun _ h => m_X9_isVariable h) tw_1595 tw_95 tw_1593 tw_1594 dX9_at_7 ⟨by decide +kernel, by decide +kernel, by decide +kernel⟩ ⟨rfl, rfl⟩ ⟨Nat.le_of_ble_eq_true rfl, Nat.le_of_ble_eq_true rfl⟩ rfl (Nat.le_of_ble_eq_true rfl) ⟨Nat.zero_le _, Nat.zero_le _⟩ (fun r1 w1 hf => ?_)
  refine V_if_ne X (tgt := 17) dX9_at_10 (by decide) hf (fun hf => ?_) (fun hf => ?_)
  · refine V_iconst X dX9_at_13 ?_
    refine V_goto X (tgt := 18) dX9_at_14 (by decide) ?_
    exact V_cut [0, 1, 2] rfl (v_X9_at_18 X hE hf)
  · refine V_iconst X dX9_at_17 ?_
    exact V_cut [0, 1, 2] rfl (v_X9_at_18 X hE hf)
abbrev rmX9_isPattern : Room := { frames := 1, cells := 0, slots := 0, locals := 25 }
set_option maxRecDepth 20000 in
theorem m_X9_isPattern {G : GG} {a1 : Int} {w : WS} {q : (Int × WS)}  (hf : f_X9_isPattern a1 w = some q) : MI G yX9_isPattern cX9_isPattern 2 (some .boolean) rmX9_isPattern [gr G 85, vi a1] w q := by
  refine MI_of (by decide +kernel) (Nat.le_of_ble_eq_true rfl) (fun E X hE => ?_)
  have X : Cx G E cX9_isPattern RX9 (some .boolean) rmX9_isPattern 2 := X
  unfold f_X9_isPattern at hf
  refine V_iload_n X dX9_isPattern_0 rfl rfl ?_
  refine V_i2l X dX9_isPattern_1 ?_
  refine V_lconst (a := 0) X dX9_isPattern_2 (by decide) ?_
  refine V_gload_n X dX9_isPattern_3 rfl rfl ?_
  refine V_geti X ob_85 rfl rfl hin_X9 11 (Nat.le_of_ble_eq_true rfl) tw_1327 rfl dX9_isPattern_4 ?_
  refine V_iconst X dX9_isPattern_7 ?_
  refine V_isub X dX9_isPattern_8 ?_
  refine V_i2l X dX9_isPattern_9 ?_
  refine V_cSI X hf [vl (wr a1), vl 0, vl (wr ((w 85 11) - 1))] _ 3 (fun _ h => m_X9_in h) tw_1574 tw_95 tw_1572 tw_1573 dX9_isPattern_10 ⟨by decide +kernel, by decide +kernel, by decide +kernel⟩ ⟨rfl, rfl⟩ ⟨Nat.le_of_ble_eq_true rfl, Nat.le_of_ble_eq_true rfl⟩ rfl (Nat.le_of_ble_eq_true rfl) ⟨Nat.zero_le _, Nat.zero_le _⟩ (fun r1 w1 hf => ?_)
  obtain ⟨hz, hf⟩ := ite_n hf
  exact V_zret X hE dX9_isPattern_13 hz hf
abbrev rmX9_isText : Room := { frames := 1, cells := 0, slots := 0, locals := 25 }
set_option maxRecDepth 20000 in
theorem m_X9_isText {G : GG} {a1 : Int} {w : WS} {q : (Int × WS)}  (hf : f_X9_isText a1 w = some q) : MI G yX9_isText cX9_isText 2 (some .boolean) rmX9_isText [gr G 85, vi a1] w q := by
  refine MI_of (by decide +kernel) (Nat.le_of_ble_eq_true rfl) (fun E X hE => ?_)
  have X : Cx G E cX9_isText RX9 (some .boolean) rmX9_isText 2 := X
  unfold f_X9_isText at hf
  refine V_iload_n X dX9_isText_0 rfl rfl ?_
  refine V_i2l X dX9_isText_1 ?_
  refine V_lconst (a := 0) X dX9_isText_2 (by decide) ?_
  refine V_gload_n X dX9_isText_3 rfl rfl ?_
  refine V_geti X ob_85 rfl rfl hin_X9 5 (Nat.le_of_ble_eq_true rfl) tw_1321 rfl dX9_isText_4 ?_
  refine V_iconst X dX9_isText_7 ?_
  refine V_isub X dX9_isText_8 ?_
  refine V_i2l X dX9_isText_9 ?_
  refine V_cSI X hf [vl (wr a1), vl 0, vl (wr ((w 85 5) - 1))] _ 3 (fun _ h => m_X9_in h) tw_1574 tw_95 tw_1572 tw_1573 dX9_isText_10 ⟨by decide +kernel, by decide +kernel, by decide +kernel⟩ ⟨rfl, rfl⟩ ⟨Nat.le_of_ble_eq_true rfl, Nat.le_of_ble_eq_true rfl⟩ rfl (Nat.le_of_ble_eq_true rfl) ⟨Nat.zero_le _, Nat.zero_le _⟩ (fun r1 w1 hf => ?_)
  obtain ⟨hz, hf⟩ := ite_n hf
  exact V_zret X hE dX9_isText_13 hz hf
abbrev rmX9_sortOf : Room := { frames := 0, cells := 0, slots := 0, locals := 0 }
set_option maxRecDepth 20000 in
theorem m_X9_sortOf {G : GG} {a0 : Int} {w : WS} {q : (Int × WS)}  (hf : f_X9_sortOf a0 w = some q) : MI G yX9_sortOf cX9_sortOf 1 (some .int) rmX9_sortOf [vi a0] w q := by
  refine MI_of (by decide +kernel) (Nat.le_of_ble_eq_true rfl) (fun E X hE => ?_)
  have X : Cx G E cX9_sortOf RX9 (some .int) rmX9_sortOf 1 := X
  unfold f_X9_sortOf at hf
  refine V_iload_n X dX9_sortOf_0 rfl rfl ?_
  refine ite_c hf (fun h0 hf => ?_) (fun h0 hf => ?_)
  · refine V_tin X (off := 379) (tgt := 380) dX9_sortOf_1 35 h0 (by decide) rfl (by decide) ?_
    refine V_iconst X dX9_sortOf_380 ?_
    exact V_iret X hE dX9_sortOf_381 hf
  refine ite_c hf (fun h1 hf => ?_) (fun h1 hf => ?_)
  · refine V_tin X (off := 383) (tgt := 384) dX9_sortOf_1 36 h1 (by decide) rfl (by decide) ?_
    refine V_iconst X dX9_sortOf_384 ?_
    exact V_iret X hE dX9_sortOf_385 hf
  refine ite_c hf (fun h2 hf => ?_) (fun h2 hf => ?_)
  · refine V_tin X (off := 391) (tgt := 392) dX9_sortOf_1 37 h2 (by decide) rfl (by decide) ?_
    refine V_iconst X dX9_sortOf_392 ?_
    exact V_iret X hE dX9_sortOf_393 hf
  refine ite_c hf (fun h3 hf => ?_) (fun h3 hf => ?_)
  · refine V_tin X (off := 377) (tgt := 378) dX9_sortOf_1 38 h3 (by decide) rfl (by decide) ?_
    refine V_iconst X dX9_sortOf_378 ?_
    exact V_iret X hE dX9_sortOf_379 hf
  refine ite_c hf (fun h4 hf => ?_) (fun h4 hf => ?_)
  · refine V_tin X (off := 391) (tgt := 392) dX9_sortOf_1 39 h4 (by decide) rfl (by decide) ?_
    refine V_iconst X dX9_sortOf_392 ?_
    exact V_iret X hE dX9_sortOf_393 hf
  refine ite_c hf (fun h5 hf => ?_) (fun h5 hf => ?_)
  · refine V_tin X (off := 391) (tgt := 392) dX9_sortOf_1 40 h5 (by decide) rfl (by decide) ?_
    refine V_iconst X dX9_sortOf_392 ?_
    exact V_iret X hE dX9_sortOf_393 hf
  refine ite_c hf (fun h6 hf => ?_) (fun h6 hf => ?_)
  · refine V_tin X (off := 391) (tgt := 392) dX9_sortOf_1 41 h6 (by decide) rfl (by decide) ?_
    refine V_iconst X dX9_sortOf_392 ?_
    exact V_iret X hE dX9_sortOf_393 hf
  refine ite_c hf (fun h7 hf => ?_) (fun h7 hf => ?_)
  · refine V_tin X (off := 388) (tgt := 389) dX9_sortOf_1 42 h7 (by decide) rfl (by decide) ?_
    refine V_bipush X dX9_sortOf_389 (by decide) ?_
    exact V_iret X hE dX9_sortOf_391 hf
  refine ite_c hf (fun h8 hf => ?_) (fun h8 hf => ?_)
  · refine V_tin X (off := 391) (tgt := 392) dX9_sortOf_1 43 h8 (by decide) rfl (by decide) ?_
    refine V_iconst X dX9_sortOf_392 ?_
    exact V_iret X hE dX9_sortOf_393 hf
  refine ite_c hf (fun h9 hf => ?_) (fun h9 hf => ?_)
  · refine V_tin X (off := 391) (tgt := 392) dX9_sortOf_1 44 h9 (by decide) rfl (by decide) ?_
    refine V_iconst X dX9_sortOf_392 ?_
    exact V_iret X hE dX9_sortOf_393 hf
  refine ite_c hf (fun h10 hf => ?_) (fun h10 hf => ?_)
  · refine V_tin X (off := 391) (tgt := 392) dX9_sortOf_1 45 h10 (by decide) rfl (by decide) ?_
    refine V_iconst X dX9_sortOf_392 ?_
    exact V_iret X hE dX9_sortOf_393 hf
  refine ite_c hf (fun h11 hf => ?_) (fun h11 hf => ?_)
  · refine V_tin X (off := 383) (tgt := 384) dX9_sortOf_1 46 h11 (by decide) rfl (by decide) ?_
    refine V_iconst X dX9_sortOf_384 ?_
    exact V_iret X hE dX9_sortOf_385 hf
  refine ite_c hf (fun h12 hf => ?_) (fun h12 hf => ?_)
  · refine V_tin X (off := 391) (tgt := 392) dX9_sortOf_1 47 h12 (by decide) rfl (by decide) ?_
    refine V_iconst X dX9_sortOf_392 ?_
    exact V_iret X hE dX9_sortOf_393 hf
  refine ite_c hf (fun h13 hf => ?_) (fun h13 hf => ?_)
  · refine V_tin X (off := 391) (tgt := 392) dX9_sortOf_1 48 h13 (by decide) rfl (by decide) ?_
    refine V_iconst X dX9_sortOf_392 ?_
    exact V_iret X hE dX9_sortOf_393 hf
  refine ite_c hf (fun h14 hf => ?_) (fun h14 hf => ?_)
  · refine V_tin X (off := 391) (tgt := 392) dX9_sortOf_1 49 h14 (by decide) rfl (by decide) ?_
    refine V_iconst X dX9_sortOf_392 ?_
    exact V_iret X hE dX9_sortOf_393 hf
  refine ite_c hf (fun h15 hf => ?_) (fun h15 hf => ?_)
  · refine V_tin X (off := 391) (tgt := 392) dX9_sortOf_1 50 h15 (by decide) rfl (by decide) ?_
    refine V_iconst X dX9_sortOf_392 ?_
    exact V_iret X hE dX9_sortOf_393 hf
  refine ite_c hf (fun h16 hf => ?_) (fun h16 hf => ?_)
  · refine V_tin X (off := 391) (tgt := 392) dX9_sortOf_1 51 h16 (by decide) rfl (by decide) ?_
    refine V_iconst X dX9_sortOf_392 ?_
    exact V_iret X hE dX9_sortOf_393 hf
  refine ite_c hf (fun h17 hf => ?_) (fun h17 hf => ?_)
  · refine V_tin X (off := 391) (tgt := 392) dX9_sortOf_1 52 h17 (by decide) rfl (by decide) ?_
    refine V_iconst X dX9_sortOf_392 ?_
    exact V_iret X hE dX9_sortOf_393 hf
  refine ite_c hf (fun h18 hf => ?_) (fun h18 hf => ?_)
  · refine V_tin X (off := 391) (tgt := 392) dX9_sortOf_1 53 h18 (by decide) rfl (by decide) ?_
    refine V_iconst X dX9_sortOf_392 ?_
    exact V_iret X hE dX9_sortOf_393 hf
  refine ite_c hf (fun h19 hf => ?_) (fun h19 hf => ?_)
  · refine V_tin X (off := 391) (tgt := 392) dX9_sortOf_1 54 h19 (by decide) rfl (by decide) ?_
    refine V_iconst X dX9_sortOf_392 ?_
    exact V_iret X hE dX9_sortOf_393 hf
  refine ite_c hf (fun h20 hf => ?_) (fun h20 hf => ?_)
  · refine V_tin X (off := 391) (tgt := 392) dX9_sortOf_1 55 h20 (by decide) rfl (by decide) ?_
    refine V_iconst X dX9_sortOf_392 ?_
    exact V_iret X hE dX9_sortOf_393 hf
  refine ite_c hf (fun h21 hf => ?_) (fun h21 hf => ?_)
  · refine V_tin X (off := 391) (tgt := 392) dX9_sortOf_1 56 h21 (by decide) rfl (by decide) ?_
    refine V_iconst X dX9_sortOf_392 ?_
    exact V_iret X hE dX9_sortOf_393 hf
  refine ite_c hf (fun h22 hf => ?_) (fun h22 hf => ?_)
  · refine V_tin X (off := 391) (tgt := 392) dX9_sortOf_1 57 h22 (by decide) rfl (by decide) ?_
    refine V_iconst X dX9_sortOf_392 ?_
    exact V_iret X hE dX9_sortOf_393 hf
  refine ite_c hf (fun h23 hf => ?_) (fun h23 hf => ?_)
  · refine V_tin X (off := 391) (tgt := 392) dX9_sortOf_1 58 h23 (by decide) rfl (by decide) ?_
    refine V_iconst X dX9_sortOf_392 ?_
    exact V_iret X hE dX9_sortOf_393 hf
  refine ite_c hf (fun h24 hf => ?_) (fun h24 hf => ?_)
  · refine V_tin X (off := 391) (tgt := 392) dX9_sortOf_1 59 h24 (by decide) rfl (by decide) ?_
    refine V_iconst X dX9_sortOf_392 ?_
    exact V_iret X hE dX9_sortOf_393 hf
  refine ite_c hf (fun h25 hf => ?_) (fun h25 hf => ?_)
  · refine V_tin X (off := 391) (tgt := 392) dX9_sortOf_1 60 h25 (by decide) rfl (by decide) ?_
    refine V_iconst X dX9_sortOf_392 ?_
    exact V_iret X hE dX9_sortOf_393 hf
  refine ite_c hf (fun h26 hf => ?_) (fun h26 hf => ?_)
  · refine V_tin X (off := 391) (tgt := 392) dX9_sortOf_1 61 h26 (by decide) rfl (by decide) ?_
    refine V_iconst X dX9_sortOf_392 ?_
    exact V_iret X hE dX9_sortOf_393 hf
  refine ite_c hf (fun h27 hf => ?_) (fun h27 hf => ?_)
  · refine V_tin X (off := 391) (tgt := 392) dX9_sortOf_1 62 h27 (by decide) rfl (by decide) ?_
    refine V_iconst X dX9_sortOf_392 ?_
    exact V_iret X hE dX9_sortOf_393 hf
  refine ite_c hf (fun h28 hf => ?_) (fun h28 hf => ?_)
  · refine V_tin X (off := 391) (tgt := 392) dX9_sortOf_1 63 h28 (by decide) rfl (by decide) ?_
    refine V_iconst X dX9_sortOf_392 ?_
    exact V_iret X hE dX9_sortOf_393 hf
  refine ite_c hf (fun h29 hf => ?_) (fun h29 hf => ?_)
  · refine V_tin X (off := 385) (tgt := 386) dX9_sortOf_1 64 h29 (by decide) rfl (by decide) ?_
    refine V_bipush X dX9_sortOf_386 (by decide) ?_
    exact V_iret X hE dX9_sortOf_388 hf
  refine ite_c hf (fun h30 hf => ?_) (fun h30 hf => ?_)
  · refine V_tin X (off := 391) (tgt := 392) dX9_sortOf_1 65 h30 (by decide) rfl (by decide) ?_
    refine V_iconst X dX9_sortOf_392 ?_
    exact V_iret X hE dX9_sortOf_393 hf
  refine ite_c hf (fun h31 hf => ?_) (fun h31 hf => ?_)
  · refine V_tin X (off := 391) (tgt := 392) dX9_sortOf_1 66 h31 (by decide) rfl (by decide) ?_
    refine V_iconst X dX9_sortOf_392 ?_
    exact V_iret X hE dX9_sortOf_393 hf
  refine ite_c hf (fun h32 hf => ?_) (fun h32 hf => ?_)
  · refine V_tin X (off := 391) (tgt := 392) dX9_sortOf_1 67 h32 (by decide) rfl (by decide) ?_
    refine V_iconst X dX9_sortOf_392 ?_
    exact V_iret X hE dX9_sortOf_393 hf
  refine ite_c hf (fun h33 hf => ?_) (fun h33 hf => ?_)
  · refine V_tin X (off := 391) (tgt := 392) dX9_sortOf_1 68 h33 (by decide) rfl (by decide) ?_
    refine V_iconst X dX9_sortOf_392 ?_
    exact V_iret X hE dX9_sortOf_393 hf
  refine ite_c hf (fun h34 hf => ?_) (fun h34 hf => ?_)
  · refine V_tin X (off := 391) (tgt := 392) dX9_sortOf_1 69 h34 (by decide) rfl (by decide) ?_
    refine V_iconst X dX9_sortOf_392 ?_
    exact V_iret X hE dX9_sortOf_393 hf
  refine ite_c hf (fun h35 hf => ?_) (fun h35 hf => ?_)
  · refine V_tin X (off := 391) (tgt := 392) dX9_sortOf_1 70 h35 (by decide) rfl (by decide) ?_
    refine V_iconst X dX9_sortOf_392 ?_
    exact V_iret X hE dX9_sortOf_393 hf
  refine ite_c hf (fun h36 hf => ?_) (fun h36 hf => ?_)
  · refine V_tin X (off := 391) (tgt := 392) dX9_sortOf_1 71 h36 (by decide) rfl (by decide) ?_
    refine V_iconst X dX9_sortOf_392 ?_
    exact V_iret X hE dX9_sortOf_393 hf
  refine ite_c hf (fun h37 hf => ?_) (fun h37 hf => ?_)
  · refine V_tin X (off := 391) (tgt := 392) dX9_sortOf_1 72 h37 (by decide) rfl (by decide) ?_
    refine V_iconst X dX9_sortOf_392 ?_
    exact V_iret X hE dX9_sortOf_393 hf
  refine ite_c hf (fun h38 hf => ?_) (fun h38 hf => ?_)
  · refine V_tin X (off := 391) (tgt := 392) dX9_sortOf_1 73 h38 (by decide) rfl (by decide) ?_
    refine V_iconst X dX9_sortOf_392 ?_
    exact V_iret X hE dX9_sortOf_393 hf
  refine ite_c hf (fun h39 hf => ?_) (fun h39 hf => ?_)
  · refine V_tin X (off := 391) (tgt := 392) dX9_sortOf_1 74 h39 (by decide) rfl (by decide) ?_
    refine V_iconst X dX9_sortOf_392 ?_
    exact V_iret X hE dX9_sortOf_393 hf
  refine ite_c hf (fun h40 hf => ?_) (fun h40 hf => ?_)
  · refine V_tin X (off := 391) (tgt := 392) dX9_sortOf_1 75 h40 (by decide) rfl (by decide) ?_
    refine V_iconst X dX9_sortOf_392 ?_
    exact V_iret X hE dX9_sortOf_393 hf
  refine ite_c hf (fun h41 hf => ?_) (fun h41 hf => ?_)
  · refine V_tin X (off := 391) (tgt := 392) dX9_sortOf_1 76 h41 (by decide) rfl (by decide) ?_
    refine V_iconst X dX9_sortOf_392 ?_
    exact V_iret X hE dX9_sortOf_393 hf
  refine ite_c hf (fun h42 hf => ?_) (fun h42 hf => ?_)
  · refine V_tin X (off := 391) (tgt := 392) dX9_sortOf_1 77 h42 (by decide) rfl (by decide) ?_
    refine V_iconst X dX9_sortOf_392 ?_
    exact V_iret X hE dX9_sortOf_393 hf
  refine ite_c hf (fun h43 hf => ?_) (fun h43 hf => ?_)
  · refine V_tin X (off := 391) (tgt := 392) dX9_sortOf_1 78 h43 (by decide) rfl (by decide) ?_
    refine V_iconst X dX9_sortOf_392 ?_
    exact V_iret X hE dX9_sortOf_393 hf
  refine ite_c hf (fun h44 hf => ?_) (fun h44 hf => ?_)
  · refine V_tin X (off := 391) (tgt := 392) dX9_sortOf_1 79 h44 (by decide) rfl (by decide) ?_
    refine V_iconst X dX9_sortOf_392 ?_
    exact V_iret X hE dX9_sortOf_393 hf
  refine ite_c hf (fun h45 hf => ?_) (fun h45 hf => ?_)
  · refine V_tin X (off := 391) (tgt := 392) dX9_sortOf_1 80 h45 (by decide) rfl (by decide) ?_
    refine V_iconst X dX9_sortOf_392 ?_
    exact V_iret X hE dX9_sortOf_393 hf
  refine ite_c hf (fun h46 hf => ?_) (fun h46 hf => ?_)
  · refine V_tin X (off := 391) (tgt := 392) dX9_sortOf_1 81 h46 (by decide) rfl (by decide) ?_
    refine V_iconst X dX9_sortOf_392 ?_
    exact V_iret X hE dX9_sortOf_393 hf
  refine ite_c hf (fun h47 hf => ?_) (fun h47 hf => ?_)
  · refine V_tin X (off := 391) (tgt := 392) dX9_sortOf_1 82 h47 (by decide) rfl (by decide) ?_
    refine V_iconst X dX9_sortOf_392 ?_
    exact V_iret X hE dX9_sortOf_393 hf
  refine ite_c hf (fun h48 hf => ?_) (fun h48 hf => ?_)
  · refine V_tin X (off := 391) (tgt := 392) dX9_sortOf_1 83 h48 (by decide) rfl (by decide) ?_
    refine V_iconst X dX9_sortOf_392 ?_
    exact V_iret X hE dX9_sortOf_393 hf
  refine ite_c hf (fun h49 hf => ?_) (fun h49 hf => ?_)
  · refine V_tin X (off := 391) (tgt := 392) dX9_sortOf_1 84 h49 (by decide) rfl (by decide) ?_
    refine V_iconst X dX9_sortOf_392 ?_
    exact V_iret X hE dX9_sortOf_393 hf
  refine ite_c hf (fun h50 hf => ?_) (fun h50 hf => ?_)
  · refine V_tin X (off := 391) (tgt := 392) dX9_sortOf_1 85 h50 (by decide) rfl (by decide) ?_
    refine V_iconst X dX9_sortOf_392 ?_
    exact V_iret X hE dX9_sortOf_393 hf
  refine ite_c hf (fun h51 hf => ?_) (fun h51 hf => ?_)
  · refine V_tin X (off := 391) (tgt := 392) dX9_sortOf_1 86 h51 (by decide) rfl (by decide) ?_
    refine V_iconst X dX9_sortOf_392 ?_
    exact V_iret X hE dX9_sortOf_393 hf
  refine ite_c hf (fun h52 hf => ?_) (fun h52 hf => ?_)
  · refine V_tin X (off := 391) (tgt := 392) dX9_sortOf_1 87 h52 (by decide) rfl (by decide) ?_
    refine V_iconst X dX9_sortOf_392 ?_
    exact V_iret X hE dX9_sortOf_393 hf
  refine ite_c hf (fun h53 hf => ?_) (fun h53 hf => ?_)
  · refine V_tin X (off := 391) (tgt := 392) dX9_sortOf_1 88 h53 (by decide) rfl (by decide) ?_
    refine V_iconst X dX9_sortOf_392 ?_
    exact V_iret X hE dX9_sortOf_393 hf
  refine ite_c hf (fun h54 hf => ?_) (fun h54 hf => ?_)
  · refine V_tin X (off := 391) (tgt := 392) dX9_sortOf_1 89 h54 (by decide) rfl (by decide) ?_
    refine V_iconst X dX9_sortOf_392 ?_
    exact V_iret X hE dX9_sortOf_393 hf
  refine ite_c hf (fun h55 hf => ?_) (fun h55 hf => ?_)
  · refine V_tin X (off := 391) (tgt := 392) dX9_sortOf_1 90 h55 (by decide) rfl (by decide) ?_
    refine V_iconst X dX9_sortOf_392 ?_
    exact V_iret X hE dX9_sortOf_393 hf
  refine ite_c hf (fun h56 hf => ?_) (fun h56 hf => ?_)
  · refine V_tin X (off := 391) (tgt := 392) dX9_sortOf_1 91 h56 (by decide) rfl (by decide) ?_
    refine V_iconst X dX9_sortOf_392 ?_
    exact V_iret X hE dX9_sortOf_393 hf
  refine ite_c hf (fun h57 hf => ?_) (fun h57 hf => ?_)
  · refine V_tin X (off := 391) (tgt := 392) dX9_sortOf_1 92 h57 (by decide) rfl (by decide) ?_
    refine V_iconst X dX9_sortOf_392 ?_
    exact V_iret X hE dX9_sortOf_393 hf
  refine ite_c hf (fun h58 hf => ?_) (fun h58 hf => ?_)
  · refine V_tin X (off := 391) (tgt := 392) dX9_sortOf_1 93 h58 (by decide) rfl (by decide) ?_
    refine V_iconst X dX9_sortOf_392 ?_
    exact V_iret X hE dX9_sortOf_393 hf
  refine ite_c hf (fun h59 hf => ?_) (fun h59 hf => ?_)
  · refine V_tin X (off := 391) (tgt := 392) dX9_sortOf_1 94 h59 (by decide) rfl (by decide) ?_
    refine V_iconst X dX9_sortOf_392 ?_
    exact V_iret X hE dX9_sortOf_393 hf
  refine ite_c hf (fun h60 hf => ?_) (fun h60 hf => ?_)
  · refine V_tin X (off := 391) (tgt := 392) dX9_sortOf_1 95 h60 (by decide) rfl (by decide) ?_
    refine V_iconst X dX9_sortOf_392 ?_
    exact V_iret X hE dX9_sortOf_393 hf
  refine ite_c hf (fun h61 hf => ?_) (fun h61 hf => ?_)
  · refine V_tin X (off := 391) (tgt := 392) dX9_sortOf_1 96 h61 (by decide) rfl (by decide) ?_
    refine V_iconst X dX9_sortOf_392 ?_
    exact V_iret X hE dX9_sortOf_393 hf
  refine ite_c hf (fun h62 hf => ?_) (fun h62 hf => ?_)
  · refine V_tin X (off := 391) (tgt := 392) dX9_sortOf_1 97 h62 (by decide) rfl (by decide) ?_
    refine V_iconst X dX9_sortOf_392 ?_
    exact V_iret X hE dX9_sortOf_393 hf
  refine ite_c hf (fun h63 hf => ?_) (fun h63 hf => ?_)
  · refine V_tin X (off := 391) (tgt := 392) dX9_sortOf_1 98 h63 (by decide) rfl (by decide) ?_
    refine V_iconst X dX9_sortOf_392 ?_
    exact V_iret X hE dX9_sortOf_393 hf
  refine ite_c hf (fun h64 hf => ?_) (fun h64 hf => ?_)
  · refine V_tin X (off := 391) (tgt := 392) dX9_sortOf_1 99 h64 (by decide) rfl (by decide) ?_
    refine V_iconst X dX9_sortOf_392 ?_
    exact V_iret X hE dX9_sortOf_393 hf
  refine ite_c hf (fun h65 hf => ?_) (fun h65 hf => ?_)
  · refine V_tin X (off := 391) (tgt := 392) dX9_sortOf_1 100 h65 (by decide) rfl (by decide) ?_
    refine V_iconst X dX9_sortOf_392 ?_
    exact V_iret X hE dX9_sortOf_393 hf
  refine ite_c hf (fun h66 hf => ?_) (fun h66 hf => ?_)
  · refine V_tin X (off := 391) (tgt := 392) dX9_sortOf_1 101 h66 (by decide) rfl (by decide) ?_
    refine V_iconst X dX9_sortOf_392 ?_
    exact V_iret X hE dX9_sortOf_393 hf
  refine ite_c hf (fun h67 hf => ?_) (fun h67 hf => ?_)
  · refine V_tin X (off := 388) (tgt := 389) dX9_sortOf_1 102 h67 (by decide) rfl (by decide) ?_
    refine V_bipush X dX9_sortOf_389 (by decide) ?_
    exact V_iret X hE dX9_sortOf_391 hf
  refine ite_c hf (fun h68 hf => ?_) (fun h68 hf => ?_)
  · refine V_tin X (off := 381) (tgt := 382) dX9_sortOf_1 103 h68 (by decide) rfl (by decide) ?_
    refine V_iconst X dX9_sortOf_382 ?_
    exact V_iret X hE dX9_sortOf_383 hf
  refine ite_c hf (fun h69 hf => ?_) (fun h69 hf => ?_)
  · refine V_tin X (off := 391) (tgt := 392) dX9_sortOf_1 104 h69 (by decide) rfl (by decide) ?_
    refine V_iconst X dX9_sortOf_392 ?_
    exact V_iret X hE dX9_sortOf_393 hf
  refine ite_c hf (fun h70 hf => ?_) (fun h70 hf => ?_)
  · refine V_tin X (off := 388) (tgt := 389) dX9_sortOf_1 105 h70 (by decide) rfl (by decide) ?_
    refine V_bipush X dX9_sortOf_389 (by decide) ?_
    exact V_iret X hE dX9_sortOf_391 hf
  refine ite_c hf (fun h71 hf => ?_) (fun h71 hf => ?_)
  · refine V_tin X (off := 391) (tgt := 392) dX9_sortOf_1 106 h71 (by decide) rfl (by decide) ?_
    refine V_iconst X dX9_sortOf_392 ?_
    exact V_iret X hE dX9_sortOf_393 hf
  refine ite_c hf (fun h72 hf => ?_) (fun h72 hf => ?_)
  · refine V_tin X (off := 375) (tgt := 376) dX9_sortOf_1 107 h72 (by decide) rfl (by decide) ?_
    refine V_iconst X dX9_sortOf_376 ?_
    exact V_iret X hE dX9_sortOf_377 hf
  refine ite_c hf (fun h73 hf => ?_) (fun h73 hf => ?_)
  · refine V_tin X (off := 375) (tgt := 376) dX9_sortOf_1 108 h73 (by decide) rfl (by decide) ?_
    refine V_iconst X dX9_sortOf_376 ?_
    exact V_iret X hE dX9_sortOf_377 hf
  refine ite_c hf (fun h74 hf => ?_) (fun h74 hf => ?_)
  · refine V_tin X (off := 388) (tgt := 389) dX9_sortOf_1 109 h74 (by decide) rfl (by decide) ?_
    refine V_bipush X dX9_sortOf_389 (by decide) ?_
    exact V_iret X hE dX9_sortOf_391 hf
  refine ite_c hf (fun h75 hf => ?_) (fun h75 hf => ?_)
  · refine V_tin X (off := 375) (tgt := 376) dX9_sortOf_1 110 h75 (by decide) rfl (by decide) ?_
    refine V_iconst X dX9_sortOf_376 ?_
    exact V_iret X hE dX9_sortOf_377 hf
  refine ite_c hf (fun h76 hf => ?_) (fun h76 hf => ?_)
  · refine V_tin X (off := 375) (tgt := 376) dX9_sortOf_1 111 h76 (by decide) rfl (by decide) ?_
    refine V_iconst X dX9_sortOf_376 ?_
    exact V_iret X hE dX9_sortOf_377 hf
  refine ite_c hf (fun h77 hf => ?_) (fun h77 hf => ?_)
  · refine V_tin X (off := 379) (tgt := 380) dX9_sortOf_1 112 h77 (by decide) rfl (by decide) ?_
    refine V_iconst X dX9_sortOf_380 ?_
    exact V_iret X hE dX9_sortOf_381 hf
  refine ite_c hf (fun h78 hf => ?_) (fun h78 hf => ?_)
  · refine V_tin X (off := 379) (tgt := 380) dX9_sortOf_1 113 h78 (by decide) rfl (by decide) ?_
    refine V_iconst X dX9_sortOf_380 ?_
    exact V_iret X hE dX9_sortOf_381 hf
  refine ite_c hf (fun h79 hf => ?_) (fun h79 hf => ?_)
  · refine V_tin X (off := 379) (tgt := 380) dX9_sortOf_1 114 h79 (by decide) rfl (by decide) ?_
    refine V_iconst X dX9_sortOf_380 ?_
    exact V_iret X hE dX9_sortOf_381 hf
  refine ite_c hf (fun h80 hf => ?_) (fun h80 hf => ?_)
  · refine V_tin X (off := 375) (tgt := 376) dX9_sortOf_1 115 h80 (by decide) rfl (by decide) ?_
    refine V_iconst X dX9_sortOf_376 ?_
    exact V_iret X hE dX9_sortOf_377 hf
  refine ite_c hf (fun h81 hf => ?_) (fun h81 hf => ?_)
  · refine V_tin X (off := 379) (tgt := 380) dX9_sortOf_1 116 h81 (by decide) rfl (by decide) ?_
    refine V_iconst X dX9_sortOf_380 ?_
    exact V_iret X hE dX9_sortOf_381 hf
  refine ite_c hf (fun h82 hf => ?_) (fun h82 hf => ?_)
  · refine V_tin X (off := 391) (tgt := 392) dX9_sortOf_1 117 h82 (by decide) rfl (by decide) ?_
    refine V_iconst X dX9_sortOf_392 ?_
    exact V_iret X hE dX9_sortOf_393 hf
  refine ite_c hf (fun h83 hf => ?_) (fun h83 hf => ?_)
  · refine V_tin X (off := 385) (tgt := 386) dX9_sortOf_1 118 h83 (by decide) rfl (by decide) ?_
    refine V_bipush X dX9_sortOf_386 (by decide) ?_
    exact V_iret X hE dX9_sortOf_388 hf
  refine ite_c hf (fun h84 hf => ?_) (fun h84 hf => ?_)
  · refine V_tin X (off := 391) (tgt := 392) dX9_sortOf_1 119 h84 (by decide) rfl (by decide) ?_
    refine V_iconst X dX9_sortOf_392 ?_
    exact V_iret X hE dX9_sortOf_393 hf
  refine ite_c hf (fun h85 hf => ?_) (fun h85 hf => ?_)
  · refine V_tin X (off := 388) (tgt := 389) dX9_sortOf_1 120 h85 (by decide) rfl (by decide) ?_
    refine V_bipush X dX9_sortOf_389 (by decide) ?_
    exact V_iret X hE dX9_sortOf_391 hf
  refine ite_c hf (fun h86 hf => ?_) (fun h86 hf => ?_)
  · refine V_tin X (off := 391) (tgt := 392) dX9_sortOf_1 121 h86 (by decide) rfl (by decide) ?_
    refine V_iconst X dX9_sortOf_392 ?_
    exact V_iret X hE dX9_sortOf_393 hf
  refine ite_c hf (fun h87 hf => ?_) (fun h87 hf => ?_)
  · refine V_tin X (off := 388) (tgt := 389) dX9_sortOf_1 122 h87 (by decide) rfl (by decide) ?_
    refine V_bipush X dX9_sortOf_389 (by decide) ?_
    exact V_iret X hE dX9_sortOf_391 hf
  refine ite_c hf (fun h88 hf => ?_) (fun h88 hf => ?_)
  · refine V_tin X (off := 391) (tgt := 392) dX9_sortOf_1 123 h88 (by decide) rfl (by decide) ?_
    refine V_iconst X dX9_sortOf_392 ?_
    exact V_iret X hE dX9_sortOf_393 hf
  refine ite_c hf (fun h89 hf => ?_) (fun h89 hf => ?_)
  · refine V_tin X (off := 377) (tgt := 378) dX9_sortOf_1 124 h89 (by decide) rfl (by decide) ?_
    refine V_iconst X dX9_sortOf_378 ?_
    exact V_iret X hE dX9_sortOf_379 hf
  refine V_tout X (tgt := 392) dX9_sortOf_1 (by omega) (by decide) ?_
  refine V_iconst X dX9_sortOf_392 ?_
  exact V_iret X hE dX9_sortOf_393 hf
abbrev rmX9_pattern : Room := { frames := 2, cells := 0, slots := 0, locals := 46 }
set_option maxRecDepth 20000 in
theorem v_X9_pattern_187 {G : GG} {E : EE} (X : Cx G E cX9_pattern RX9 (some .int) rmX9_pattern 6) {q : (Int × WS)} (hE : EndI G E q)   {a1 a2 a3 s0 : Int} {w : WS} (hf : f_X9_pattern_187   a1 a2 a3 s0 w = some q) : VV G E 0 0 187 [(0, gr G 85), (1, vi a1), (2, vi a2), (3, vi a3)] [vi s0, gr G 85] w := by
  unfold f_X9_pattern_187 at hf
  refine V_iconst X dX9_pattern_187 ?_
  refine V_cVI X hf [vi s0, vi 3] _ 2 (fun _ h => m_X9_fails h) ob_85 rfl tw_1580 tw_95 tw_1577 tw_1579 tw_38 dX9_pattern_188 ⟨by decide +kernel, by decide +kernel, by decide +kernel⟩ ⟨rfl, rfl⟩ ⟨Nat.le_of_ble_eq_true rfl, Nat.le_of_ble_eq_true rfl⟩ rfl (Nat.le_of_ble_eq_true rfl) ⟨Nat.zero_le _, Nat.zero_le _⟩ (fun r4 w4 hf => ?_)
  refine V_if_eq X (tgt := 196) dX9_pattern_191 (by decide) hf (fun hf => ?_) (fun hf => ?_)
  · refine V_gload_n X dX9_pattern_196 rfl rfl ?_
    refine V_getr X ob_85 rfl rfl hin_X9 8 (Nat.le_of_ble_eq_true rfl) tw_1324 rfl dX9_pattern_197 ?_
    refine V_gload_n X dX9_pattern_200 rfl rfl ?_
    refine V_geti X ob_85 rfl rfl hin_X9 11 (Nat.le_of_ble_eq_true rfl) tw_1327 rfl dX9_pattern_201 ?_
    refine V_iload_n X dX9_pattern_204 rfl rfl ?_
    refine V_cast X ar_91 dX9_pattern_205 hf (fun hf => ?_)
    refine V_gload_n X dX9_pattern_206 rfl rfl ?_
    refine V_getr X ob_85 rfl rfl hin_X9 9 (Nat.le_of_ble_eq_true rfl) tw_1325 rfl dX9_pattern_207 ?_
    refine V_gload_n X dX9_pattern_210 rfl rfl ?_
    refine V_geti X ob_85 rfl rfl hin_X9 11 (Nat.le_of_ble_eq_true rfl) tw_1327 rfl dX9_pattern_211 ?_
    refine V_iload_n X dX9_pattern_214 rfl rfl ?_
    refine V_iast X ar_92 dX9_pattern_215 hf (fun hf => ?_)
    refine V_gload_n X dX9_pattern_216 rfl rfl ?_
    refine V_getr X ob_85 rfl rfl hin_X9 10 (Nat.le_of_ble_eq_true rfl) tw_1326 rfl dX9_pattern_217 ?_
    refine V_gload_n X dX9_pattern_220 rfl rfl ?_
    refine V_geti X ob_85 rfl rfl hin_X9 11 (Nat.le_of_ble_eq_true rfl) tw_1327 rfl dX9_pattern_221 ?_
    refine V_iload_n X dX9_pattern_224 rfl rfl ?_
    refine V_iast X ar_93 dX9_pattern_225 hf (fun hf => ?_)
    refine V_gload_n X dX9_pattern_226 rfl rfl ?_
    refine V_dup X dX9_pattern_227 rfl ?_
    refine V_geti X ob_85 rfl rfl hin_X9 11 (Nat.le_of_ble_eq_true rfl) tw_1327 rfl dX9_pattern_228 ?_
    refine V_iconst X dX9_pattern_231 ?_
    refine V_iadd X dX9_pattern_232 ?_
    refine V_puti X ob_85 rfl rfl hin_X9 11 (Nat.le_of_ble_eq_true rfl) tw_1327 tyX9 tyX9_ok nmX9 rfl (by decide +kernel) rfl dX9_pattern_233 ?_
    refine V_gload_n X dX9_pattern_236 rfl rfl ?_
    refine V_geti X ob_85 rfl rfl hin_X9 11 (Nat.le_of_ble_eq_true rfl) tw_1327 rfl dX9_pattern_237 ?_
    refine V_iconst X dX9_pattern_240 ?_
    refine V_isub X dX9_pattern_241 ?_
    exact V_iret X hE dX9_pattern_242 hf
  · refine V_iconst X dX9_pattern_194 ?_
    exact V_iret X hE dX9_pattern_195 hf
set_option maxRecDepth 20000 in
theorem v_X9_pattern_165 {G : GG} {E : EE} (X : Cx G E cX9_pattern RX9 (some .int) rmX9_pattern 6) {q : (Int × WS)} (hE : EndI G E q)   {a1 a2 a3 s0 : Int} {w : WS} (hf : f_X9_pattern_165   a1 a2 a3 s0 w = some q) : VV G E 0 0 165 [(0, gr G 85), (1, vi a1), (2, vi a2), (3, vi a3)] [vi s0, gr G 85] w := by
  unfold f_X9_pattern_165 at hf
  refine V_iconst X dX9_pattern_165 ?_
  refine V_cVI X hf [vi s0, vi 2] _ 2 (fun _ h => m_X9_fails h) ob_85 rfl tw_1580 tw_95 tw_1577 tw_1579 tw_38 dX9_pattern_166 ⟨by decide +kernel, by decide +kernel, by decide +kernel⟩ ⟨rfl, rfl⟩ ⟨Nat.le_of_ble_eq_true rfl, Nat.le_of_ble_eq_true rfl⟩ rfl (Nat.le_of_ble_eq_true rfl) ⟨Nat.zero_le _, Nat.zero_le _⟩ (fun r3 w3 hf => ?_)
  refine V_if_ne X (tgt := 194) dX9_pattern_169 (by decide) hf (fun hf => ?_) (fun hf => ?_)
  · refine V_gload_n X dX9_pattern_172 rfl rfl ?_
    refine V_gload_n X dX9_pattern_173 rfl rfl ?_
    refine V_geti X ob_85 rfl rfl hin_X9 11 (Nat.le_of_ble_eq_true rfl) tw_1327 rfl dX9_pattern_174 ?_
    refine V_bipush X dX9_pattern_177 (by decide) ?_
    refine V_icmp_ne X (tgt := 186) dX9_pattern_179 (by decide) hf (fun hf => ?_) (fun hf => ?_)
    · refine V_iconst X dX9_pattern_182 ?_
      refine V_goto X (tgt := 187) dX9_pattern_183 (by decide) ?_
      exact V_cut [0, 1, 2, 3] rfl (v_X9_pattern_187 X hE hf)
    · refine V_iconst X dX9_pattern_186 ?_
      exact V_cut [0, 1, 2, 3] rfl (v_X9_pattern_187 X hE hf)
  · refine V_iconst X dX9_pattern_194 ?_
    exact V_iret X hE dX9_pattern_195 hf
set_option maxRecDepth 20000 in
theorem v_X9_pattern_147 {G : GG} {E : EE} (X : Cx G E cX9_pattern RX9 (some .int) rmX9_pattern 6) {q : (Int × WS)} (hE : EndI G E q)   {a1 a2 a3 a5 s0 : Int} {w : WS} (hf : f_X9_pattern_147   a1 a2 a3 a5 s0 w = some q) : VV G E 0 0 147 [(0, gr G 85), (1, vi a1), (2, vi a2), (3, vi a3), (5, vi a5)] [vi s0, gr G 85] w := by
  unfold f_X9_pattern_147 at hf
  refine V_iconst X dX9_pattern_147 ?_
  refine V_cVI X hf [vi s0, vi 1] _ 2 (fun _ h => m_X9_fails h) ob_85 rfl tw_1580 tw_95 tw_1577 tw_1579 tw_38 dX9_pattern_148 ⟨by decide +kernel, by decide +kernel, by decide +kernel⟩ ⟨rfl, rfl⟩ ⟨Nat.le_of_ble_eq_true rfl, Nat.le_of_ble_eq_true rfl⟩ rfl (Nat.le_of_ble_eq_true rfl) ⟨Nat.zero_le _, Nat.zero_le _⟩ (fun r2 w2 hf => ?_)
  refine V_if_ne X (tgt := 194) dX9_pattern_151 (by decide) hf (fun hf => ?_) (fun hf => ?_)
  · refine V_gload_n X dX9_pattern_154 rfl rfl ?_
    refine V_iload X dX9_pattern_155 rfl ?_
    refine V_if_ne X (tgt := 164) dX9_pattern_157 (by decide) hf (fun hf => ?_) (fun hf => ?_)
    · refine V_iconst X dX9_pattern_160 ?_
      refine V_goto X (tgt := 165) dX9_pattern_161 (by decide) ?_
      exact V_cut [0, 1, 2, 3] rfl (v_X9_pattern_165 X hE hf)
    · refine V_iconst X dX9_pattern_164 ?_
      exact V_cut [0, 1, 2, 3] rfl (v_X9_pattern_165 X hE hf)
  · refine V_iconst X dX9_pattern_194 ?_
    exact V_iret X hE dX9_pattern_195 hf
set_option maxRecDepth 20000 in
theorem v_X9_pattern_134 {G : GG} {E : EE} (X : Cx G E cX9_pattern RX9 (some .int) rmX9_pattern 6) {q : (Int × WS)} (hE : EndI G E q)   {a1 a2 a3 a4 s0 : Int} {w : WS} (hf : f_X9_pattern_134   a1 a2 a3 a4 s0 w = some q) : VV G E 0 0 134 [(0, gr G 85), (1, vi a1), (2, vi a2), (3, vi a3), (4, vi a4)] [vi s0] w := by
  unfold f_X9_pattern_134 at hf
  refine V_istore X dX9_pattern_134 (by decide) ?_
  refine V_gload_n X dX9_pattern_136 rfl rfl ?_
  refine V_iload X dX9_pattern_137 rfl ?_
  refine V_if_ne X (tgt := 146) dX9_pattern_139 (by decide) hf (fun hf => ?_) (fun hf => ?_)
  · refine V_iconst X dX9_pattern_142 ?_
    refine V_goto X (tgt := 147) dX9_pattern_143 (by decide) ?_
    exact V_cut [0, 1, 2, 3, 5] rfl (v_X9_pattern_147 X hE hf)
  · refine V_iconst X dX9_pattern_146 ?_
    exact V_cut [0, 1, 2, 3, 5] rfl (v_X9_pattern_147 X hE hf)
set_option maxRecDepth 20000 in
theorem v_X9_pattern_129 {G : GG} {E : EE} (X : Cx G E cX9_pattern RX9 (some .int) rmX9_pattern 6) {q : (Int × WS)} (hE : EndI G E q)   {a1 a2 a3 a4 : Int} {w : WS} (hf : f_X9_pattern_129   a1 a2 a3 a4 w = some q) : VV G E 0 0 129 [(0, gr G 85), (1, vi a1), (2, vi a2), (3, vi a3), (4, vi a4)] [] w := by
  unfold f_X9_pattern_129 at hf
  refine V_iconst X dX9_pattern_129 ?_
  refine V_goto X (tgt := 134) dX9_pattern_130 (by decide) ?_
  exact V_cut [0, 1, 2, 3, 4] rfl (v_X9_pattern_134 X hE hf)
set_option maxRecDepth 20000 in
theorem v_X9_pattern_133 {G : GG} {E : EE} (X : Cx G E cX9_pattern RX9 (some .int) rmX9_pattern 6) {q : (Int × WS)} (hE : EndI G E q)   {a1 a2 a3 a4 : Int} {w : WS} (hf : f_X9_pattern_133   a1 a2 a3 a4 w = some q) : VV G E 0 0 133 [(0, gr G 85), (1, vi a1), (2, vi a2), (3, vi a3), (4, vi a4)] [] w := by
  unfold f_X9_pattern_133 at hf
  refine V_iconst X dX9_pattern_133 ?_
  exact V_cut [0, 1, 2, 3, 4] rfl (v_X9_pattern_134 X hE hf)
set_option maxRecDepth 20000 in
theorem m_X9_pattern {G : GG} {a1 : Int} {a2 : Int} {a3 : Int} {w : WS} {q : (Int × WS)}  (hf : f_X9_pattern a1 a2 a3 w = some q) : MI G yX9_pattern cX9_pattern 6 (some .int) rmX9_pattern [gr G 85, vi a1, vi a2, vi a3] w q := by
  refine MI_of (by decide +kernel) (Nat.le_of_ble_eq_true rfl) (fun E X hE => ?_)
  have X : Cx G E cX9_pattern RX9 (some .int) rmX9_pattern 6 := X
  unfold f_X9_pattern at hf
  refine V_gload_n X dX9_pattern_0 rfl rfl ?_
  refine V_iconst X dX9_pattern_1 ?_
  refine V_puti X ob_85 rfl rfl hin_X9 0 (Nat.le_of_ble_eq_true rfl) tw_1316 tyX9 tyX9_ok nmX9 rfl (by decide +kernel) rfl dX9_pattern_2 ?_
  refine V_iload_n X dX9_pattern_5 rfl rfl ?_
  refine V_cSI X hf [vi a1] _ 1 (fun _ h => m_X9_sortOf h) tw_1611 tw_95 tw_1609 tw_1610 dX9_pattern_6 ⟨by decide +kernel, by decide +kernel, by decide +kernel⟩ ⟨rfl, rfl⟩ ⟨Nat.le_of_ble_eq_true rfl, Nat.le_of_ble_eq_true rfl⟩ rfl (Nat.le_of_ble_eq_true rfl) ⟨Nat.zero_le _, Nat.zero_le _⟩ (fun r1 w1 hf => ?_)
  refine V_istore X dX9_pattern_9 (by decide) ?_
  refine V_iload X dX9_pattern_11 rfl ?_
  refine V_bipush X dX9_pattern_13 (by decide) ?_
  refine V_icmp_eq X (tgt := 129) dX9_pattern_15 (by decide) hf (fun hf => ?_) (fun hf => ?_)
  · exact V_cut [0, 1, 2, 3, 4] rfl (v_X9_pattern_129 X hE hf)
  · refine V_iload X dX9_pattern_18 rfl ?_
    refine V_iconst X dX9_pattern_20 ?_
    refine V_icmp_ne X (tgt := 35) dX9_pattern_21 (by decide) hf (fun hf => ?_) (fun hf => ?_)
    · refine V_gload_n X dX9_pattern_24 rfl rfl ?_
      refine V_iload_n X dX9_pattern_25 rfl rfl ?_
      refine V_cVI X hf [vi a2] _ 1 (fun _ h => m_X9_isText h) ob_85 rfl tw_1615 tw_95 tw_1612 tw_1614 tw_39 dX9_pattern_26 ⟨by decide +kernel, by decide +kernel, by decide +kernel⟩ ⟨rfl, rfl⟩ ⟨Nat.le_of_ble_eq_true rfl, Nat.le_of_ble_eq_true rfl⟩ rfl (Nat.le_of_ble_eq_true rfl) ⟨Nat.zero_le _, Nat.zero_le _⟩ (fun r5 w5 hf => ?_)
      refine V_if_eq X (tgt := 133) dX9_pattern_29 (by decide) hf (fun hf => ?_) (fun hf => ?_)
      · exact V_cut [0, 1, 2, 3, 4] rfl (v_X9_pattern_133 X hE hf)
      · refine V_goto X (tgt := 129) dX9_pattern_32 (by decide) ?_
        exact V_cut [0, 1, 2, 3, 4] rfl (v_X9_pattern_129 X hE hf)
    · refine V_iload X dX9_pattern_35 rfl ?_
      refine V_iconst X dX9_pattern_37 ?_
      refine V_icmp_ne X (tgt := 60) dX9_pattern_38 (by decide) hf (fun hf => ?_) (fun hf => ?_)
      · refine V_gload_n X dX9_pattern_41 rfl rfl ?_
        refine V_iload_n X dX9_pattern_42 rfl rfl ?_
        refine V_cVI X hf [vi a2] _ 1 (fun _ h => m_X9_isPattern h) ob_85 rfl tw_1619 tw_95 tw_1616 tw_1618 tw_40 dX9_pattern_43 ⟨by decide +kernel, by decide +kernel, by decide +kernel⟩ ⟨rfl, rfl⟩ ⟨Nat.le_of_ble_eq_true rfl, Nat.le_of_ble_eq_true rfl⟩ rfl (Nat.le_of_ble_eq_true rfl) ⟨Nat.zero_le _, Nat.zero_le _⟩ (fun r6 w6 hf => ?_)
        refine V_if_eq X (tgt := 133) dX9_pattern_46 (by decide) hf (fun hf => ?_) (fun hf => ?_)
        · exact V_cut [0, 1, 2, 3, 4] rfl (v_X9_pattern_133 X hE hf)
        · refine V_gload_n X dX9_pattern_49 rfl rfl ?_
          refine V_iload_n X dX9_pattern_50 rfl rfl ?_
          refine V_cVI X hf [vi a3] _ 1 (fun _ h => m_X9_isPattern h) ob_85 rfl tw_1619 tw_95 tw_1616 tw_1618 tw_40 dX9_pattern_51 ⟨by decide +kernel, by decide +kernel, by decide +kernel⟩ ⟨rfl, rfl⟩ ⟨Nat.le_of_ble_eq_true rfl, Nat.le_of_ble_eq_true rfl⟩ rfl (Nat.le_of_ble_eq_true rfl) ⟨Nat.zero_le _, Nat.zero_le _⟩ (fun r7 w7 hf => ?_)
          refine V_if_eq X (tgt := 133) dX9_pattern_54 (by decide) hf (fun hf => ?_) (fun hf => ?_)
          · exact V_cut [0, 1, 2, 3, 4] rfl (v_X9_pattern_133 X hE hf)
          · refine V_goto X (tgt := 129) dX9_pattern_57 (by decide) ?_
            exact V_cut [0, 1, 2, 3, 4] rfl (v_X9_pattern_129 X hE hf)
      · refine V_iload X dX9_pattern_60 rfl ?_
        refine V_iconst X dX9_pattern_62 ?_
        refine V_icmp_ne X (tgt := 81) dX9_pattern_63 (by decide) hf (fun hf => ?_) (fun hf => ?_)
        · refine V_iload_n X dX9_pattern_66 rfl rfl ?_
          refine V_i2l X dX9_pattern_67 ?_
          refine V_lconst (a := 0) X dX9_pattern_68 (by decide) ?_
          refine V_ldc2 (a := 60) X tw_1620 dX9_pattern_69 (by decide) ?_
          refine V_cSI X hf [vl (wr a2), vl 0, vl 60] _ 3 (fun _ h => m_X9_in h) tw_1574 tw_95 tw_1572 tw_1573 dX9_pattern_72 ⟨by decide +kernel, by decide +kernel, by decide +kernel⟩ ⟨rfl, rfl⟩ ⟨Nat.le_of_ble_eq_true rfl, Nat.le_of_ble_eq_true rfl⟩ rfl (Nat.le_of_ble_eq_true rfl) ⟨Nat.zero_le _, Nat.zero_le _⟩ (fun r8 w8 hf => ?_)
          refine V_if_eq X (tgt := 133) dX9_pattern_75 (by decide) hf (fun hf => ?_) (fun hf => ?_)
          · exact V_cut [0, 1, 2, 3, 4] rfl (v_X9_pattern_133 X hE hf)
          · refine V_goto X (tgt := 129) dX9_pattern_78 (by decide) ?_
            exact V_cut [0, 1, 2, 3, 4] rfl (v_X9_pattern_129 X hE hf)
        · refine V_iload X dX9_pattern_81 rfl ?_
          refine V_iconst X dX9_pattern_83 ?_
          refine V_icmp_ne X (tgt := 98) dX9_pattern_84 (by decide) hf (fun hf => ?_) (fun hf => ?_)
          · refine V_gload_n X dX9_pattern_87 rfl rfl ?_
            refine V_iload_n X dX9_pattern_88 rfl rfl ?_
            refine V_cVI X hf [vi a2] _ 1 (fun _ h => m_X9_isPattern h) ob_85 rfl tw_1619 tw_95 tw_1616 tw_1618 tw_40 dX9_pattern_89 ⟨by decide +kernel, by decide +kernel, by decide +kernel⟩ ⟨rfl, rfl⟩ ⟨Nat.le_of_ble_eq_true rfl, Nat.le_of_ble_eq_true rfl⟩ rfl (Nat.le_of_ble_eq_true rfl) ⟨Nat.zero_le _, Nat.zero_le _⟩ (fun r9 w9 hf => ?_)
            refine V_if_eq X (tgt := 133) dX9_pattern_92 (by decide) hf (fun hf => ?_) (fun hf => ?_)
            · exact V_cut [0, 1, 2, 3, 4] rfl (v_X9_pattern_133 X hE hf)
            · refine V_goto X (tgt := 129) dX9_pattern_95 (by decide) ?_
              exact V_cut [0, 1, 2, 3, 4] rfl (v_X9_pattern_129 X hE hf)
          · refine V_iload X dX9_pattern_98 rfl ?_
            refine V_iconst X dX9_pattern_100 ?_
            refine V_icmp_ne X (tgt := 122) dX9_pattern_101 (by decide) hf (fun hf => ?_) (fun hf => ?_)
            · refine V_gload_n X dX9_pattern_104 rfl rfl ?_
              refine V_iload_n X dX9_pattern_105 rfl rfl ?_
              refine V_cVI X hf [vi a2] _ 1 (fun _ h => m_X9_isPattern h) ob_85 rfl tw_1619 tw_95 tw_1616 tw_1618 tw_40 dX9_pattern_106 ⟨by decide +kernel, by decide +kernel, by decide +kernel⟩ ⟨rfl, rfl⟩ ⟨Nat.le_of_ble_eq_true rfl, Nat.le_of_ble_eq_true rfl⟩ rfl (Nat.le_of_ble_eq_true rfl) ⟨Nat.zero_le _, Nat.zero_le _⟩ (fun r10 w10 hf => ?_)
              refine V_if_eq X (tgt := 133) dX9_pattern_109 (by decide) hf (fun hf => ?_) (fun hf => ?_)
              · exact V_cut [0, 1, 2, 3, 4] rfl (v_X9_pattern_133 X hE hf)
              · refine V_iload_n X dX9_pattern_112 rfl rfl ?_
                refine V_cSI X hf [vi a3] _ 1 (fun _ h => m_X9_isVariable h) tw_1595 tw_95 tw_1593 tw_1594 dX9_pattern_113 ⟨by decide +kernel, by decide +kernel, by decide +kernel⟩ ⟨rfl, rfl⟩ ⟨Nat.le_of_ble_eq_true rfl, Nat.le_of_ble_eq_true rfl⟩ rfl (Nat.le_of_ble_eq_true rfl) ⟨Nat.zero_le _, Nat.zero_le _⟩ (fun r11 w11 hf => ?_)
                refine V_if_eq X (tgt := 133) dX9_pattern_116 (by decide) hf (fun hf => ?_) (fun hf => ?_)
                · exact V_cut [0, 1, 2, 3, 4] rfl (v_X9_pattern_133 X hE hf)
                · refine V_goto X (tgt := 129) dX9_pattern_119 (by decide) ?_
                  exact V_cut [0, 1, 2, 3, 4] rfl (v_X9_pattern_129 X hE hf)
            · refine V_iload_n X dX9_pattern_122 rfl rfl ?_
              refine V_cSI X hf [vi a2] _ 1 (fun _ h => m_X9_isVariable h) tw_1595 tw_95 tw_1593 tw_1594 dX9_pattern_123 ⟨by decide +kernel, by decide +kernel, by decide +kernel⟩ ⟨rfl, rfl⟩ ⟨Nat.le_of_ble_eq_true rfl, Nat.le_of_ble_eq_true rfl⟩ rfl (Nat.le_of_ble_eq_true rfl) ⟨Nat.zero_le _, Nat.zero_le _⟩ (fun r12 w12 hf => ?_)
              refine V_if_eq X (tgt := 133) dX9_pattern_126 (by decide) hf (fun hf => ?_) (fun hf => ?_)
              · exact V_cut [0, 1, 2, 3, 4] rfl (v_X9_pattern_133 X hE hf)
              · exact V_cut [0, 1, 2, 3, 4] rfl (v_X9_pattern_129 X hE hf)
abbrev rmX9_isTerm : Room := { frames := 1, cells := 0, slots := 0, locals := 25 }
set_option maxRecDepth 20000 in
theorem m_X9_isTerm {G : GG} {a1 : Int} {w : WS} {q : (Int × WS)}  (hf : f_X9_isTerm a1 w = some q) : MI G yX9_isTerm cX9_isTerm 2 (some .boolean) rmX9_isTerm [gr G 85, vi a1] w q := by
  refine MI_of (by decide +kernel) (Nat.le_of_ble_eq_true rfl) (fun E X hE => ?_)
  have X : Cx G E cX9_isTerm RX9 (some .boolean) rmX9_isTerm 2 := X
  unfold f_X9_isTerm at hf
  refine V_iload_n X dX9_isTerm_0 rfl rfl ?_
  refine V_i2l X dX9_isTerm_1 ?_
  refine V_lconst (a := 0) X dX9_isTerm_2 (by decide) ?_
  refine V_gload_n X dX9_isTerm_3 rfl rfl ?_
  refine V_geti X ob_85 rfl rfl hin_X9 15 (Nat.le_of_ble_eq_true rfl) tw_1331 rfl dX9_isTerm_4 ?_
  refine V_iconst X dX9_isTerm_7 ?_
  refine V_isub X dX9_isTerm_8 ?_
  refine V_i2l X dX9_isTerm_9 ?_
  refine V_cSI X hf [vl (wr a1), vl 0, vl (wr ((w 85 15) - 1))] _ 3 (fun _ h => m_X9_in h) tw_1574 tw_95 tw_1572 tw_1573 dX9_isTerm_10 ⟨by decide +kernel, by decide +kernel, by decide +kernel⟩ ⟨rfl, rfl⟩ ⟨Nat.le_of_ble_eq_true rfl, Nat.le_of_ble_eq_true rfl⟩ rfl (Nat.le_of_ble_eq_true rfl) ⟨Nat.zero_le _, Nat.zero_le _⟩ (fun r1 w1 hf => ?_)
  obtain ⟨hz, hf⟩ := ite_n hf
  exact V_zret X hE dX9_isTerm_13 hz hf
abbrev rmX9_termSort : Room := { frames := 0, cells := 0, slots := 0, locals := 0 }
set_option maxRecDepth 20000 in
theorem m_X9_termSort {G : GG} {a0 : Int} {w : WS} {q : (Int × WS)}  (hf : f_X9_termSort a0 w = some q) : MI G yX9_termSort cX9_termSort 1 (some .int) rmX9_termSort [vi a0] w q := by
  refine MI_of (by decide +kernel) (Nat.le_of_ble_eq_true rfl) (fun E X hE => ?_)
  have X : Cx G E cX9_termSort RX9 (some .int) rmX9_termSort 1 := X
  unfold f_X9_termSort at hf
  refine V_iload_n X dX9_termSort_0 rfl rfl ?_
  refine ite_c hf (fun h0 hf => ?_) (fun h0 hf => ?_)
  · refine V_lookup X (off := 119) (tgt := 120) dX9_termSort_1 (by decide) (by exact off_pos h0) (by decide) ?_
    refine V_iconst X dX9_termSort_120 ?_
    exact V_iret X hE dX9_termSort_121 hf
  refine ite_c hf (fun h1 hf => ?_) (fun h1 hf => ?_)
  · refine V_lookup X (off := 121) (tgt := 122) dX9_termSort_1 (by decide) (by exact off_neg h0 (off_pos h1)) (by decide) ?_
    refine V_iconst X dX9_termSort_122 ?_
    exact V_iret X hE dX9_termSort_123 hf
  refine ite_c hf (fun h2 hf => ?_) (fun h2 hf => ?_)
  · refine V_lookup X (off := 121) (tgt := 122) dX9_termSort_1 (by decide) (by exact off_neg h0 (off_neg h1 (off_pos h2))) (by decide) ?_
    refine V_iconst X dX9_termSort_122 ?_
    exact V_iret X hE dX9_termSort_123 hf
  refine ite_c hf (fun h3 hf => ?_) (fun h3 hf => ?_)
  · refine V_lookup X (off := 121) (tgt := 122) dX9_termSort_1 (by decide) (by exact off_neg h0 (off_neg h1 (off_neg h2 (off_pos h3)))) (by decide) ?_
    refine V_iconst X dX9_termSort_122 ?_
    exact V_iret X hE dX9_termSort_123 hf
  refine ite_c hf (fun h4 hf => ?_) (fun h4 hf => ?_)
  · refine V_lookup X (off := 121) (tgt := 122) dX9_termSort_1 (by decide) (by exact off_neg h0 (off_neg h1 (off_neg h2 (off_neg h3 (off_pos h4))))) (by decide) ?_
    refine V_iconst X dX9_termSort_122 ?_
    exact V_iret X hE dX9_termSort_123 hf
  refine ite_c hf (fun h5 hf => ?_) (fun h5 hf => ?_)
  · refine V_lookup X (off := 121) (tgt := 122) dX9_termSort_1 (by decide) (by exact off_neg h0 (off_neg h1 (off_neg h2 (off_neg h3 (off_neg h4 (off_pos h5)))))) (by decide) ?_
    refine V_iconst X dX9_termSort_122 ?_
    exact V_iret X hE dX9_termSort_123 hf
  refine ite_c hf (fun h6 hf => ?_) (fun h6 hf => ?_)
  · refine V_lookup X (off := 121) (tgt := 122) dX9_termSort_1 (by decide) (by exact off_neg h0 (off_neg h1 (off_neg h2 (off_neg h3 (off_neg h4 (off_neg h5 (off_pos h6))))))) (by decide) ?_
    refine V_iconst X dX9_termSort_122 ?_
    exact V_iret X hE dX9_termSort_123 hf
  refine ite_c hf (fun h7 hf => ?_) (fun h7 hf => ?_)
  · refine V_lookup X (off := 121) (tgt := 122) dX9_termSort_1 (by decide) (by exact off_neg h0 (off_neg h1 (off_neg h2 (off_neg h3 (off_neg h4 (off_neg h5 (off_neg h6 (off_pos h7)))))))) (by decide) ?_
    refine V_iconst X dX9_termSort_122 ?_
    exact V_iret X hE dX9_termSort_123 hf
  refine ite_c hf (fun h8 hf => ?_) (fun h8 hf => ?_)
  · refine V_lookup X (off := 121) (tgt := 122) dX9_termSort_1 (by decide) (by exact off_neg h0 (off_neg h1 (off_neg h2 (off_neg h3 (off_neg h4 (off_neg h5 (off_neg h6 (off_neg h7 (off_pos h8))))))))) (by decide) ?_
    refine V_iconst X dX9_termSort_122 ?_
    exact V_iret X hE dX9_termSort_123 hf
  refine ite_c hf (fun h9 hf => ?_) (fun h9 hf => ?_)
  · refine V_lookup X (off := 119) (tgt := 120) dX9_termSort_1 (by decide) (by exact off_neg h0 (off_neg h1 (off_neg h2 (off_neg h3 (off_neg h4 (off_neg h5 (off_neg h6 (off_neg h7 (off_neg h8 (off_pos h9)))))))))) (by decide) ?_
    refine V_iconst X dX9_termSort_120 ?_
    exact V_iret X hE dX9_termSort_121 hf
  refine ite_c hf (fun h10 hf => ?_) (fun h10 hf => ?_)
  · refine V_lookup X (off := 115) (tgt := 116) dX9_termSort_1 (by decide) (by exact off_neg h0 (off_neg h1 (off_neg h2 (off_neg h3 (off_neg h4 (off_neg h5 (off_neg h6 (off_neg h7 (off_neg h8 (off_neg h9 (off_pos h10))))))))))) (by decide) ?_
    refine V_iconst X dX9_termSort_116 ?_
    exact V_iret X hE dX9_termSort_117 hf
  refine ite_c hf (fun h11 hf => ?_) (fun h11 hf => ?_)
  · refine V_lookup X (off := 117) (tgt := 118) dX9_termSort_1 (by decide) (by exact off_neg h0 (off_neg h1 (off_neg h2 (off_neg h3 (off_neg h4 (off_neg h5 (off_neg h6 (off_neg h7 (off_neg h8 (off_neg h9 (off_neg h10 (off_pos h11)))))))))))) (by decide) ?_
    refine V_iconst X dX9_termSort_118 ?_
    exact V_iret X hE dX9_termSort_119 hf
  refine ite_c hf (fun h12 hf => ?_) (fun h12 hf => ?_)
  · refine V_lookup X (off := 119) (tgt := 120) dX9_termSort_1 (by decide) (by exact off_neg h0 (off_neg h1 (off_neg h2 (off_neg h3 (off_neg h4 (off_neg h5 (off_neg h6 (off_neg h7 (off_neg h8 (off_neg h9 (off_neg h10 (off_neg h11 (off_pos h12))))))))))))) (by decide) ?_
    refine V_iconst X dX9_termSort_120 ?_
    exact V_iret X hE dX9_termSort_121 hf
  refine V_lookup X (off := 123) (tgt := 124) dX9_termSort_1 (by decide) (by exact off_neg h0 (off_neg h1 (off_neg h2 (off_neg h3 (off_neg h4 (off_neg h5 (off_neg h6 (off_neg h7 (off_neg h8 (off_neg h9 (off_neg h10 (off_neg h11 (off_neg h12 (rfl)))))))))))))) (by decide) ?_
  refine V_iconst X dX9_termSort_124 ?_
  exact V_iret X hE dX9_termSort_125 hf
abbrev rmX9_term : Room := { frames := 2, cells := 0, slots := 0, locals := 46 }
set_option maxRecDepth 20000 in
theorem v_X9_term_118 {G : GG} {E : EE} (X : Cx G E cX9_term RX9 (some .int) rmX9_term 6) {q : (Int × WS)} (hE : EndI G E q)   {a1 a2 a3 s0 : Int} {w : WS} (hf : f_X9_term_118   a1 a2 a3 s0 w = some q) : VV G E 0 0 118 [(0, gr G 85), (1, vi a1), (2, vi a2), (3, vi a3)] [vi s0, gr G 85] w := by
  unfold f_X9_term_118 at hf
  refine V_iconst X dX9_term_118 ?_
  refine V_cVI X hf [vi s0, vi 3] _ 2 (fun _ h => m_X9_fails h) ob_85 rfl tw_1580 tw_95 tw_1577 tw_1579 tw_38 dX9_term_119 ⟨by decide +kernel, by decide +kernel, by decide +kernel⟩ ⟨rfl, rfl⟩ ⟨Nat.le_of_ble_eq_true rfl, Nat.le_of_ble_eq_true rfl⟩ rfl (Nat.le_of_ble_eq_true rfl) ⟨Nat.zero_le _, Nat.zero_le _⟩ (fun r5 w5 hf => ?_)
  refine V_if_eq X (tgt := 127) dX9_term_122 (by decide) hf (fun hf => ?_) (fun hf => ?_)
  · refine V_gload_n X dX9_term_127 rfl rfl ?_
    refine V_getr X ob_85 rfl rfl hin_X9 12 (Nat.le_of_ble_eq_true rfl) tw_1328 rfl dX9_term_128 ?_
    refine V_gload_n X dX9_term_131 rfl rfl ?_
    refine V_geti X ob_85 rfl rfl hin_X9 15 (Nat.le_of_ble_eq_true rfl) tw_1331 rfl dX9_term_132 ?_
    refine V_iload_n X dX9_term_135 rfl rfl ?_
    refine V_cast X ar_94 dX9_term_136 hf (fun hf => ?_)
    refine V_gload_n X dX9_term_137 rfl rfl ?_
    refine V_getr X ob_85 rfl rfl hin_X9 13 (Nat.le_of_ble_eq_true rfl) tw_1329 rfl dX9_term_138 ?_
    refine V_gload_n X dX9_term_141 rfl rfl ?_
    refine V_geti X ob_85 rfl rfl hin_X9 15 (Nat.le_of_ble_eq_true rfl) tw_1331 rfl dX9_term_142 ?_
    refine V_iload_n X dX9_term_145 rfl rfl ?_
    refine V_iast X ar_95 dX9_term_146 hf (fun hf => ?_)
    refine V_gload_n X dX9_term_147 rfl rfl ?_
    refine V_getr X ob_85 rfl rfl hin_X9 14 (Nat.le_of_ble_eq_true rfl) tw_1330 rfl dX9_term_148 ?_
    refine V_gload_n X dX9_term_151 rfl rfl ?_
    refine V_geti X ob_85 rfl rfl hin_X9 15 (Nat.le_of_ble_eq_true rfl) tw_1331 rfl dX9_term_152 ?_
    refine V_iload_n X dX9_term_155 rfl rfl ?_
    refine V_iast X ar_96 dX9_term_156 hf (fun hf => ?_)
    refine V_gload_n X dX9_term_157 rfl rfl ?_
    refine V_dup X dX9_term_158 rfl ?_
    refine V_geti X ob_85 rfl rfl hin_X9 15 (Nat.le_of_ble_eq_true rfl) tw_1331 rfl dX9_term_159 ?_
    refine V_iconst X dX9_term_162 ?_
    refine V_iadd X dX9_term_163 ?_
    refine V_puti X ob_85 rfl rfl hin_X9 15 (Nat.le_of_ble_eq_true rfl) tw_1331 tyX9 tyX9_ok nmX9 rfl (by decide +kernel) rfl dX9_term_164 ?_
    refine V_gload_n X dX9_term_167 rfl rfl ?_
    refine V_geti X ob_85 rfl rfl hin_X9 15 (Nat.le_of_ble_eq_true rfl) tw_1331 rfl dX9_term_168 ?_
    refine V_iconst X dX9_term_171 ?_
    refine V_isub X dX9_term_172 ?_
    exact V_iret X hE dX9_term_173 hf
  · refine V_iconst X dX9_term_125 ?_
    exact V_iret X hE dX9_term_126 hf
set_option maxRecDepth 20000 in
theorem v_X9_term_96 {G : GG} {E : EE} (X : Cx G E cX9_term RX9 (some .int) rmX9_term 6) {q : (Int × WS)} (hE : EndI G E q)   {a1 a2 a3 s0 : Int} {w : WS} (hf : f_X9_term_96   a1 a2 a3 s0 w = some q) : VV G E 0 0 96 [(0, gr G 85), (1, vi a1), (2, vi a2), (3, vi a3)] [vi s0, gr G 85] w := by
  unfold f_X9_term_96 at hf
  refine V_iconst X dX9_term_96 ?_
  refine V_cVI X hf [vi s0, vi 2] _ 2 (fun _ h => m_X9_fails h) ob_85 rfl tw_1580 tw_95 tw_1577 tw_1579 tw_38 dX9_term_97 ⟨by decide +kernel, by decide +kernel, by decide +kernel⟩ ⟨rfl, rfl⟩ ⟨Nat.le_of_ble_eq_true rfl, Nat.le_of_ble_eq_true rfl⟩ rfl (Nat.le_of_ble_eq_true rfl) ⟨Nat.zero_le _, Nat.zero_le _⟩ (fun r4 w4 hf => ?_)
  refine V_if_ne X (tgt := 125) dX9_term_100 (by decide) hf (fun hf => ?_) (fun hf => ?_)
  · refine V_gload_n X dX9_term_103 rfl rfl ?_
    refine V_gload_n X dX9_term_104 rfl rfl ?_
    refine V_geti X ob_85 rfl rfl hin_X9 15 (Nat.le_of_ble_eq_true rfl) tw_1331 rfl dX9_term_105 ?_
    refine V_bipush X dX9_term_108 (by decide) ?_
    refine V_icmp_ne X (tgt := 117) dX9_term_110 (by decide) hf (fun hf => ?_) (fun hf => ?_)
    · refine V_iconst X dX9_term_113 ?_
      refine V_goto X (tgt := 118) dX9_term_114 (by decide) ?_
      exact V_cut [0, 1, 2, 3] rfl (v_X9_term_118 X hE hf)
    · refine V_iconst X dX9_term_117 ?_
      exact V_cut [0, 1, 2, 3] rfl (v_X9_term_118 X hE hf)
  · refine V_iconst X dX9_term_125 ?_
    exact V_iret X hE dX9_term_126 hf
set_option maxRecDepth 20000 in
theorem v_X9_term_78 {G : GG} {E : EE} (X : Cx G E cX9_term RX9 (some .int) rmX9_term 6) {q : (Int × WS)} (hE : EndI G E q)   {a1 a2 a3 a5 s0 : Int} {w : WS} (hf : f_X9_term_78   a1 a2 a3 a5 s0 w = some q) : VV G E 0 0 78 [(0, gr G 85), (1, vi a1), (2, vi a2), (3, vi a3), (5, vi a5)] [vi s0, gr G 85] w := by
  unfold f_X9_term_78 at hf
  refine V_iconst X dX9_term_78 ?_
  refine V_cVI X hf [vi s0, vi 1] _ 2 (fun _ h => m_X9_fails h) ob_85 rfl tw_1580 tw_95 tw_1577 tw_1579 tw_38 dX9_term_79 ⟨by decide +kernel, by decide +kernel, by decide +kernel⟩ ⟨rfl, rfl⟩ ⟨Nat.le_of_ble_eq_true rfl, Nat.le_of_ble_eq_true rfl⟩ rfl (Nat.le_of_ble_eq_true rfl) ⟨Nat.zero_le _, Nat.zero_le _⟩ (fun r3 w3 hf => ?_)
  refine V_if_ne X (tgt := 125) dX9_term_82 (by decide) hf (fun hf => ?_) (fun hf => ?_)
  · refine V_gload_n X dX9_term_85 rfl rfl ?_
    refine V_iload X dX9_term_86 rfl ?_
    refine V_if_ne X (tgt := 95) dX9_term_88 (by decide) hf (fun hf => ?_) (fun hf => ?_)
    · refine V_iconst X dX9_term_91 ?_
      refine V_goto X (tgt := 96) dX9_term_92 (by decide) ?_
      exact V_cut [0, 1, 2, 3] rfl (v_X9_term_96 X hE hf)
    · refine V_iconst X dX9_term_95 ?_
      exact V_cut [0, 1, 2, 3] rfl (v_X9_term_96 X hE hf)
  · refine V_iconst X dX9_term_125 ?_
    exact V_iret X hE dX9_term_126 hf
set_option maxRecDepth 20000 in
theorem v_X9_term_65 {G : GG} {E : EE} (X : Cx G E cX9_term RX9 (some .int) rmX9_term 6) {q : (Int × WS)} (hE : EndI G E q)   {a1 a2 a3 a4 s0 : Int} {w : WS} (hf : f_X9_term_65   a1 a2 a3 a4 s0 w = some q) : VV G E 0 0 65 [(0, gr G 85), (1, vi a1), (2, vi a2), (3, vi a3), (4, vi a4)] [vi s0] w := by
  unfold f_X9_term_65 at hf
  refine V_istore X dX9_term_65 (by decide) ?_
  refine V_gload_n X dX9_term_67 rfl rfl ?_
  refine V_iload X dX9_term_68 rfl ?_
  refine V_if_ne X (tgt := 77) dX9_term_70 (by decide) hf (fun hf => ?_) (fun hf => ?_)
  · refine V_iconst X dX9_term_73 ?_
    refine V_goto X (tgt := 78) dX9_term_74 (by decide) ?_
    exact V_cut [0, 1, 2, 3, 5] rfl (v_X9_term_78 X hE hf)
  · refine V_iconst X dX9_term_77 ?_
    exact V_cut [0, 1, 2, 3, 5] rfl (v_X9_term_78 X hE hf)
set_option maxRecDepth 20000 in
theorem v_X9_term_64 {G : GG} {E : EE} (X : Cx G E cX9_term RX9 (some .int) rmX9_term 6) {q : (Int × WS)} (hE : EndI G E q)   {a1 a2 a3 a4 : Int} {w : WS} (hf : f_X9_term_64   a1 a2 a3 a4 w = some q) : VV G E 0 0 64 [(0, gr G 85), (1, vi a1), (2, vi a2), (3, vi a3), (4, vi a4)] [] w := by
  unfold f_X9_term_64 at hf
  refine V_iconst X dX9_term_64 ?_
  exact V_cut [0, 1, 2, 3, 4] rfl (v_X9_term_65 X hE hf)
set_option maxRecDepth 20000 in
theorem v_X9_term_60 {G : GG} {E : EE} (X : Cx G E cX9_term RX9 (some .int) rmX9_term 6) {q : (Int × WS)} (hE : EndI G E q)   {a1 a2 a3 a4 : Int} {w : WS} (hf : f_X9_term_60   a1 a2 a3 a4 w = some q) : VV G E 0 0 60 [(0, gr G 85), (1, vi a1), (2, vi a2), (3, vi a3), (4, vi a4)] [] w := by
  unfold f_X9_term_60 at hf
  refine V_iconst X dX9_term_60 ?_
  refine V_goto X (tgt := 65) dX9_term_61 (by decide) ?_
  exact V_cut [0, 1, 2, 3, 4] rfl (v_X9_term_65 X hE hf)
set_option maxRecDepth 20000 in
theorem m_X9_term {G : GG} {a1 : Int} {a2 : Int} {a3 : Int} {w : WS} {q : (Int × WS)}  (hf : f_X9_term a1 a2 a3 w = some q) : MI G yX9_term cX9_term 6 (some .int) rmX9_term [gr G 85, vi a1, vi a2, vi a3] w q := by
  refine MI_of (by decide +kernel) (Nat.le_of_ble_eq_true rfl) (fun E X hE => ?_)
  have X : Cx G E cX9_term RX9 (some .int) rmX9_term 6 := X
  unfold f_X9_term at hf
  refine V_gload_n X dX9_term_0 rfl rfl ?_
  refine V_iconst X dX9_term_1 ?_
  refine V_puti X ob_85 rfl rfl hin_X9 0 (Nat.le_of_ble_eq_true rfl) tw_1316 tyX9 tyX9_ok nmX9 rfl (by decide +kernel) rfl dX9_term_2 ?_
  refine V_iload_n X dX9_term_5 rfl rfl ?_
  refine V_cSI X hf [vi a1] _ 1 (fun _ h => m_X9_termSort h) tw_1627 tw_95 tw_1625 tw_1626 dX9_term_6 ⟨by decide +kernel, by decide +kernel, by decide +kernel⟩ ⟨rfl, rfl⟩ ⟨Nat.le_of_ble_eq_true rfl, Nat.le_of_ble_eq_true rfl⟩ rfl (Nat.le_of_ble_eq_true rfl) ⟨Nat.zero_le _, Nat.zero_le _⟩ (fun r1 w1 hf => ?_)
  refine V_istore X dX9_term_9 (by decide) ?_
  refine V_iload X dX9_term_11 rfl ?_
  refine V_iconst X dX9_term_13 ?_
  refine V_icmp_ne X (tgt := 25) dX9_term_14 (by decide) hf (fun hf => ?_) (fun hf => ?_)
  · refine V_gload_n X dX9_term_17 rfl rfl ?_
    refine V_iload_n X dX9_term_18 rfl rfl ?_
    refine V_cVI X hf [vi a2] _ 1 (fun _ h => m_X9_isText h) ob_85 rfl tw_1615 tw_95 tw_1612 tw_1614 tw_39 dX9_term_19 ⟨by decide +kernel, by decide +kernel, by decide +kernel⟩ ⟨rfl, rfl⟩ ⟨Nat.le_of_ble_eq_true rfl, Nat.le_of_ble_eq_true rfl⟩ rfl (Nat.le_of_ble_eq_true rfl) ⟨Nat.zero_le _, Nat.zero_le _⟩ (fun r2 w2 hf => ?_)
    refine V_goto X (tgt := 65) dX9_term_22 (by decide) ?_
    exact V_cut [0, 1, 2, 3, 4] rfl (v_X9_term_65 X hE hf)
  · refine V_iload X dX9_term_25 rfl ?_
    refine V_iconst X dX9_term_27 ?_
    refine V_icmp_ne X (tgt := 38) dX9_term_28 (by decide) hf (fun hf => ?_) (fun hf => ?_)
    · refine V_iload_n X dX9_term_31 rfl rfl ?_
      refine V_cSI X hf [vi a2] _ 1 (fun _ h => m_X9_isVariable h) tw_1595 tw_95 tw_1593 tw_1594 dX9_term_32 ⟨by decide +kernel, by decide +kernel, by decide +kernel⟩ ⟨rfl, rfl⟩ ⟨Nat.le_of_ble_eq_true rfl, Nat.le_of_ble_eq_true rfl⟩ rfl (Nat.le_of_ble_eq_true rfl) ⟨Nat.zero_le _, Nat.zero_le _⟩ (fun r6 w6 hf => ?_)
      refine V_goto X (tgt := 65) dX9_term_35 (by decide) ?_
      exact V_cut [0, 1, 2, 3, 4] rfl (v_X9_term_65 X hE hf)
    · refine V_gload_n X dX9_term_38 rfl rfl ?_
      refine V_iload_n X dX9_term_39 rfl rfl ?_
      refine V_cVI X hf [vi a2] _ 1 (fun _ h => m_X9_isTerm h) ob_85 rfl tw_1631 tw_95 tw_1628 tw_1630 tw_41 dX9_term_40 ⟨by decide +kernel, by decide +kernel, by decide +kernel⟩ ⟨rfl, rfl⟩ ⟨Nat.le_of_ble_eq_true rfl, Nat.le_of_ble_eq_true rfl⟩ rfl (Nat.le_of_ble_eq_true rfl) ⟨Nat.zero_le _, Nat.zero_le _⟩ (fun r7 w7 hf => ?_)
      refine V_if_eq X (tgt := 64) dX9_term_43 (by decide) hf (fun hf => ?_) (fun hf => ?_)
      · exact V_cut [0, 1, 2, 3, 4] rfl (v_X9_term_64 X hE hf)
      · refine V_iload X dX9_term_46 rfl ?_
        refine V_iconst X dX9_term_48 ?_
        refine V_icmp_eq X (tgt := 60) dX9_term_49 (by decide) hf (fun hf => ?_) (fun hf => ?_)
        · exact V_cut [0, 1, 2, 3, 4] rfl (v_X9_term_60 X hE hf)
        · refine V_gload_n X dX9_term_52 rfl rfl ?_
          refine V_iload_n X dX9_term_53 rfl rfl ?_
          refine V_cVI X hf [vi a3] _ 1 (fun _ h => m_X9_isTerm h) ob_85 rfl tw_1631 tw_95 tw_1628 tw_1630 tw_41 dX9_term_54 ⟨by decide +kernel, by decide +kernel, by decide +kernel⟩ ⟨rfl, rfl⟩ ⟨Nat.le_of_ble_eq_true rfl, Nat.le_of_ble_eq_true rfl⟩ rfl (Nat.le_of_ble_eq_true rfl) ⟨Nat.zero_le _, Nat.zero_le _⟩ (fun r8 w8 hf => ?_)
          refine V_if_eq X (tgt := 64) dX9_term_57 (by decide) hf (fun hf => ?_) (fun hf => ?_)
          · exact V_cut [0, 1, 2, 3, 4] rfl (v_X9_term_64 X hE hf)
          · exact V_cut [0, 1, 2, 3, 4] rfl (v_X9_term_60 X hE hf)
abbrev rmX9_isNumber : Room := { frames := 1, cells := 0, slots := 0, locals := 25 }
set_option maxRecDepth 20000 in
theorem v_X9_isNumber_49 {G : GG} {E : EE} (X : Cx G E cX9_isNumber RX9 (some .boolean) rmX9_isNumber 5) {q : (Int × WS)} (hE : EndI G E q)   : ∀ (n : Nat) (a1 a3 a4 : Int) (w : WS), f_X9_isNumber_49   n a1 a3 a4 w = some q → VV G E 0 0 49 [(0, gr G 85), (1, vi a1), (3, vi a3), (4, vi a4)] [] w := by
  intro n
  induction n with
  | zero => intro a1 a3 a4 w hf; cases hf
  | succ n ih =>
    intro a1 a3 a4 w hf
    rw [f_X9_isNumber_49_s] at hf
    refine V_iload X dX9_isNumber_49 rfl ?_
    refine V_gload_n X dX9_isNumber_51 rfl rfl ?_
    refine V_getr X ob_85 rfl rfl hin_X9 18 (Nat.le_of_ble_eq_true rfl) tw_1334 rfl dX9_isNumber_52 ?_
    refine V_iload_n X dX9_isNumber_55 rfl rfl ?_
    refine V_iald X ar_99 dX9_isNumber_56 hf (fun hf => ?_)
    refine V_icmp_ge X (tgt := 101) dX9_isNumber_57 (by decide) hf (fun hf => ?_) (fun hf => ?_)
    · refine V_iload_n X dX9_isNumber_60 rfl rfl ?_
      refine V_if_eq X (tgt := 93) dX9_isNumber_61 (by decide) hf (fun hf => ?_) (fun hf => ?_)
      · refine V_iconst X dX9_isNumber_93 ?_
        refine V_istore_n X dX9_isNumber_94 rfl (by decide) ?_
        refine V_iinc X dX9_isNumber_95 rfl (by decide) ?_
        refine V_goto X (tgt := 49) dX9_isNumber_98 (by decide) ?_
        exact V_cut [0, 1, 3, 4] rfl (ih _ _ _ _ hf)
      · refine V_gload_n X dX9_isNumber_64 rfl rfl ?_
        refine V_getr X ob_85 rfl rfl hin_X9 17 (Nat.le_of_ble_eq_true rfl) tw_1333 rfl dX9_isNumber_65 ?_
        refine V_bipush X dX9_isNumber_68 (by decide) ?_
        refine V_iload_n X dX9_isNumber_70 rfl rfl ?_
        refine V_imul X dX9_isNumber_71 ?_
        refine V_iload X dX9_isNumber_72 rfl ?_
        refine V_iadd X dX9_isNumber_74 ?_
        refine V_iald X ar_98 dX9_isNumber_75 hf (fun hf => ?_)
        refine V_i2l X dX9_isNumber_76 ?_
        refine V_ldc2 (a := 48) X tw_1700 dX9_isNumber_77 (by decide) ?_
        refine V_ldc2 (a := 57) X tw_1701 dX9_isNumber_80 (by decide) ?_
        refine V_cSI X hf [vl (wr (w 98 (wr ((60 * a1) + a4)).toNat)), vl 48, vl 57] _ 3 (fun _ h => m_X9_in h) tw_1574 tw_95 tw_1572 tw_1573 dX9_isNumber_83 ⟨by decide +kernel, by decide +kernel, by decide +kernel⟩ ⟨rfl, rfl⟩ ⟨Nat.le_of_ble_eq_true rfl, Nat.le_of_ble_eq_true rfl⟩ rfl (Nat.le_of_ble_eq_true rfl) ⟨Nat.zero_le _, Nat.zero_le _⟩ (fun r2 w2 hf => ?_)
        refine V_if_eq X (tgt := 93) dX9_isNumber_86 (by decide) hf (fun hf => ?_) (fun hf => ?_)
        · refine V_iconst X dX9_isNumber_93 ?_
          refine V_istore_n X dX9_isNumber_94 rfl (by decide) ?_
          refine V_iinc X dX9_isNumber_95 rfl (by decide) ?_
          refine V_goto X (tgt := 49) dX9_isNumber_98 (by decide) ?_
          exact V_cut [0, 1, 3, 4] rfl (ih _ _ _ _ hf)
        · refine V_iconst X dX9_isNumber_89 ?_
          refine V_goto X (tgt := 94) dX9_isNumber_90 (by decide) ?_
          refine V_istore_n X dX9_isNumber_94 rfl (by decide) ?_
          refine V_iinc X dX9_isNumber_95 rfl (by decide) ?_
          refine V_goto X (tgt := 49) dX9_isNumber_98 (by decide) ?_
          exact V_cut [0, 1, 3, 4] rfl (ih _ _ _ _ hf)
    · refine V_iload_n X dX9_isNumber_101 rfl rfl ?_
      obtain ⟨hz, hf⟩ := ite_n hf
      exact V_zret X hE dX9_isNumber_102 hz hf
set_option maxRecDepth 20000 in
theorem v_X9_isNumber_28 {G : GG} {E : EE} (X : Cx G E cX9_isNumber RX9 (some .boolean) rmX9_isNumber 5) {q : (Int × WS)} (hE : EndI G E q)   {a1 s0 : Int} {w : WS} (hf : f_X9_isNumber_28   a1 s0 w = some q) : VV G E 0 0 28 [(0, gr G 85), (1, vi a1)] [vi s0] w := by
  unfold f_X9_isNumber_28 at hf
  refine V_istore_n X dX9_isNumber_28 rfl (by decide) ?_
  refine V_gload_n X dX9_isNumber_29 rfl rfl ?_
  refine V_getr X ob_85 rfl rfl hin_X9 18 (Nat.le_of_ble_eq_true rfl) tw_1334 rfl dX9_isNumber_30 ?_
  refine V_iload_n X dX9_isNumber_33 rfl rfl ?_
  refine V_iald X ar_99 dX9_isNumber_34 hf (fun hf => ?_)
  refine V_iload_n X dX9_isNumber_35 rfl rfl ?_
  refine V_isub X dX9_isNumber_36 ?_
  refine V_i2l X dX9_isNumber_37 ?_
  refine V_lconst (a := 1) X dX9_isNumber_38 (by decide) ?_
  refine V_ldc2 (a := 9) X tw_1694 dX9_isNumber_39 (by decide) ?_
  refine V_cSI X hf [vl (wr ((w 99 (wr a1).toNat) - s0)), vl 1, vl 9] _ 3 (fun _ h => m_X9_in h) tw_1574 tw_95 tw_1572 tw_1573 dX9_isNumber_42 ⟨by decide +kernel, by decide +kernel, by decide +kernel⟩ ⟨rfl, rfl⟩ ⟨Nat.le_of_ble_eq_true rfl, Nat.le_of_ble_eq_true rfl⟩ rfl (Nat.le_of_ble_eq_true rfl) ⟨Nat.zero_le _, Nat.zero_le _⟩ (fun r1 w1 hf => ?_)
  refine V_istore_n X dX9_isNumber_45 rfl (by decide) ?_
  refine V_iload_n X dX9_isNumber_46 rfl rfl ?_
  refine V_istore X dX9_isNumber_47 (by decide) ?_
  exact V_cut [0, 1, 3, 4] rfl (v_X9_isNumber_49 X hE FU _ _ _ _ hf)
set_option maxRecDepth 20000 in
theorem v_X9_isNumber_27 {G : GG} {E : EE} (X : Cx G E cX9_isNumber RX9 (some .boolean) rmX9_isNumber 5) {q : (Int × WS)} (hE : EndI G E q)   {a1 : Int} {w : WS} (hf : f_X9_isNumber_27   a1 w = some q) : VV G E 0 0 27 [(0, gr G 85), (1, vi a1)] [] w := by
  unfold f_X9_isNumber_27 at hf
  refine V_iconst X dX9_isNumber_27 ?_
  exact V_cut [0, 1] rfl (v_X9_isNumber_28 X hE hf)
set_option maxRecDepth 20000 in
theorem m_X9_isNumber {G : GG} {a1 : Int} {w : WS} {q : (Int × WS)}  (hf : f_X9_isNumber a1 w = some q) : MI G yX9_isNumber cX9_isNumber 5 (some .boolean) rmX9_isNumber [gr G 85, vi a1] w q := by
  refine MI_of (by decide +kernel) (Nat.le_of_ble_eq_true rfl) (fun E X hE => ?_)
  have X : Cx G E cX9_isNumber RX9 (some .boolean) rmX9_isNumber 5 := X
  unfold f_X9_isNumber at hf
  refine V_gload_n X dX9_isNumber_0 rfl rfl ?_
  refine V_getr X ob_85 rfl rfl hin_X9 18 (Nat.le_of_ble_eq_true rfl) tw_1334 rfl dX9_isNumber_1 ?_
  refine V_iload_n X dX9_isNumber_4 rfl rfl ?_
  refine V_iald X ar_99 dX9_isNumber_5 hf (fun hf => ?_)
  refine V_if_le X (tgt := 27) dX9_isNumber_6 (by decide) hf (fun hf => ?_) (fun hf => ?_)
  · refine V_gload_n X dX9_isNumber_9 rfl rfl ?_
    refine V_getr X ob_85 rfl rfl hin_X9 17 (Nat.le_of_ble_eq_true rfl) tw_1333 rfl dX9_isNumber_10 ?_
    refine V_bipush X dX9_isNumber_13 (by decide) ?_
    refine V_iload_n X dX9_isNumber_15 rfl rfl ?_
    refine V_imul X dX9_isNumber_16 ?_
    refine V_iald X ar_98 dX9_isNumber_17 hf (fun hf => ?_)
    refine V_bipush X dX9_isNumber_18 (by decide) ?_
    refine V_icmp_ne X (tgt := 27) dX9_isNumber_20 (by decide) hf (fun hf => ?_) (fun hf => ?_)
    · refine V_iconst X dX9_isNumber_23 ?_
      refine V_goto X (tgt := 28) dX9_isNumber_24 (by decide) ?_
      exact V_cut [0, 1] rfl (v_X9_isNumber_28 X hE hf)
    · exact V_cut [0, 1] rfl (v_X9_isNumber_27 X hE hf)
  · exact V_cut [0, 1] rfl (v_X9_isNumber_27 X hE hf)
abbrev rmX9_numberOf : Room := { frames := 0, cells := 0, slots := 0, locals := 0 }
set_option maxRecDepth 20000 in
theorem v_X9_numberOf_35 {G : GG} {E : EE} (X : Cx G E cX9_numberOf RX9 (some .long) rmX9_numberOf 6) {q : (Int × WS)} (hE : EndL G E q)   : ∀ (n : Nat) (a1 a2 a4 a5 : Int) (w : WS), f_X9_numberOf_35   n a1 a2 a4 a5 w = some q → VV G E 0 0 35 [(0, gr G 85), (1, vi a1), (2, vl a2), (4, vi a4), (5, vi a5)] [] w := by
  intro n
  induction n with
  | zero => intro a1 a2 a4 a5 w hf; cases hf
  | succ n ih =>
    intro a1 a2 a4 a5 w hf
    rw [f_X9_numberOf_35_s] at hf
    refine V_iload X dX9_numberOf_35 rfl ?_
    refine V_gload_n X dX9_numberOf_37 rfl rfl ?_
    refine V_getr X ob_85 rfl rfl hin_X9 18 (Nat.le_of_ble_eq_true rfl) tw_1334 rfl dX9_numberOf_38 ?_
    refine V_iload_n X dX9_numberOf_41 rfl rfl ?_
    refine V_iald X ar_99 dX9_numberOf_42 hf (fun hf => ?_)
    refine V_icmp_ge X (tgt := 76) dX9_numberOf_43 (by decide) hf (fun hf => ?_) (fun hf => ?_)
    · refine V_ldc2 (a := 10) X tw_1695 dX9_numberOf_46 (by decide) ?_
      refine V_lload_n X dX9_numberOf_49 rfl rfl ?_
      refine V_lmul X dX9_numberOf_50 ?_
      refine V_gload_n X dX9_numberOf_51 rfl rfl ?_
      refine V_getr X ob_85 rfl rfl hin_X9 17 (Nat.le_of_ble_eq_true rfl) tw_1333 rfl dX9_numberOf_52 ?_
      refine V_bipush X dX9_numberOf_55 (by decide) ?_
      refine V_iload_n X dX9_numberOf_57 rfl rfl ?_
      refine V_imul X dX9_numberOf_58 ?_
      refine V_iload X dX9_numberOf_59 rfl ?_
      refine V_iadd X dX9_numberOf_61 ?_
      refine V_iald X ar_98 dX9_numberOf_62 hf (fun hf => ?_)
      refine V_i2l X dX9_numberOf_63 ?_
      refine V_ladd X dX9_numberOf_64 ?_
      refine V_ldc2 (a := 48) X tw_1700 dX9_numberOf_65 (by decide) ?_
      refine V_lsub X dX9_numberOf_68 ?_
      refine V_lstore_n X dX9_numberOf_69 rfl (by decide) ?_
      refine V_iinc X dX9_numberOf_70 rfl (by decide) ?_
      refine V_goto X (tgt := 35) dX9_numberOf_73 (by decide) ?_
      exact V_cut [0, 1, 2, 4, 5] rfl (ih _ _ _ _ _ hf)
    · refine V_iload X dX9_numberOf_76 rfl ?_
      refine V_if_eq X (tgt := 86) dX9_numberOf_78 (by decide) hf (fun hf => ?_) (fun hf => ?_)
      · refine V_lload_n X dX9_numberOf_86 rfl rfl ?_
        exact V_lret X hE dX9_numberOf_87 hf
      · refine V_lload_n X dX9_numberOf_81 rfl rfl ?_
        refine V_lneg X dX9_numberOf_82 ?_
        refine V_goto X (tgt := 87) dX9_numberOf_83 (by decide) ?_
        exact V_lret X hE dX9_numberOf_87 hf
set_option maxRecDepth 20000 in
theorem v_X9_numberOf_21 {G : GG} {E : EE} (X : Cx G E cX9_numberOf RX9 (some .long) rmX9_numberOf 6) {q : (Int × WS)} (hE : EndL G E q)   {a1 a2 s0 : Int} {w : WS} (hf : f_X9_numberOf_21   a1 a2 s0 w = some q) : VV G E 0 0 21 [(0, gr G 85), (1, vi a1), (2, vl a2)] [vi s0] w := by
  unfold f_X9_numberOf_21 at hf
  refine V_istore X dX9_numberOf_21 (by decide) ?_
  refine V_iload X dX9_numberOf_23 rfl ?_
  refine V_if_eq X (tgt := 32) dX9_numberOf_25 (by decide) hf (fun hf => ?_) (fun hf => ?_)
  · refine V_iconst X dX9_numberOf_32 ?_
    refine V_istore X dX9_numberOf_33 (by decide) ?_
    exact V_cut [0, 1, 2, 4, 5] rfl (v_X9_numberOf_35 X hE FU _ _ _ _ _ hf)
  · refine V_iconst X dX9_numberOf_28 ?_
    refine V_goto X (tgt := 33) dX9_numberOf_29 (by decide) ?_
    refine V_istore X dX9_numberOf_33 (by decide) ?_
    exact V_cut [0, 1, 2, 4, 5] rfl (v_X9_numberOf_35 X hE FU _ _ _ _ _ hf)
set_option maxRecDepth 20000 in
theorem m_X9_numberOf {G : GG} {a1 : Int} {w : WS} {q : (Int × WS)}  (hf : f_X9_numberOf a1 w = some q) : ML G yX9_numberOf cX9_numberOf 6 (some .long) rmX9_numberOf [gr G 85, vi a1] w q := by
  refine ML_of (by decide +kernel) (Nat.le_of_ble_eq_true rfl) (fun E X hE => ?_)
  have X : Cx G E cX9_numberOf RX9 (some .long) rmX9_numberOf 6 := X
  unfold f_X9_numberOf at hf
  refine V_lconst (a := 0) X dX9_numberOf_0 (by decide) ?_
  refine V_lstore_n X dX9_numberOf_1 rfl (by decide) ?_
  refine V_gload_n X dX9_numberOf_2 rfl rfl ?_
  refine V_getr X ob_85 rfl rfl hin_X9 17 (Nat.le_of_ble_eq_true rfl) tw_1333 rfl dX9_numberOf_3 ?_
  refine V_bipush X dX9_numberOf_6 (by decide) ?_
  refine V_iload_n X dX9_numberOf_8 rfl rfl ?_
  refine V_imul X dX9_numberOf_9 ?_
  refine V_iald X ar_98 dX9_numberOf_10 hf (fun hf => ?_)
  refine V_bipush X dX9_numberOf_11 (by decide) ?_
  refine V_icmp_ne X (tgt := 20) dX9_numberOf_13 (by decide) hf (fun hf => ?_) (fun hf => ?_)
  · refine V_iconst X dX9_numberOf_16 ?_
    refine V_goto X (tgt := 21) dX9_numberOf_17 (by decide) ?_
    exact V_cut [0, 1, 2] rfl (v_X9_numberOf_21 X hE hf)
  · refine V_iconst X dX9_numberOf_20 ?_
    exact V_cut [0, 1, 2] rfl (v_X9_numberOf_21 X hE hf)
abbrev rmX9_putNumber : Room := { frames := 0, cells := 0, slots := 0, locals := 0 }
set_option maxRecDepth 20000 in
theorem v_X9_putNumber_84 {G : GG} {E : EE} (X : Cx G E cX9_putNumber RX9 (some .int) rmX9_putNumber 9) {q : (Int × WS)} (hE : EndI G E q)   : ∀ (n : Nat) (a1 a4 a6 a7 a8 : Int) (w : WS), f_X9_putNumber_84   n a1 a4 a6 a7 a8 w = some q → VV G E 0 0 84 [(0, gr G 85), (1, vi a1), (4, vl a4), (6, vi a6), (7, vi a7), (8, vi a8)] [] w := by
  intro n
  induction n with
  | zero => intro a1 a4 a6 a7 a8 w hf; cases hf
  | succ n ih =>
    intro a1 a4 a6 a7 a8 w hf
    rw [f_X9_putNumber_84_s] at hf
    refine V_iload X dX9_putNumber_84 rfl ?_
    refine V_if_lt X (tgt := 128) dX9_putNumber_86 (by decide) hf (fun hf => ?_) (fun hf => ?_)
    · refine V_gload_n X dX9_putNumber_128 rfl rfl ?_
      refine V_getr X ob_85 rfl rfl hin_X9 18 (Nat.le_of_ble_eq_true rfl) tw_1334 rfl dX9_putNumber_129 ?_
      refine V_iload_n X dX9_putNumber_132 rfl rfl ?_
      refine V_iload X dX9_putNumber_133 rfl ?_
      refine V_iload X dX9_putNumber_135 rfl ?_
      refine V_iadd X dX9_putNumber_137 ?_
      refine V_iast X ar_99 dX9_putNumber_138 hf (fun hf => ?_)
      refine V_iconst X dX9_putNumber_139 ?_
      exact V_iret X hE dX9_putNumber_140 hf
    · refine V_gload_n X dX9_putNumber_89 rfl rfl ?_
      refine V_getr X ob_85 rfl rfl hin_X9 17 (Nat.le_of_ble_eq_true rfl) tw_1333 rfl dX9_putNumber_90 ?_
      refine V_bipush X dX9_putNumber_93 (by decide) ?_
      refine V_iload_n X dX9_putNumber_95 rfl rfl ?_
      refine V_imul X dX9_putNumber_96 ?_
      refine V_iload X dX9_putNumber_97 rfl ?_
      refine V_iadd X dX9_putNumber_99 ?_
      refine V_iload X dX9_putNumber_100 rfl ?_
      refine V_iadd X dX9_putNumber_102 ?_
      refine V_bipush X dX9_putNumber_103 (by decide) ?_
      refine V_lload X dX9_putNumber_105 rfl ?_
      refine V_ldc2 (a := 10) X tw_1695 dX9_putNumber_107 (by decide) ?_
      obtain ⟨hne, hf⟩ := ite_n hf
      refine V_lrem X dX9_putNumber_110 hne ?_
      refine V_l2i X dX9_putNumber_111 ?_
      refine V_iadd X dX9_putNumber_112 ?_
      refine V_iast X ar_98 dX9_putNumber_113 hf (fun hf => ?_)
      refine V_lload X dX9_putNumber_114 rfl ?_
      refine V_ldc2 (a := 10) X tw_1695 dX9_putNumber_116 (by decide) ?_
      obtain ⟨hne, hf⟩ := ite_n hf
      refine V_ldiv X dX9_putNumber_119 hne ?_
      refine V_lstore X dX9_putNumber_120 (by decide) ?_
      refine V_iinc X dX9_putNumber_122 rfl (by decide) ?_
      refine V_goto X (tgt := 84) dX9_putNumber_125 (by decide) ?_
      exact V_cut [0, 1, 4, 6, 7, 8] rfl (ih _ _ _ _ _ _ hf)
set_option maxRecDepth 20000 in
theorem v_X9_putNumber_32 {G : GG} {E : EE} (X : Cx G E cX9_putNumber RX9 (some .int) rmX9_putNumber 9) {q : (Int × WS)} (hE : EndI G E q)   : ∀ (n : Nat) (a1 a2 a4 a6 a7 : Int) (w : WS), f_X9_putNumber_32   n a1 a2 a4 a6 a7 w = some q → VV G E 0 0 32 [(0, gr G 85), (1, vi a1), (2, vl a2), (4, vl a4), (6, vi a6), (7, vl a7)] [] w := by
  intro n
  induction n with
  | zero => intro a1 a2 a4 a6 a7 w hf; cases hf
  | succ n ih =>
    intro a1 a2 a4 a6 a7 w hf
    rw [f_X9_putNumber_32_s] at hf
    refine V_lload X dX9_putNumber_32 rfl ?_
    refine V_ldc2 (a := 9) X tw_1694 dX9_putNumber_34 (by decide) ?_
    refine V_lcmp_le X (tgt := 55) (pc2 := 38) dX9_putNumber_37 rfl dX9_putNumber_38 (by decide) hf (fun hf => ?_) (fun hf => ?_)
    · refine V_iinc X dX9_putNumber_41 rfl (by decide) ?_
      refine V_lload X dX9_putNumber_44 rfl ?_
      refine V_ldc2 (a := 10) X tw_1695 dX9_putNumber_46 (by decide) ?_
      obtain ⟨hne, hf⟩ := ite_n hf
      refine V_ldiv X dX9_putNumber_49 hne ?_
      refine V_lstore X dX9_putNumber_50 (by decide) ?_
      refine V_goto X (tgt := 32) dX9_putNumber_52 (by decide) ?_
      exact V_cut [0, 1, 2, 4, 6, 7] rfl (ih _ _ _ _ _ _ hf)
    · refine V_iconst X dX9_putNumber_55 ?_
      refine V_istore X dX9_putNumber_56 (by decide) ?_
      refine V_lload_n X dX9_putNumber_58 rfl rfl ?_
      refine V_lconst (a := 0) X dX9_putNumber_59 (by decide) ?_
      refine V_lcmp_ge X (tgt := 78) (pc2 := 61) dX9_putNumber_60 rfl dX9_putNumber_61 (by decide) hf (fun hf => ?_) (fun hf => ?_)
      · refine V_gload_n X dX9_putNumber_64 rfl rfl ?_
        refine V_getr X ob_85 rfl rfl hin_X9 17 (Nat.le_of_ble_eq_true rfl) tw_1333 rfl dX9_putNumber_65 ?_
        refine V_bipush X dX9_putNumber_68 (by decide) ?_
        refine V_iload_n X dX9_putNumber_70 rfl rfl ?_
        refine V_imul X dX9_putNumber_71 ?_
        refine V_bipush X dX9_putNumber_72 (by decide) ?_
        refine V_iast X ar_98 dX9_putNumber_74 hf (fun hf => ?_)
        refine V_iconst X dX9_putNumber_75 ?_
        refine V_istore X dX9_putNumber_76 (by decide) ?_
        refine V_iload X dX9_putNumber_78 rfl ?_
        refine V_iconst X dX9_putNumber_80 ?_
        refine V_isub X dX9_putNumber_81 ?_
        refine V_istore X dX9_putNumber_82 (by decide) ?_
        exact V_cut [0, 1, 4, 6, 7, 8] rfl (v_X9_putNumber_84 X hE FU _ _ _ _ _ _ hf)
      · refine V_iload X dX9_putNumber_78 rfl ?_
        refine V_iconst X dX9_putNumber_80 ?_
        refine V_isub X dX9_putNumber_81 ?_
        refine V_istore X dX9_putNumber_82 (by decide) ?_
        exact V_cut [0, 1, 4, 6, 7, 8] rfl (v_X9_putNumber_84 X hE FU _ _ _ _ _ _ hf)
set_option maxRecDepth 20000 in
theorem v_X9_putNumber_12 {G : GG} {E : EE} (X : Cx G E cX9_putNumber RX9 (some .int) rmX9_putNumber 9) {q : (Int × WS)} (hE : EndI G E q)   {a1 a2 s0 : Int} {w : WS} (hf : f_X9_putNumber_12   a1 a2 s0 w = some q) : VV G E 0 0 12 [(0, gr G 85), (1, vi a1), (2, vl a2)] [vl s0] w := by
  unfold f_X9_putNumber_12 at hf
  refine V_lstore X dX9_putNumber_12 (by decide) ?_
  refine V_lload X dX9_putNumber_14 rfl ?_
  refine V_ldc2 (a := 999999999) X tw_1693 dX9_putNumber_16 (by decide) ?_
  refine V_lcmp_le X (tgt := 25) (pc2 := 20) dX9_putNumber_19 rfl dX9_putNumber_20 (by decide) hf (fun hf => ?_) (fun hf => ?_)
  · refine V_iconst X dX9_putNumber_23 ?_
    exact V_iret X hE dX9_putNumber_24 hf
  · refine V_iconst X dX9_putNumber_25 ?_
    refine V_istore X dX9_putNumber_26 (by decide) ?_
    refine V_lload X dX9_putNumber_28 rfl ?_
    refine V_lstore X dX9_putNumber_30 (by decide) ?_
    exact V_cut [0, 1, 2, 4, 6, 7] rfl (v_X9_putNumber_32 X hE FU _ _ _ _ _ _ hf)
set_option maxRecDepth 20000 in
theorem m_X9_putNumber {G : GG} {a1 : Int} {a2 : Int} {w : WS} {q : (Int × WS)}  (hf : f_X9_putNumber a1 a2 w = some q) : MI G yX9_putNumber cX9_putNumber 9 (some .int) rmX9_putNumber [gr G 85, vi a1, vl a2] w q := by
  refine MI_of (by decide +kernel) (Nat.le_of_ble_eq_true rfl) (fun E X hE => ?_)
  have X : Cx G E cX9_putNumber RX9 (some .int) rmX9_putNumber 9 := X
  unfold f_X9_putNumber at hf
  refine V_lload_n X dX9_putNumber_0 rfl rfl ?_
  refine V_lconst (a := 0) X dX9_putNumber_1 (by decide) ?_
  refine V_lcmp_ge X (tgt := 11) (pc2 := 3) dX9_putNumber_2 rfl dX9_putNumber_3 (by decide) hf (fun hf => ?_) (fun hf => ?_)
  · refine V_lload_n X dX9_putNumber_6 rfl rfl ?_
    refine V_lneg X dX9_putNumber_7 ?_
    refine V_goto X (tgt := 12) dX9_putNumber_8 (by decide) ?_
    exact V_cut [0, 1, 2] rfl (v_X9_putNumber_12 X hE hf)
  · refine V_lload_n X dX9_putNumber_11 rfl rfl ?_
    exact V_cut [0, 1, 2] rfl (v_X9_putNumber_12 X hE hf)
abbrev rmX9_reckon : Room := { frames := 2, cells := 0, slots := 0, locals := 49 }
set_option maxRecDepth 20000 in
theorem v_X9_reckon_125 {G : GG} {E : EE} (X : Cx G E cX9_reckon RX9 (some .int) rmX9_reckon 9) {q : (Int × WS)} (hE : EndI G E q)   {s0 s1 : Int} {w : WS} (hf : f_X9_reckon_125   s0 s1 w = some q) : VV G E 0 0 125 [] [vl s0, vi s1, gr G 85] w := by
  unfold f_X9_reckon_125 at hf
  refine V_cVI X hf [vi s1, vl s0] _ 2 (fun _ h => m_X9_putNumber h) ob_85 rfl tw_1692 tw_95 tw_1689 tw_1691 tw_48 dX9_reckon_125 ⟨by decide +kernel, by decide +kernel, by decide +kernel⟩ ⟨rfl, rfl⟩ ⟨Nat.le_of_ble_eq_true rfl, Nat.le_of_ble_eq_true rfl⟩ rfl (Nat.le_of_ble_eq_true rfl) ⟨Nat.zero_le _, Nat.zero_le _⟩ (fun r5 w5 hf => ?_)
  exact V_iret X hE dX9_reckon_128 hf
set_option maxRecDepth 20000 in
theorem v_X9_reckon_76 {G : GG} {E : EE} (X : Cx G E cX9_reckon RX9 (some .int) rmX9_reckon 9) {q : (Int × WS)} (hE : EndI G E q)   {a1 a2 a5 a7 : Int} {w : WS} (hf : f_X9_reckon_76   a1 a2 a5 a7 w = some q) : VV G E 0 0 76 [(0, gr G 85), (1, vi a1), (2, vi a2), (5, vl a5), (7, vl a7)] [] w := by
  unfold f_X9_reckon_76 at hf
  refine V_gload_n X dX9_reckon_76 rfl rfl ?_
  refine V_iload_n X dX9_reckon_77 rfl rfl ?_
  refine V_iload_n X dX9_reckon_78 rfl rfl ?_
  refine V_bipush X dX9_reckon_79 (by decide) ?_
  refine V_icmp_ne X (tgt := 92) dX9_reckon_81 (by decide) hf (fun hf => ?_) (fun hf => ?_)
  · refine V_lload X dX9_reckon_84 rfl ?_
    refine V_lload X dX9_reckon_86 rfl ?_
    refine V_ladd X dX9_reckon_88 ?_
    refine V_goto X (tgt := 125) dX9_reckon_89 (by decide) ?_
    exact V_cut [] rfl (v_X9_reckon_125 X hE hf)
  · refine V_iload_n X dX9_reckon_92 rfl rfl ?_
    refine V_bipush X dX9_reckon_93 (by decide) ?_
    refine V_icmp_ne X (tgt := 106) dX9_reckon_95 (by decide) hf (fun hf => ?_) (fun hf => ?_)
    · refine V_lload X dX9_reckon_98 rfl ?_
      refine V_lload X dX9_reckon_100 rfl ?_
      refine V_lsub X dX9_reckon_102 ?_
      refine V_goto X (tgt := 125) dX9_reckon_103 (by decide) ?_
      exact V_cut [] rfl (v_X9_reckon_125 X hE hf)
    · refine V_iload_n X dX9_reckon_106 rfl rfl ?_
      refine V_bipush X dX9_reckon_107 (by decide) ?_
      refine V_icmp_ne X (tgt := 120) dX9_reckon_109 (by decide) hf (fun hf => ?_) (fun hf => ?_)
      · refine V_lload X dX9_reckon_112 rfl ?_
        refine V_lload X dX9_reckon_114 rfl ?_
        refine V_lmul X dX9_reckon_116 ?_
        refine V_goto X (tgt := 125) dX9_reckon_117 (by decide) ?_
        exact V_cut [] rfl (v_X9_reckon_125 X hE hf)
      · refine V_lload X dX9_reckon_120 rfl ?_
        refine V_lload X dX9_reckon_122 rfl ?_
        obtain ⟨hne, hf⟩ := ite_n hf
        refine V_ldiv X dX9_reckon_124 hne ?_
        exact V_cut [] rfl (v_X9_reckon_125 X hE hf)
set_option maxRecDepth 20000 in
theorem m_X9_reckon {G : GG} {a1 : Int} {a2 : Int} {a3 : Int} {a4 : Int} {w : WS} {q : (Int × WS)}  (hf : f_X9_reckon a1 a2 a3 a4 w = some q) : MI G yX9_reckon cX9_reckon 9 (some .int) rmX9_reckon [gr G 85, vi a1, vi a2, vi a3, vi a4] w q := by
  refine MI_of (by decide +kernel) (Nat.le_of_ble_eq_true rfl) (fun E X hE => ?_)
  have X : Cx G E cX9_reckon RX9 (some .int) rmX9_reckon 9 := X
  unfold f_X9_reckon at hf
  refine V_gload_n X dX9_reckon_0 rfl rfl ?_
  refine V_iload_n X dX9_reckon_1 rfl rfl ?_
  refine V_cVI X hf [vi a3] _ 1 (fun _ h => m_X9_isNumber h) ob_85 rfl tw_1699 tw_95 tw_1696 tw_1698 tw_49 dX9_reckon_2 ⟨by decide +kernel, by decide +kernel, by decide +kernel⟩ ⟨rfl, rfl⟩ ⟨Nat.le_of_ble_eq_true rfl, Nat.le_of_ble_eq_true rfl⟩ rfl (Nat.le_of_ble_eq_true rfl) ⟨Nat.zero_le _, Nat.zero_le _⟩ (fun r1 w1 hf => ?_)
  refine V_if_eq X (tgt := 17) dX9_reckon_5 (by decide) hf (fun hf => ?_) (fun hf => ?_)
  · refine V_iconst X dX9_reckon_17 ?_
    exact V_iret X hE dX9_reckon_18 hf
  · refine V_gload_n X dX9_reckon_8 rfl rfl ?_
    refine V_iload X dX9_reckon_9 rfl ?_
    refine V_cVI X hf [vi a4] _ 1 (fun _ h => m_X9_isNumber h) ob_85 rfl tw_1699 tw_95 tw_1696 tw_1698 tw_49 dX9_reckon_11 ⟨by decide +kernel, by decide +kernel, by decide +kernel⟩ ⟨rfl, rfl⟩ ⟨Nat.le_of_ble_eq_true rfl, Nat.le_of_ble_eq_true rfl⟩ rfl (Nat.le_of_ble_eq_true rfl) ⟨Nat.zero_le _, Nat.zero_le _⟩ (fun r2 w2 hf => ?_)
    refine V_if_ne X (tgt := 19) dX9_reckon_14 (by decide) hf (fun hf => ?_) (fun hf => ?_)
    · refine V_iconst X dX9_reckon_17 ?_
      exact V_iret X hE dX9_reckon_18 hf
    · refine V_gload_n X dX9_reckon_19 rfl rfl ?_
      refine V_iload_n X dX9_reckon_20 rfl rfl ?_
      refine V_cVL X hf [vi a3] _ 1 (fun _ h => m_X9_numberOf h) ob_85 rfl tw_1705 tw_95 tw_1702 tw_1704 tw_50 dX9_reckon_21 ⟨by decide +kernel, by decide +kernel, by decide +kernel⟩ ⟨rfl, rfl⟩ ⟨Nat.le_of_ble_eq_true rfl, Nat.le_of_ble_eq_true rfl⟩ rfl (Nat.le_of_ble_eq_true rfl) ⟨Nat.zero_le _, Nat.zero_le _⟩ (fun r3 w3 hf => ?_)
      refine V_lstore X dX9_reckon_24 (by decide) ?_
      refine V_gload_n X dX9_reckon_26 rfl rfl ?_
      refine V_iload X dX9_reckon_27 rfl ?_
      refine V_cVL X hf [vi a4] _ 1 (fun _ h => m_X9_numberOf h) ob_85 rfl tw_1705 tw_95 tw_1702 tw_1704 tw_50 dX9_reckon_29 ⟨by decide +kernel, by decide +kernel, by decide +kernel⟩ ⟨rfl, rfl⟩ ⟨Nat.le_of_ble_eq_true rfl, Nat.le_of_ble_eq_true rfl⟩ rfl (Nat.le_of_ble_eq_true rfl) ⟨Nat.zero_le _, Nat.zero_le _⟩ (fun r4 w4 hf => ?_)
      refine V_lstore X dX9_reckon_32 (by decide) ?_
      refine V_iload_n X dX9_reckon_34 rfl rfl ?_
      refine V_bipush X dX9_reckon_35 (by decide) ?_
      refine V_icmp_ne X (tgt := 61) dX9_reckon_37 (by decide) hf (fun hf => ?_) (fun hf => ?_)
      · refine V_gload_n X dX9_reckon_40 rfl rfl ?_
        refine V_getr X ob_85 rfl rfl hin_X9 18 (Nat.le_of_ble_eq_true rfl) tw_1334 rfl dX9_reckon_41 ?_
        refine V_iload_n X dX9_reckon_44 rfl rfl ?_
        refine V_iconst X dX9_reckon_45 ?_
        refine V_iast X ar_99 dX9_reckon_46 hf (fun hf => ?_)
        refine V_lload X dX9_reckon_47 rfl ?_
        refine V_lload X dX9_reckon_49 rfl ?_
        refine V_lcmp_ge X (tgt := 59) (pc2 := 52) dX9_reckon_51 rfl dX9_reckon_52 (by decide) hf (fun hf => ?_) (fun hf => ?_)
        · refine V_iconst X dX9_reckon_55 ?_
          refine V_goto X (tgt := 60) dX9_reckon_56 (by decide) ?_
          exact V_iret X hE dX9_reckon_60 hf
        · refine V_iconst X dX9_reckon_59 ?_
          exact V_iret X hE dX9_reckon_60 hf
      · refine V_iload_n X dX9_reckon_61 rfl rfl ?_
        refine V_bipush X dX9_reckon_62 (by decide) ?_
        refine V_icmp_ne X (tgt := 76) dX9_reckon_64 (by decide) hf (fun hf => ?_) (fun hf => ?_)
        · refine V_lload X dX9_reckon_67 rfl ?_
          refine V_lconst (a := 0) X dX9_reckon_69 (by decide) ?_
          refine V_lcmp_ne X (tgt := 76) (pc2 := 71) dX9_reckon_70 rfl dX9_reckon_71 (by decide) hf (fun hf => ?_) (fun hf => ?_)
          · refine V_iconst X dX9_reckon_74 ?_
            exact V_iret X hE dX9_reckon_75 hf
          · exact V_cut [0, 1, 2, 5, 7] rfl (v_X9_reckon_76 X hE hf)
        · exact V_cut [0, 1, 2, 5, 7] rfl (v_X9_reckon_76 X hE hf)
abbrev rmX9_append : Room := { frames := 0, cells := 0, slots := 0, locals := 0 }
set_option maxRecDepth 20000 in
theorem v_X9_append_2 {G : GG} {E : EE} (X : Cx G E cX9_append RX9 none rmX9_append 4) {q : (Int × WS)} (hE : EndV G E q)   : ∀ (n : Nat) (a1 a2 a3 : Int) (w : WS), f_X9_append_2   n a1 a2 a3 w = some q → VV G E 0 0 2 [(0, gr G 85), (1, vi a1), (2, vi a2), (3, vi a3)] [] w := by
  intro n
  induction n with
  | zero => intro a1 a2 a3 w hf; cases hf
  | succ n ih =>
    intro a1 a2 a3 w hf
    rw [f_X9_append_2_s] at hf
    refine V_iload_n X dX9_append_2 rfl rfl ?_
    refine V_gload_n X dX9_append_3 rfl rfl ?_
    refine V_getr X ob_85 rfl rfl hin_X9 18 (Nat.le_of_ble_eq_true rfl) tw_1334 rfl dX9_append_4 ?_
    refine V_iload_n X dX9_append_7 rfl rfl ?_
    refine V_iald X ar_99 dX9_append_8 hf (fun hf => ?_)
    refine V_icmp_ge X (tgt := 55) dX9_append_9 (by decide) hf (fun hf => ?_) (fun hf => ?_)
    · refine V_gload_n X dX9_append_12 rfl rfl ?_
      refine V_getr X ob_85 rfl rfl hin_X9 17 (Nat.le_of_ble_eq_true rfl) tw_1333 rfl dX9_append_13 ?_
      refine V_bipush X dX9_append_16 (by decide) ?_
      refine V_iload_n X dX9_append_18 rfl rfl ?_
      refine V_imul X dX9_append_19 ?_
      refine V_gload_n X dX9_append_20 rfl rfl ?_
      refine V_getr X ob_85 rfl rfl hin_X9 18 (Nat.le_of_ble_eq_true rfl) tw_1334 rfl dX9_append_21 ?_
      refine V_iload_n X dX9_append_24 rfl rfl ?_
      refine V_iald X ar_99 dX9_append_25 hf (fun hf => ?_)
      refine V_iadd X dX9_append_26 ?_
      refine V_gload_n X dX9_append_27 rfl rfl ?_
      refine V_getr X ob_85 rfl rfl hin_X9 17 (Nat.le_of_ble_eq_true rfl) tw_1333 rfl dX9_append_28 ?_
      refine V_bipush X dX9_append_31 (by decide) ?_
      refine V_iload_n X dX9_append_33 rfl rfl ?_
      refine V_imul X dX9_append_34 ?_
      refine V_iload_n X dX9_append_35 rfl rfl ?_
      refine V_iadd X dX9_append_36 ?_
      refine V_iald X ar_98 dX9_append_37 hf (fun hf => ?_)
      refine V_iast X ar_98 dX9_append_38 hf (fun hf => ?_)
      refine V_gload_n X dX9_append_39 rfl rfl ?_
      refine V_getr X ob_85 rfl rfl hin_X9 18 (Nat.le_of_ble_eq_true rfl) tw_1334 rfl dX9_append_40 ?_
      refine V_iload_n X dX9_append_43 rfl rfl ?_
      refine V_dup2 X dX9_append_44 rfl rfl ?_
      refine V_iald X ar_99 dX9_append_45 hf (fun hf => ?_)
      refine V_iconst X dX9_append_46 ?_
      refine V_iadd X dX9_append_47 ?_
      refine V_iast X ar_99 dX9_append_48 hf (fun hf => ?_)
      refine V_iinc X dX9_append_49 rfl (by decide) ?_
      refine V_goto X (tgt := 2) dX9_append_52 (by decide) ?_
      exact V_cut [0, 1, 2, 3] rfl (ih _ _ _ _ hf)
    · exact V_vret X hE dX9_append_55 hf
set_option maxRecDepth 20000 in
theorem m_X9_append {G : GG} {a1 : Int} {a2 : Int} {w : WS} {q : (Int × WS)}  (hf : f_X9_append a1 a2 w = some q) : MV G yX9_append cX9_append 4 none rmX9_append [gr G 85, vi a1, vi a2] w q := by
  refine MV_of (by decide +kernel) (Nat.le_of_ble_eq_true rfl) (fun E X hE => ?_)
  have X : Cx G E cX9_append RX9 none rmX9_append 4 := X
  unfold f_X9_append at hf
  refine V_iconst X dX9_append_0 ?_
  refine V_istore_n X dX9_append_1 rfl (by decide) ?_
  exact V_cut [0, 1, 2, 3] rfl (v_X9_append_2 X hE FU _ _ _ _ hf)
