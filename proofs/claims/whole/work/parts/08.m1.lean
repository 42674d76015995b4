abbrev rmX1_get : Room := { frames := 0, cells := 0, slots := 0, locals := 0 }
set_option maxRecDepth 20000 in
theorem m_X1_get {G : GG} {i : Nat} {a1 : Int} {w : WS} {q : (Int × WS)} (hi : isX1 i) (hf : f_X1_get i a1 w = some q) : MI G yX1_get cX1_get 2 (some .int) rmX1_get [gr G i, vi a1] w q := by
  refine MI_of (by decide +kernel) (Nat.le_of_ble_eq_true rfl) (fun E X hE => ?_)
  have X : Cx G E cX1_get RX1 (some .int) rmX1_get 2 := X
  unfold f_X1_get at hf
  refine V_iload_n X dX1_get_0 rfl rfl ?_
  refine V_if_lt X (tgt := 22) dX1_get_1 (by decide) hf (fun hf => ?_) (fun hf => ?_)
  · refine V_iconst X dX1_get_22 ?_
    exact V_iret X hE dX1_get_23 hf
  · refine V_iload_n X dX1_get_4 rfl rfl ?_
    refine V_gload_n X dX1_get_5 rfl rfl ?_
    refine V_getr X (ob_X1 hi) rfl rfl hin_X1 0 (Nat.le_of_ble_eq_true rfl) tw_149 (rr_X1_0 hi) dX1_get_6 ?_
    refine V_alen X (ar_X1_1 hi) (by decide) dX1_get_9 ?_
    refine V_icmp_ge X (tgt := 22) dX1_get_10 (by decide) hf (fun hf => ?_) (fun hf => ?_)
    · refine V_gload_n X dX1_get_13 rfl rfl ?_
      refine V_getr X (ob_X1 hi) rfl rfl hin_X1 0 (Nat.le_of_ble_eq_true rfl) tw_149 (rr_X1_0 hi) dX1_get_14 ?_
      refine V_iload_n X dX1_get_17 rfl rfl ?_
      refine V_iald X (ar_X1_1 hi) dX1_get_18 hf (fun hf => ?_)
      refine V_goto X (tgt := 23) dX1_get_19 (by decide) ?_
      exact V_iret X hE dX1_get_23 hf
    · refine V_iconst X dX1_get_22 ?_
      exact V_iret X hE dX1_get_23 hf
abbrev rmX1_put : Room := { frames := 0, cells := 0, slots := 0, locals := 0 }
set_option maxRecDepth 20000 in
theorem m_X1_put {G : GG} {i : Nat} {a1 : Int} {a2 : Int} {w : WS} {q : (Int × WS)} (hi : isX1 i) (hf : f_X1_put i a1 a2 w = some q) : MV G yX1_put cX1_put 3 none rmX1_put [gr G i, vi a1, vi a2] w q := by
  refine MV_of (by decide +kernel) (Nat.le_of_ble_eq_true rfl) (fun E X hE => ?_)
  have X : Cx G E cX1_put RX1 none rmX1_put 3 := X
  unfold f_X1_put at hf
  refine V_iload_n X dX1_put_0 rfl rfl ?_
  refine V_if_lt X (tgt := 20) dX1_put_1 (by decide) hf (fun hf => ?_) (fun hf => ?_)
  · exact V_vret X hE dX1_put_20 hf
  · refine V_iload_n X dX1_put_4 rfl rfl ?_
    refine V_gload_n X dX1_put_5 rfl rfl ?_
    refine V_getr X (ob_X1 hi) rfl rfl hin_X1 0 (Nat.le_of_ble_eq_true rfl) tw_149 (rr_X1_0 hi) dX1_put_6 ?_
    refine V_alen X (ar_X1_1 hi) (by decide) dX1_put_9 ?_
    refine V_icmp_ge X (tgt := 20) dX1_put_10 (by decide) hf (fun hf => ?_) (fun hf => ?_)
    · refine V_gload_n X dX1_put_13 rfl rfl ?_
      refine V_getr X (ob_X1 hi) rfl rfl hin_X1 0 (Nat.le_of_ble_eq_true rfl) tw_149 (rr_X1_0 hi) dX1_put_14 ?_
      refine V_iload_n X dX1_put_17 rfl rfl ?_
      refine V_iload_n X dX1_put_18 rfl rfl ?_
      refine V_iast X (ar_X1_1 hi) dX1_put_19 hf (fun hf => ?_)
      exact V_vret X hE dX1_put_20 hf
    · exact V_vret X hE dX1_put_20 hf
abbrev rmX1_increase : Room := { frames := 1, cells := 0, slots := 0, locals := 22 }
set_option maxRecDepth 20000 in
theorem m_X1_increase {G : GG} {i : Nat} {a1 : Int} {w : WS} {q : (Int × WS)} (hi : isX1 i) (hf : f_X1_increase i a1 w = some q) : MV G yX1_increase cX1_increase 2 none rmX1_increase [gr G i, vi a1] w q := by
  refine MV_of (by decide +kernel) (Nat.le_of_ble_eq_true rfl) (fun E X hE => ?_)
  have X : Cx G E cX1_increase RX1 none rmX1_increase 2 := X
  unfold f_X1_increase at hf
  refine V_gload_n X dX1_increase_0 rfl rfl ?_
  refine V_iload_n X dX1_increase_1 rfl rfl ?_
  refine V_gload_n X dX1_increase_2 rfl rfl ?_
  refine V_iload_n X dX1_increase_3 rfl rfl ?_
  refine V_cVI X hf [vi a1] _ 1 (fun _ h => m_X1_get hi h) (ob_X1 hi) rfl tw_500 tw_89 tw_497 tw_498 tw_499 dX1_increase_4 ⟨by decide +kernel, by decide +kernel, by decide +kernel⟩ ⟨rfl, rfl⟩ ⟨Nat.le_of_ble_eq_true rfl, Nat.le_of_ble_eq_true rfl⟩ rfl (Nat.le_of_ble_eq_true rfl) ⟨Nat.zero_le _, Nat.zero_le _⟩ (fun r1 w1 hf => ?_)
  refine V_iconst X dX1_increase_7 ?_
  refine V_iadd X dX1_increase_8 ?_
  refine V_cVV X hf [vi a1, vi (r1 + 1)] _ 2 (fun _ h => m_X1_put hi h) (ob_X1 hi) rfl tw_839 tw_89 tw_943 tw_837 tw_838 dX1_increase_9 ⟨by decide +kernel, by decide +kernel, by decide +kernel⟩ ⟨rfl, rfl⟩ ⟨Nat.le_of_ble_eq_true rfl, Nat.le_of_ble_eq_true rfl⟩ rfl (Nat.le_of_ble_eq_true rfl) ⟨Nat.zero_le _, Nat.zero_le _⟩ (fun r2 w2 hf => ?_)
  exact V_vret X hE dX1_increase_12 hf
abbrev rmX6_length : Room := { frames := 0, cells := 0, slots := 0, locals := 0 }
set_option maxRecDepth 20000 in
theorem m_X6_length {G : GG} {i : Nat} {a1 : Int} {w : WS} {q : (Int × WS)} (hi : isX6 i) (hf : f_X6_length i a1 w = some q) : MI G yX6_length cX6_length 2 (some .int) rmX6_length [gr G i, vi a1] w q := by
  refine MI_of (by decide +kernel) (Nat.le_of_ble_eq_true rfl) (fun E X hE => ?_)
  have X : Cx G E cX6_length RX6 (some .int) rmX6_length 2 := X
  unfold f_X6_length at hf
  refine V_iload_n X dX6_length_0 rfl rfl ?_
  refine V_if_lt X (tgt := 22) dX6_length_1 (by decide) hf (fun hf => ?_) (fun hf => ?_)
  · refine V_iconst X dX6_length_22 ?_
    exact V_iret X hE dX6_length_23 hf
  · refine V_iload_n X dX6_length_4 rfl rfl ?_
    refine V_gload_n X dX6_length_5 rfl rfl ?_
    refine V_getr X (ob_X6 hi) rfl rfl hin_X6 2 (Nat.le_of_ble_eq_true rfl) tw_128 (rr_X6_2 hi) dX6_length_6 ?_
    refine V_alen X (ar_X6_2 hi) (by decide) dX6_length_9 ?_
    refine V_icmp_ge X (tgt := 22) dX6_length_10 (by decide) hf (fun hf => ?_) (fun hf => ?_)
    · refine V_gload_n X dX6_length_13 rfl rfl ?_
      refine V_getr X (ob_X6 hi) rfl rfl hin_X6 2 (Nat.le_of_ble_eq_true rfl) tw_128 (rr_X6_2 hi) dX6_length_14 ?_
      refine V_iload_n X dX6_length_17 rfl rfl ?_
      refine V_iald X (ar_X6_2 hi) dX6_length_18 hf (fun hf => ?_)
      refine V_goto X (tgt := 23) dX6_length_19 (by decide) ?_
      exact V_iret X hE dX6_length_23 hf
    · refine V_iconst X dX6_length_22 ?_
      exact V_iret X hE dX6_length_23 hf
abbrev rmX6_sign : Room := { frames := 0, cells := 0, slots := 0, locals := 0 }
set_option maxRecDepth 20000 in
theorem m_X6_sign {G : GG} {i : Nat} {a1 : Int} {a2 : Int} {w : WS} {q : (Int × WS)} (hi : isX6 i) (hf : f_X6_sign i a1 a2 w = some q) : MI G yX6_sign cX6_sign 4 (some .int) rmX6_sign [gr G i, vi a1, vi a2] w q := by
  refine MI_of (by decide +kernel) (Nat.le_of_ble_eq_true rfl) (fun E X hE => ?_)
  have X : Cx G E cX6_sign RX6 (some .int) rmX6_sign 4 := X
  unfold f_X6_sign at hf
  refine V_iload_n X dX6_sign_0 rfl rfl ?_
  refine V_if_lt X (tgt := 27) dX6_sign_1 (by decide) hf (fun hf => ?_) (fun hf => ?_)
  · refine V_iconst X dX6_sign_27 ?_
    exact V_iret X hE dX6_sign_28 hf
  · refine V_iload_n X dX6_sign_4 rfl rfl ?_
    refine V_gload_n X dX6_sign_5 rfl rfl ?_
    refine V_getr X (ob_X6 hi) rfl rfl hin_X6 2 (Nat.le_of_ble_eq_true rfl) tw_128 (rr_X6_2 hi) dX6_sign_6 ?_
    refine V_alen X (ar_X6_2 hi) (by decide) dX6_sign_9 ?_
    refine V_icmp_ge X (tgt := 27) dX6_sign_10 (by decide) hf (fun hf => ?_) (fun hf => ?_)
    · refine V_iload_n X dX6_sign_13 rfl rfl ?_
      refine V_if_lt X (tgt := 27) dX6_sign_14 (by decide) hf (fun hf => ?_) (fun hf => ?_)
      · refine V_iconst X dX6_sign_27 ?_
        exact V_iret X hE dX6_sign_28 hf
      · refine V_iload_n X dX6_sign_17 rfl rfl ?_
        refine V_gload_n X dX6_sign_18 rfl rfl ?_
        refine V_getr X (ob_X6 hi) rfl rfl hin_X6 2 (Nat.le_of_ble_eq_true rfl) tw_128 (rr_X6_2 hi) dX6_sign_19 ?_
        refine V_iload_n X dX6_sign_22 rfl rfl ?_
        refine V_iald X (ar_X6_2 hi) dX6_sign_23 hf (fun hf => ?_)
        refine V_icmp_lt X (tgt := 29) dX6_sign_24 (by decide) hf (fun hf => ?_) (fun hf => ?_)
        · refine V_iload_n X dX6_sign_29 rfl rfl ?_
          refine V_gload_n X dX6_sign_30 rfl rfl ?_
          refine V_getc X (ob_X6 hi) rfl rfl hin_X6 0 (Nat.le_of_ble_eq_true rfl) tw_126 (rc_X6_0 hi) dX6_sign_31 ?_
          refine V_imul X dX6_sign_34 ?_
          refine V_iload_n X dX6_sign_35 rfl rfl ?_
          refine V_iadd X dX6_sign_36 ?_
          refine V_istore_n X dX6_sign_37 rfl (by decide) ?_
          refine V_iload_n X dX6_sign_38 rfl rfl ?_
          refine V_if_lt X (tgt := 60) dX6_sign_39 (by decide) hf (fun hf => ?_) (fun hf => ?_)
          · refine V_iconst X dX6_sign_60 ?_
            exact V_iret X hE dX6_sign_61 hf
          · refine V_iload_n X dX6_sign_42 rfl rfl ?_
            refine V_gload_n X dX6_sign_43 rfl rfl ?_
            refine V_getr X (ob_X6 hi) rfl rfl hin_X6 1 (Nat.le_of_ble_eq_true rfl) tw_127 (rr_X6_1 hi) dX6_sign_44 ?_
            refine V_alen X (ar_X6_1 hi) (by decide) dX6_sign_47 ?_
            refine V_icmp_ge X (tgt := 60) dX6_sign_48 (by decide) hf (fun hf => ?_) (fun hf => ?_)
            · refine V_gload_n X dX6_sign_51 rfl rfl ?_
              refine V_getr X (ob_X6 hi) rfl rfl hin_X6 1 (Nat.le_of_ble_eq_true rfl) tw_127 (rr_X6_1 hi) dX6_sign_52 ?_
              refine V_iload_n X dX6_sign_55 rfl rfl ?_
              refine V_iald X (ar_X6_1 hi) dX6_sign_56 hf (fun hf => ?_)
              refine V_goto X (tgt := 61) dX6_sign_57 (by decide) ?_
              exact V_iret X hE dX6_sign_61 hf
            · refine V_iconst X dX6_sign_60 ?_
              exact V_iret X hE dX6_sign_61 hf
        · refine V_iconst X dX6_sign_27 ?_
          exact V_iret X hE dX6_sign_28 hf
    · refine V_iconst X dX6_sign_27 ?_
      exact V_iret X hE dX6_sign_28 hf
abbrev rmX6_append : Room := { frames := 0, cells := 0, slots := 0, locals := 0 }
set_option maxRecDepth 20000 in
theorem v_X6_append_72 {G : GG} {E : EE} (X : Cx G E cX6_append RX6 (some .boolean) rmX6_append 12) {q : (Int × WS)} (hE : EndI G E q) {i : Nat} {j : Nat} (hi : isX6 i) (hj : isX6 j) : ∀ (n : Nat) (a1 a6 a7 a8 a9 : Int) (w : WS), f_X6_append_72 i j  n a1 a6 a7 a8 a9 w = some q → VV G E 0 0 72 [(0, gr G i), (1, vi a1), (2, gr G j), (6, vi a6), (7, vi a7), (8, vi a8), (9, vi a9)] [] w := by
  intro n
  induction n with
  | zero => intro a1 a6 a7 a8 a9 w hf; cases hf
  | succ n ih =>
    intro a1 a6 a7 a8 a9 w hf
    rw [f_X6_append_72_s] at hf
    refine V_iload X dX6_append_72 rfl ?_
    refine V_iload X dX6_append_74 rfl ?_
    refine V_icmp_ge X (tgt := 145) dX6_append_76 (by decide) hf (fun hf => ?_) (fun hf => ?_)
    · refine V_iload X dX6_append_79 rfl ?_
      refine V_iload X dX6_append_81 rfl ?_
      refine V_iadd X dX6_append_83 ?_
      refine V_istore X dX6_append_84 (by decide) ?_
      refine V_iload X dX6_append_86 rfl ?_
      refine V_iload X dX6_append_88 rfl ?_
      refine V_iadd X dX6_append_90 ?_
      refine V_istore X dX6_append_91 (by decide) ?_
      refine V_iload X dX6_append_93 rfl ?_
      refine V_if_lt X (tgt := 123) dX6_append_95 (by decide) hf (fun hf => ?_) (fun hf => ?_)
      · refine V_iconst X dX6_append_123 ?_
        exact V_zret X hE dX6_append_124 (Or.inl rfl) hf
      · refine V_iload X dX6_append_98 rfl ?_
        refine V_gload_n X dX6_append_100 rfl rfl ?_
        refine V_getr X (ob_X6 hi) rfl rfl hin_X6 1 (Nat.le_of_ble_eq_true rfl) tw_127 (rr_X6_1 hi) dX6_append_101 ?_
        refine V_alen X (ar_X6_1 hi) (by decide) dX6_append_104 ?_
        refine V_icmp_ge X (tgt := 123) dX6_append_105 (by decide) hf (fun hf => ?_) (fun hf => ?_)
        · refine V_iload X dX6_append_108 rfl ?_
          refine V_if_lt X (tgt := 123) dX6_append_110 (by decide) hf (fun hf => ?_) (fun hf => ?_)
          · refine V_iconst X dX6_append_123 ?_
            exact V_zret X hE dX6_append_124 (Or.inl rfl) hf
          · refine V_iload X dX6_append_113 rfl ?_
            refine V_gload_n X dX6_append_115 rfl rfl ?_
            refine V_getr X (ob_X6 hj) rfl rfl hin_X6 1 (Nat.le_of_ble_eq_true rfl) tw_127 (rr_X6_1 hj) dX6_append_116 ?_
            refine V_alen X (ar_X6_1 hj) (by decide) dX6_append_119 ?_
            refine V_icmp_lt X (tgt := 125) dX6_append_120 (by decide) hf (fun hf => ?_) (fun hf => ?_)
            · refine V_gload_n X dX6_append_125 rfl rfl ?_
              refine V_getr X (ob_X6 hi) rfl rfl hin_X6 1 (Nat.le_of_ble_eq_true rfl) tw_127 (rr_X6_1 hi) dX6_append_126 ?_
              refine V_iload X dX6_append_129 rfl ?_
              refine V_gload_n X dX6_append_131 rfl rfl ?_
              refine V_getr X (ob_X6 hj) rfl rfl hin_X6 1 (Nat.le_of_ble_eq_true rfl) tw_127 (rr_X6_1 hj) dX6_append_132 ?_
              refine V_iload X dX6_append_135 rfl ?_
              refine V_iald X (ar_X6_1 hj) dX6_append_137 hf (fun hf => ?_)
              refine V_iast X (ar_X6_1 hi) dX6_append_138 hf (fun hf => ?_)
              refine V_iinc X dX6_append_139 rfl (by decide) ?_
              refine V_goto X (tgt := 72) dX6_append_142 (by decide) ?_
              exact V_cut [0, 1, 2, 6, 7, 8, 9] rfl (ih _ _ _ _ _ _ hf)
            · refine V_iconst X dX6_append_123 ?_
              exact V_zret X hE dX6_append_124 (Or.inl rfl) hf
        · refine V_iconst X dX6_append_123 ?_
          exact V_zret X hE dX6_append_124 (Or.inl rfl) hf
    · refine V_gload_n X dX6_append_145 rfl rfl ?_
      refine V_getr X (ob_X6 hi) rfl rfl hin_X6 2 (Nat.le_of_ble_eq_true rfl) tw_128 (rr_X6_2 hi) dX6_append_146 ?_
      refine V_iload_n X dX6_append_149 rfl rfl ?_
      refine V_dup2 X dX6_append_150 rfl rfl ?_
      refine V_iald X (ar_X6_2 hi) dX6_append_151 hf (fun hf => ?_)
      refine V_iload X dX6_append_152 rfl ?_
      refine V_iadd X dX6_append_154 ?_
      refine V_iast X (ar_X6_2 hi) dX6_append_155 hf (fun hf => ?_)
      refine V_iconst X dX6_append_156 ?_
      exact V_zret X hE dX6_append_157 (Or.inr rfl) hf
set_option maxRecDepth 20000 in
theorem m_X6_append {G : GG} {i : Nat} {a1 : Int} {j : Nat} {a3 : Int} {a4 : Int} {a5 : Int} {w : WS} {q : (Int × WS)} (hi : isX6 i) (hj : isX6 j) (hf : f_X6_append i a1 j a3 a4 a5 w = some q) : MI G yX6_append cX6_append 12 (some .boolean) rmX6_append [gr G i, vi a1, gr G j, vi a3, vi a4, vi a5] w q := by
  refine MI_of (by decide +kernel) (Nat.le_of_ble_eq_true rfl) (fun E X hE => ?_)
  have X : Cx G E cX6_append RX6 (some .boolean) rmX6_append 12 := X
  unfold f_X6_append at hf
  refine V_iload X dX6_append_0 rfl ?_
  refine V_iload X dX6_append_2 rfl ?_
  refine V_isub X dX6_append_4 ?_
  refine V_istore X dX6_append_5 (by decide) ?_
  refine V_iload_n X dX6_append_7 rfl rfl ?_
  refine V_if_lt X (tgt := 41) dX6_append_8 (by decide) hf (fun hf => ?_) (fun hf => ?_)
  · refine V_iconst X dX6_append_41 ?_
    exact V_zret X hE dX6_append_42 (Or.inl rfl) hf
  · refine V_iload_n X dX6_append_11 rfl rfl ?_
    refine V_gload_n X dX6_append_12 rfl rfl ?_
    refine V_getr X (ob_X6 hi) rfl rfl hin_X6 2 (Nat.le_of_ble_eq_true rfl) tw_128 (rr_X6_2 hi) dX6_append_13 ?_
    refine V_alen X (ar_X6_2 hi) (by decide) dX6_append_16 ?_
    refine V_icmp_ge X (tgt := 41) dX6_append_17 (by decide) hf (fun hf => ?_) (fun hf => ?_)
    · refine V_iload X dX6_append_20 rfl ?_
      refine V_if_lt X (tgt := 41) dX6_append_22 (by decide) hf (fun hf => ?_) (fun hf => ?_)
      · refine V_iconst X dX6_append_41 ?_
        exact V_zret X hE dX6_append_42 (Or.inl rfl) hf
      · refine V_iload X dX6_append_25 rfl ?_
        refine V_gload_n X dX6_append_27 rfl rfl ?_
        refine V_getc X (ob_X6 hi) rfl rfl hin_X6 0 (Nat.le_of_ble_eq_true rfl) tw_126 (rc_X6_0 hi) dX6_append_28 ?_
        refine V_gload_n X dX6_append_31 rfl rfl ?_
        refine V_getr X (ob_X6 hi) rfl rfl hin_X6 2 (Nat.le_of_ble_eq_true rfl) tw_128 (rr_X6_2 hi) dX6_append_32 ?_
        refine V_iload_n X dX6_append_35 rfl rfl ?_
        refine V_iald X (ar_X6_2 hi) dX6_append_36 hf (fun hf => ?_)
        refine V_isub X dX6_append_37 ?_
        refine V_icmp_le X (tgt := 43) dX6_append_38 (by decide) hf (fun hf => ?_) (fun hf => ?_)
        · refine V_iconst X dX6_append_41 ?_
          exact V_zret X hE dX6_append_42 (Or.inl rfl) hf
        · refine V_iload_n X dX6_append_43 rfl rfl ?_
          refine V_gload_n X dX6_append_44 rfl rfl ?_
          refine V_getc X (ob_X6 hi) rfl rfl hin_X6 0 (Nat.le_of_ble_eq_true rfl) tw_126 (rc_X6_0 hi) dX6_append_45 ?_
          refine V_imul X dX6_append_48 ?_
          refine V_gload_n X dX6_append_49 rfl rfl ?_
          refine V_getr X (ob_X6 hi) rfl rfl hin_X6 2 (Nat.le_of_ble_eq_true rfl) tw_128 (rr_X6_2 hi) dX6_append_50 ?_
          refine V_iload_n X dX6_append_53 rfl rfl ?_
          refine V_iald X (ar_X6_2 hi) dX6_append_54 hf (fun hf => ?_)
          refine V_iadd X dX6_append_55 ?_
          refine V_istore X dX6_append_56 (by decide) ?_
          refine V_iload_n X dX6_append_58 rfl rfl ?_
          refine V_gload_n X dX6_append_59 rfl rfl ?_
          refine V_getc X (ob_X6 hj) rfl rfl hin_X6 0 (Nat.le_of_ble_eq_true rfl) tw_126 (rc_X6_0 hj) dX6_append_60 ?_
          refine V_imul X dX6_append_63 ?_
          refine V_iload X dX6_append_64 rfl ?_
          refine V_iadd X dX6_append_66 ?_
          refine V_istore X dX6_append_67 (by decide) ?_
          refine V_iconst X dX6_append_69 ?_
          refine V_istore X dX6_append_70 (by decide) ?_
          exact V_cut [0, 1, 2, 6, 7, 8, 9] rfl (v_X6_append_72 X hE hi hj FU _ _ _ _ _ _ hf)
    · refine V_iconst X dX6_append_41 ?_
      exact V_zret X hE dX6_append_42 (Or.inl rfl) hf
