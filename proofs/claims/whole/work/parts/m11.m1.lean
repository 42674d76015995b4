abbrev rmX6_length : Room := { frames := 0, cells := 0, slots := 0, locals := 0 }
set_option maxRecDepth 20000 in
theorem m_X6_length {G : GG} {i : Nat} {a1 : Int} {w : WS} {q : (Int × WS)} (hi : isX6 i) (hf : f_X6_length i a1 w = some q) : MI G yX6_length cX6_length 2 (some .int) rmX6_length [gr G i, vi a1] w q := by
  refine MI_of (by decide +kernel) (Nat.le_of_ble_eq_true rfl) (fun E X hE => ?_)
  have X : Cx G E cX6_length RX6 (some .int) rmX6_length 2 := X
  unfold f_X6_length at hf
  refine V_iload_n X dX6_length_0 rfl rfl ?_
  refine V_if_lt X (tgt := 22) dX6_length_1 (by decide) hf (fun hf => ?_) (fun hf => ?_)
  · refine V_iconst X dX6_length_22 ?_
    exact V_iret X hE dX6_length_23 hf
  · refine V_iload_n X dX6_length_4 rfl rfl ?_
    refine V_gload_n X dX6_length_5 rfl rfl ?_
    refine V_getr X (ob_X6 hi) rfl rfl hin_X6 2 (Nat.le_of_ble_eq_true rfl) tw_128 (rr_X6_2 hi) dX6_length_6 ?_
    refine V_alen X (ar_X6_2 hi) (by decide) dX6_length_9 ?_
    refine V_icmp_ge X (tgt := 22) dX6_length_10 (by decide) hf (fun hf => ?_) (fun hf => ?_)
    · refine V_gload_n X dX6_length_13 rfl rfl ?_
      refine V_getr X (ob_X6 hi) rfl rfl hin_X6 2 (Nat.le_of_ble_eq_true rfl) tw_128 (rr_X6_2 hi) dX6_length_14 ?_
      refine V_iload_n X dX6_length_17 rfl rfl ?_
      refine V_iald X (ar_X6_2 hi) dX6_length_18 hf (fun hf => ?_)
      refine V_goto X (tgt := 23) dX6_length_19 (by decide) ?_
      exact V_iret X hE dX6_length_23 hf
    · refine V_iconst X dX6_length_22 ?_
      exact V_iret X hE dX6_length_23 hf
abbrev rmX6_clear : Room := { frames := 0, cells := 0, slots := 0, locals := 0 }
set_option maxRecDepth 20000 in
theorem m_X6_clear {G : GG} {i : Nat} {a1 : Int} {w : WS} {q : (Int × WS)} (hi : isX6 i) (hf : f_X6_clear i a1 w = some q) : MV G yX6_clear cX6_clear 2 none rmX6_clear [gr G i, vi a1] w q := by
  refine MV_of (by decide +kernel) (Nat.le_of_ble_eq_true rfl) (fun E X hE => ?_)
  have X : Cx G E cX6_clear RX6 none rmX6_clear 2 := X
  unfold f_X6_clear at hf
  refine V_iload_n X dX6_clear_0 rfl rfl ?_
  refine V_if_lt X (tgt := 20) dX6_clear_1 (by decide) hf (fun hf => ?_) (fun hf => ?_)
  · exact V_vret X hE dX6_clear_20 hf
  · refine V_iload_n X dX6_clear_4 rfl rfl ?_
    refine V_gload_n X dX6_clear_5 rfl rfl ?_
    refine V_getr X (ob_X6 hi) rfl rfl hin_X6 2 (Nat.le_of_ble_eq_true rfl) tw_128 (rr_X6_2 hi) dX6_clear_6 ?_
    refine V_alen X (ar_X6_2 hi) (by decide) dX6_clear_9 ?_
    refine V_icmp_ge X (tgt := 20) dX6_clear_10 (by decide) hf (fun hf => ?_) (fun hf => ?_)
    · refine V_gload_n X dX6_clear_13 rfl rfl ?_
      refine V_getr X (ob_X6 hi) rfl rfl hin_X6 2 (Nat.le_of_ble_eq_true rfl) tw_128 (rr_X6_2 hi) dX6_clear_14 ?_
      refine V_iload_n X dX6_clear_17 rfl rfl ?_
      refine V_iconst X dX6_clear_18 ?_
      refine V_iast X (ar_X6_2 hi) dX6_clear_19 hf (fun hf => ?_)
      exact V_vret X hE dX6_clear_20 hf
    · exact V_vret X hE dX6_clear_20 hf
abbrev rmX8_wipe : Room := { frames := 1, cells := 0, slots := 0, locals := 21 }
set_option maxRecDepth 20000 in
theorem m_X8_wipe {G : GG}  {w : WS} {q : (Int × WS)}  (hf : f_X8_wipe  w = some q) : MI G yX8_wipe cX8_wipe 2 (some .int) rmX8_wipe [gr G 0] w q := by
  refine MI_of (by decide +kernel) (Nat.le_of_ble_eq_true rfl) (fun E X hE => ?_)
  have X : Cx G E cX8_wipe RX8 (some .int) rmX8_wipe 2 := X
  unfold f_X8_wipe at hf
  refine V_gload_n X dX8_wipe_0 rfl rfl ?_
  refine V_getr X ob_0 rfl rfl hin_X8 0 (Nat.le_of_ble_eq_true rfl) tw_401 rfl dX8_wipe_1 ?_
  refine V_iconst X dX8_wipe_4 ?_
  refine V_cVI X hf [vi 0] _ 1 (fun _ h => m_X6_length is_1 h) ob_1 rfl tw_466 tw_87 tw_463 tw_464 tw_465 dX8_wipe_5 ⟨by decide +kernel, by decide +kernel, by decide +kernel⟩ ⟨rfl, rfl⟩ ⟨Nat.le_of_ble_eq_true rfl, Nat.le_of_ble_eq_true rfl⟩ rfl (Nat.le_of_ble_eq_true rfl) ⟨Nat.zero_le _, Nat.zero_le _⟩ (fun r1 w1 hf => ?_)
  refine V_istore_n X dX8_wipe_8 rfl (by decide) ?_
  refine V_gload_n X dX8_wipe_9 rfl rfl ?_
  refine V_getr X ob_0 rfl rfl hin_X8 0 (Nat.le_of_ble_eq_true rfl) tw_401 rfl dX8_wipe_10 ?_
  refine V_iconst X dX8_wipe_13 ?_
  refine V_cVV X hf [vi 0] _ 1 (fun _ h => m_X6_clear is_1 h) ob_1 rfl tw_470 tw_87 tw_467 tw_468 tw_469 dX8_wipe_14 ⟨by decide +kernel, by decide +kernel, by decide +kernel⟩ ⟨rfl, rfl⟩ ⟨Nat.le_of_ble_eq_true rfl, Nat.le_of_ble_eq_true rfl⟩ rfl (Nat.le_of_ble_eq_true rfl) ⟨Nat.zero_le _, Nat.zero_le _⟩ (fun r2 w2 hf => ?_)
  refine V_iload_n X dX8_wipe_17 rfl rfl ?_
  exact V_iret X hE dX8_wipe_18 hf
abbrev rmX8_anchor : Room := { frames := 0, cells := 0, slots := 0, locals := 0 }
set_option maxRecDepth 20000 in
theorem m_X8_anchor {G : GG} {a1 : Int} {w : WS} {q : (Int × WS)}  (hf : f_X8_anchor a1 w = some q) : MI G yX8_anchor cX8_anchor 3 (some .boolean) rmX8_anchor [gr G 0, vi a1] w q := by
  refine MI_of (by decide +kernel) (Nat.le_of_ble_eq_true rfl) (fun E X hE => ?_)
  have X : Cx G E cX8_anchor RX8 (some .boolean) rmX8_anchor 3 := X
  unfold f_X8_anchor at hf
  refine V_gload_n X dX8_anchor_0 rfl rfl ?_
  refine V_geti X ob_0 rfl rfl hin_X8 12 (Nat.le_of_ble_eq_true rfl) tw_413 rfl dX8_anchor_1 ?_
  refine V_istore_n X dX8_anchor_4 rfl (by decide) ?_
  refine V_gload_n X dX8_anchor_5 rfl rfl ?_
  refine V_iload_n X dX8_anchor_6 rfl rfl ?_
  obtain ⟨hz, hf⟩ := ite_n hf
  refine V_putz X ob_0 rfl rfl hin_X8 12 (Nat.le_of_ble_eq_true rfl) tw_413 tyX8 tyX8_ok nmX8 rfl (by decide +kernel) hz rfl dX8_anchor_7 ?_
  refine V_iload_n X dX8_anchor_10 rfl rfl ?_
  obtain ⟨hz, hf⟩ := ite_n hf
  exact V_zret X hE dX8_anchor_11 hz hf
abbrev rmX8_statements : Room := { frames := 0, cells := 0, slots := 0, locals := 0 }
set_option maxRecDepth 20000 in
theorem m_X8_statements {G : GG}  {w : WS} {q : (Int × WS)}  (hf : f_X8_statements  w = some q) : MI G yX8_statements cX8_statements 1 (some .int) rmX8_statements [gr G 0] w q := by
  refine MI_of (by decide +kernel) (Nat.le_of_ble_eq_true rfl) (fun E X hE => ?_)
  have X : Cx G E cX8_statements RX8 (some .int) rmX8_statements 1 := X
  unfold f_X8_statements at hf
  refine V_gload_n X dX8_statements_0 rfl rfl ?_
  refine V_getr X ob_0 rfl rfl hin_X8 9 (Nat.le_of_ble_eq_true rfl) tw_410 rfl dX8_statements_1 ?_
  refine V_getiN X ob_57 rfl rfl hin_X4 6 (Nat.le_of_ble_eq_true rfl) nw_21 rfl dX8_statements_4 ?_
  exact V_iret X hE dX8_statements_7 hf
abbrev rmX6_sign : Room := { frames := 0, cells := 0, slots := 0, locals := 0 }
set_option maxRecDepth 20000 in
theorem m_X6_sign {G : GG} {i : Nat} {a1 : Int} {a2 : Int} {w : WS} {q : (Int × WS)} (hi : isX6 i) (hf : f_X6_sign i a1 a2 w = some q) : MI G yX6_sign cX6_sign 4 (some .int) rmX6_sign [gr G i, vi a1, vi a2] w q := by
  refine MI_of (by decide +kernel) (Nat.le_of_ble_eq_true rfl) (fun E X hE => ?_)
  have X : Cx G E cX6_sign RX6 (some .int) rmX6_sign 4 := X
  unfold f_X6_sign at hf
  refine V_iload_n X dX6_sign_0 rfl rfl ?_
  refine V_if_lt X (tgt := 27) dX6_sign_1 (by decide) hf (fun hf => ?_) (fun hf => ?_)
  · refine V_iconst X dX6_sign_27 ?_
    exact V_iret X hE dX6_sign_28 hf
  · refine V_iload_n X dX6_sign_4 rfl rfl ?_
    refine V_gload_n X dX6_sign_5 rfl rfl ?_
    refine V_getr X (ob_X6 hi) rfl rfl hin_X6 2 (Nat.le_of_ble_eq_true rfl) tw_128 (rr_X6_2 hi) dX6_sign_6 ?_
    refine V_alen X (ar_X6_2 hi) (by decide) dX6_sign_9 ?_
    refine V_icmp_ge X (tgt := 27) dX6_sign_10 (by decide) hf (fun hf => ?_) (fun hf => ?_)
    · refine V_iload_n X dX6_sign_13 rfl rfl ?_
      refine V_if_lt X (tgt := 27) dX6_sign_14 (by decide) hf (fun hf => ?_) (fun hf => ?_)
      · refine V_iconst X dX6_sign_27 ?_
        exact V_iret X hE dX6_sign_28 hf
      · refine V_iload_n X dX6_sign_17 rfl rfl ?_
        refine V_gload_n X dX6_sign_18 rfl rfl ?_
        refine V_getr X (ob_X6 hi) rfl rfl hin_X6 2 (Nat.le_of_ble_eq_true rfl) tw_128 (rr_X6_2 hi) dX6_sign_19 ?_
        refine V_iload_n X dX6_sign_22 rfl rfl ?_
        refine V_iald X (ar_X6_2 hi) dX6_sign_23 hf (fun hf => ?_)
        refine V_icmp_lt X (tgt := 29) dX6_sign_24 (by decide) hf (fun hf => ?_) (fun hf => ?_)
        · refine V_iload_n X dX6_sign_29 rfl rfl ?_
          refine V_gload_n X dX6_sign_30 rfl rfl ?_
          refine V_getc X (ob_X6 hi) rfl rfl hin_X6 0 (Nat.le_of_ble_eq_true rfl) tw_126 (rc_X6_0 hi) dX6_sign_31 ?_
          refine V_imul X dX6_sign_34 ?_
          refine V_iload_n X dX6_sign_35 rfl rfl ?_
          refine V_iadd X dX6_sign_36 ?_
          refine V_istore_n X dX6_sign_37 rfl (by decide) ?_
          refine V_iload_n X dX6_sign_38 rfl rfl ?_
          refine V_if_lt X (tgt := 60) dX6_sign_39 (by decide) hf (fun hf => ?_) (fun hf => ?_)
          · refine V_iconst X dX6_sign_60 ?_
            exact V_iret X hE dX6_sign_61 hf
          · refine V_iload_n X dX6_sign_42 rfl rfl ?_
            refine V_gload_n X dX6_sign_43 rfl rfl ?_
            refine V_getr X (ob_X6 hi) rfl rfl hin_X6 1 (Nat.le_of_ble_eq_true rfl) tw_127 (rr_X6_1 hi) dX6_sign_44 ?_
            refine V_alen X (ar_X6_1 hi) (by decide) dX6_sign_47 ?_
            refine V_icmp_ge X (tgt := 60) dX6_sign_48 (by decide) hf (fun hf => ?_) (fun hf => ?_)
            · refine V_gload_n X dX6_sign_51 rfl rfl ?_
              refine V_getr X (ob_X6 hi) rfl rfl hin_X6 1 (Nat.le_of_ble_eq_true rfl) tw_127 (rr_X6_1 hi) dX6_sign_52 ?_
              refine V_iload_n X dX6_sign_55 rfl rfl ?_
              refine V_iald X (ar_X6_1 hi) dX6_sign_56 hf (fun hf => ?_)
              refine V_goto X (tgt := 61) dX6_sign_57 (by decide) ?_
              exact V_iret X hE dX6_sign_61 hf
            · refine V_iconst X dX6_sign_60 ?_
              exact V_iret X hE dX6_sign_61 hf
        · refine V_iconst X dX6_sign_27 ?_
          exact V_iret X hE dX6_sign_28 hf
    · refine V_iconst X dX6_sign_27 ?_
      exact V_iret X hE dX6_sign_28 hf
abbrev rmX8_checksum : Room := { frames := 1, cells := 0, slots := 0, locals := 23 }
set_option maxRecDepth 20000 in
theorem v_X8_checksum_25 {G : GG} {E : EE} (X : Cx G E cX8_checksum RX8 (some .long) rmX8_checksum 6) {q : (Int × WS)} (hE : EndL G E q)   {k6 : Int → Int → WS → Option (Int × WS)} (hk6 : ∀ (a1 a3 : Int) (w : WS), k6 a1 a3 w = some q → VV G E 0 0 6 [(0, gr G 0), (1, vl a1), (3, vi a3)] [] w) : ∀ (n : Nat) (a1 a3 a4 a5 : Int) (w : WS), f_X8_checksum_25  k6 n a1 a3 a4 a5 w = some q → VV G E 0 0 25 [(0, gr G 0), (1, vl a1), (3, vi a3), (4, vi a4), (5, vi a5)] [] w := by
  intro n
  induction n with
  | zero => intro a1 a3 a4 a5 w hf; cases hf
  | succ n ih =>
    intro a1 a3 a4 a5 w hf
    rw [f_X8_checksum_25_s] at hf
    refine V_iload X dX8_checksum_25 rfl ?_
    refine V_iload X dX8_checksum_27 rfl ?_
    refine V_icmp_ge X (tgt := 56) dX8_checksum_29 (by decide) hf (fun hf => ?_) (fun hf => ?_)
    · refine V_ldc2 (a := 31) X tw_484 dX8_checksum_32 (by decide) ?_
      refine V_lload_n X dX8_checksum_35 rfl rfl ?_
      refine V_lmul X dX8_checksum_36 ?_
      refine V_gload_n X dX8_checksum_37 rfl rfl ?_
      refine V_getr X ob_0 rfl rfl hin_X8 3 (Nat.le_of_ble_eq_true rfl) tw_404 rfl dX8_checksum_38 ?_
      refine V_iload_n X dX8_checksum_41 rfl rfl ?_
      refine V_iload X dX8_checksum_42 rfl ?_
      refine V_cVI X hf [vi a3, vi a5] _ 2 (fun _ h => m_X6_sign is_7 h) ob_7 rfl tw_488 tw_87 tw_485 tw_486 tw_487 dX8_checksum_44 ⟨by decide +kernel, by decide +kernel, by decide +kernel⟩ ⟨rfl, rfl⟩ ⟨Nat.le_of_ble_eq_true rfl, Nat.le_of_ble_eq_true rfl⟩ rfl (Nat.le_of_ble_eq_true rfl) ⟨Nat.zero_le _, Nat.zero_le _⟩ (fun r2 w2 hf => ?_)
      refine V_i2l X dX8_checksum_47 ?_
      refine V_ladd X dX8_checksum_48 ?_
      refine V_lstore_n X dX8_checksum_49 rfl (by decide) ?_
      refine V_iinc X dX8_checksum_50 rfl (by decide) ?_
      refine V_goto X (tgt := 25) dX8_checksum_53 (by decide) ?_
      exact V_cut [0, 1, 3, 4, 5] rfl (ih _ _ _ _ _ hf)
    · refine V_ldc2 (a := 31) X tw_484 dX8_checksum_56 (by decide) ?_
      refine V_lload_n X dX8_checksum_59 rfl rfl ?_
      refine V_lmul X dX8_checksum_60 ?_
      refine V_iload X dX8_checksum_61 rfl ?_
      refine V_i2l X dX8_checksum_63 ?_
      refine V_ladd X dX8_checksum_64 ?_
      refine V_lstore_n X dX8_checksum_65 rfl (by decide) ?_
      refine V_iinc X dX8_checksum_66 rfl (by decide) ?_
      refine V_goto X (tgt := 6) dX8_checksum_69 (by decide) ?_
      exact V_cut [0, 1, 3] rfl (hk6 _ _ _ hf)
set_option maxRecDepth 20000 in
theorem v_X8_checksum_6 {G : GG} {E : EE} (X : Cx G E cX8_checksum RX8 (some .long) rmX8_checksum 6) {q : (Int × WS)} (hE : EndL G E q)   : ∀ (n : Nat) (a1 a3 : Int) (w : WS), f_X8_checksum_6   n a1 a3 w = some q → VV G E 0 0 6 [(0, gr G 0), (1, vl a1), (3, vi a3)] [] w := by
  intro n
  induction n with
  | zero => intro a1 a3 w hf; cases hf
  | succ n ih =>
    intro a1 a3 w hf
    rw [f_X8_checksum_6_s] at hf
    refine V_iload_n X dX8_checksum_6 rfl rfl ?_
    refine V_bipush X dX8_checksum_7 (by decide) ?_
    refine V_icmp_ge X (tgt := 72) dX8_checksum_9 (by decide) hf (fun hf => ?_) (fun hf => ?_)
    · refine V_gload_n X dX8_checksum_12 rfl rfl ?_
      refine V_getr X ob_0 rfl rfl hin_X8 3 (Nat.le_of_ble_eq_true rfl) tw_404 rfl dX8_checksum_13 ?_
      refine V_iload_n X dX8_checksum_16 rfl rfl ?_
      refine V_cVI X hf [vi a3] _ 1 (fun _ h => m_X6_length is_7 h) ob_7 rfl tw_466 tw_87 tw_463 tw_464 tw_465 dX8_checksum_17 ⟨by decide +kernel, by decide +kernel, by decide +kernel⟩ ⟨rfl, rfl⟩ ⟨Nat.le_of_ble_eq_true rfl, Nat.le_of_ble_eq_true rfl⟩ rfl (Nat.le_of_ble_eq_true rfl) ⟨Nat.zero_le _, Nat.zero_le _⟩ (fun r1 w1 hf => ?_)
      refine V_istore X dX8_checksum_20 (by decide) ?_
      refine V_iconst X dX8_checksum_22 ?_
      refine V_istore X dX8_checksum_23 (by decide) ?_
      exact V_cut [0, 1, 3, 4, 5] rfl (v_X8_checksum_25 X hE (fun x0 x1 x hf => ih x0 x1 x hf) FU _ _ _ _ _ hf)
    · refine V_lload_n X dX8_checksum_72 rfl rfl ?_
      exact V_lret X hE dX8_checksum_73 hf
set_option maxRecDepth 20000 in
theorem m_X8_checksum {G : GG}  {w : WS} {q : (Int × WS)}  (hf : f_X8_checksum  w = some q) : ML G yX8_checksum cX8_checksum 6 (some .long) rmX8_checksum [gr G 0] w q := by
  refine ML_of (by decide +kernel) (Nat.le_of_ble_eq_true rfl) (fun E X hE => ?_)
  have X : Cx G E cX8_checksum RX8 (some .long) rmX8_checksum 6 := X
  unfold f_X8_checksum at hf
  refine V_ldc2 (a := 7) X tw_483 dX8_checksum_0 (by decide) ?_
  refine V_lstore_n X dX8_checksum_3 rfl (by decide) ?_
  refine V_iconst X dX8_checksum_4 ?_
  refine V_istore_n X dX8_checksum_5 rfl (by decide) ?_
  exact V_cut [0, 1, 3] rfl (v_X8_checksum_6 X hE FU _ _ _ hf)
abbrev rmX1_get : Room := { frames := 0, cells := 0, slots := 0, locals := 0 }
set_option maxRecDepth 20000 in
theorem m_X1_get {G : GG} {i : Nat} {a1 : Int} {w : WS} {q : (Int × WS)} (hi : isX1 i) (hf : f_X1_get i a1 w = some q) : MI G yX1_get cX1_get 2 (some .int) rmX1_get [gr G i, vi a1] w q := by
  refine MI_of (by decide +kernel) (Nat.le_of_ble_eq_true rfl) (fun E X hE => ?_)
  have X : Cx G E cX1_get RX1 (some .int) rmX1_get 2 := X
  unfold f_X1_get at hf
  refine V_iload_n X dX1_get_0 rfl rfl ?_
  refine V_if_lt X (tgt := 22) dX1_get_1 (by decide) hf (fun hf => ?_) (fun hf => ?_)
  · refine V_iconst X dX1_get_22 ?_
    exact V_iret X hE dX1_get_23 hf
  · refine V_iload_n X dX1_get_4 rfl rfl ?_
    refine V_gload_n X dX1_get_5 rfl rfl ?_
    refine V_getr X (ob_X1 hi) rfl rfl hin_X1 0 (Nat.le_of_ble_eq_true rfl) tw_149 (rr_X1_0 hi) dX1_get_6 ?_
    refine V_alen X (ar_X1_1 hi) (by decide) dX1_get_9 ?_
    refine V_icmp_ge X (tgt := 22) dX1_get_10 (by decide) hf (fun hf => ?_) (fun hf => ?_)
    · refine V_gload_n X dX1_get_13 rfl rfl ?_
      refine V_getr X (ob_X1 hi) rfl rfl hin_X1 0 (Nat.le_of_ble_eq_true rfl) tw_149 (rr_X1_0 hi) dX1_get_14 ?_
      refine V_iload_n X dX1_get_17 rfl rfl ?_
      refine V_iald X (ar_X1_1 hi) dX1_get_18 hf (fun hf => ?_)
      refine V_goto X (tgt := 23) dX1_get_19 (by decide) ?_
      exact V_iret X hE dX1_get_23 hf
    · refine V_iconst X dX1_get_22 ?_
      exact V_iret X hE dX1_get_23 hf
abbrev rmX1_sum : Room := { frames := 1, cells := 0, slots := 0, locals := 21 }
set_option maxRecDepth 20000 in
theorem v_X1_sum_4 {G : GG} {E : EE} (X : Cx G E cX1_sum RX1 (some .int) rmX1_sum 4) {q : (Int × WS)} (hE : EndI G E q) {i : Nat} (hi : isX1 i) : ∀ (n : Nat) (a1 a2 a3 : Int) (w : WS), f_X1_sum_4 i  n a1 a2 a3 w = some q → VV G E 0 0 4 [(0, gr G i), (1, vi a1), (2, vi a2), (3, vi a3)] [] w := by
  intro n
  induction n with
  | zero => intro a1 a2 a3 w hf; cases hf
  | succ n ih =>
    intro a1 a2 a3 w hf
    rw [f_X1_sum_4_s] at hf
    refine V_iload_n X dX1_sum_4 rfl rfl ?_
    refine V_iload_n X dX1_sum_5 rfl rfl ?_
    refine V_icmp_ge X (tgt := 23) dX1_sum_6 (by decide) hf (fun hf => ?_) (fun hf => ?_)
    · refine V_iload_n X dX1_sum_9 rfl rfl ?_
      refine V_gload_n X dX1_sum_10 rfl rfl ?_
      refine V_iload_n X dX1_sum_11 rfl rfl ?_
      refine V_cVI X hf [vi a3] _ 1 (fun _ h => m_X1_get hi h) (ob_X1 hi) rfl tw_500 tw_89 tw_497 tw_498 tw_499 dX1_sum_12 ⟨by decide +kernel, by decide +kernel, by decide +kernel⟩ ⟨rfl, rfl⟩ ⟨Nat.le_of_ble_eq_true rfl, Nat.le_of_ble_eq_true rfl⟩ rfl (Nat.le_of_ble_eq_true rfl) ⟨Nat.zero_le _, Nat.zero_le _⟩ (fun r1 w1 hf => ?_)
      refine V_iadd X dX1_sum_15 ?_
      refine V_istore_n X dX1_sum_16 rfl (by decide) ?_
      refine V_iinc X dX1_sum_17 rfl (by decide) ?_
      refine V_goto X (tgt := 4) dX1_sum_20 (by decide) ?_
      exact V_cut [0, 1, 2, 3] rfl (ih _ _ _ _ hf)
    · refine V_iload_n X dX1_sum_23 rfl rfl ?_
      exact V_iret X hE dX1_sum_24 hf
set_option maxRecDepth 20000 in
theorem m_X1_sum {G : GG} {i : Nat} {a1 : Int} {w : WS} {q : (Int × WS)} (hi : isX1 i) (hf : f_X1_sum i a1 w = some q) : MI G yX1_sum cX1_sum 4 (some .int) rmX1_sum [gr G i, vi a1] w q := by
  refine MI_of (by decide +kernel) (Nat.le_of_ble_eq_true rfl) (fun E X hE => ?_)
  have X : Cx G E cX1_sum RX1 (some .int) rmX1_sum 4 := X
  unfold f_X1_sum at hf
  refine V_iconst X dX1_sum_0 ?_
  refine V_istore_n X dX1_sum_1 rfl (by decide) ?_
  refine V_iconst X dX1_sum_2 ?_
  refine V_istore_n X dX1_sum_3 rfl (by decide) ?_
  exact V_cut [0, 1, 2, 3] rfl (v_X1_sum_4 X hE hi FU _ _ _ _ hf)
abbrev rmX8_isSound : Room := { frames := 2, cells := 0, slots := 0, locals := 44 }
set_option maxRecDepth 20000 in
theorem v_X8_isSound_63 {G : GG} {E : EE} (X : Cx G E cX8_isSound RX8 (some .boolean) rmX8_isSound 2) {q : (Int × WS)} (hE : EndI G E q)   {w : WS} (hf : f_X8_isSound_63    w = some q) : VV G E 0 0 63 [(0, gr G 0)] [] w := by
  unfold f_X8_isSound_63 at hf
  refine V_gload_n X dX8_isSound_63 rfl rfl ?_
  refine V_geti X ob_0 rfl rfl hin_X8 14 (Nat.le_of_ble_eq_true rfl) tw_415 rfl dX8_isSound_64 ?_
  refine V_if_eq X (tgt := 100) dX8_isSound_67 (by decide) hf (fun hf => ?_) (fun hf => ?_)
  · refine V_iconst X dX8_isSound_100 ?_
    refine V_goto X (tgt := 105) dX8_isSound_101 (by decide) ?_
    exact V_zret X hE dX8_isSound_105 (Or.inr rfl) hf
  · refine V_iconst X dX8_isSound_70 ?_
    refine V_gload_n X dX8_isSound_71 rfl rfl ?_
    refine V_geti X ob_0 rfl rfl hin_X8 15 (Nat.le_of_ble_eq_true rfl) tw_416 rfl dX8_isSound_72 ?_
    refine V_icmp_gt X (tgt := 104) dX8_isSound_75 (by decide) hf (fun hf => ?_) (fun hf => ?_)
    · refine V_iconst X dX8_isSound_104 ?_
      exact V_zret X hE dX8_isSound_105 (Or.inl rfl) hf
    · refine V_gload_n X dX8_isSound_78 rfl rfl ?_
      refine V_geti X ob_0 rfl rfl hin_X8 15 (Nat.le_of_ble_eq_true rfl) tw_416 rfl dX8_isSound_79 ?_
      refine V_gload_n X dX8_isSound_82 rfl rfl ?_
      refine V_geti X ob_0 rfl rfl hin_X8 16 (Nat.le_of_ble_eq_true rfl) tw_417 rfl dX8_isSound_83 ?_
      refine V_icmp_gt X (tgt := 104) dX8_isSound_86 (by decide) hf (fun hf => ?_) (fun hf => ?_)
      · refine V_iconst X dX8_isSound_104 ?_
        exact V_zret X hE dX8_isSound_105 (Or.inl rfl) hf
      · refine V_gload_n X dX8_isSound_89 rfl rfl ?_
        refine V_geti X ob_0 rfl rfl hin_X8 16 (Nat.le_of_ble_eq_true rfl) tw_417 rfl dX8_isSound_90 ?_
        refine V_gload_n X dX8_isSound_93 rfl rfl ?_
        refine V_geti X ob_0 rfl rfl hin_X8 18 (Nat.le_of_ble_eq_true rfl) tw_419 rfl dX8_isSound_94 ?_
        refine V_icmp_gt X (tgt := 104) dX8_isSound_97 (by decide) hf (fun hf => ?_) (fun hf => ?_)
        · refine V_iconst X dX8_isSound_104 ?_
          exact V_zret X hE dX8_isSound_105 (Or.inl rfl) hf
        · refine V_iconst X dX8_isSound_100 ?_
          refine V_goto X (tgt := 105) dX8_isSound_101 (by decide) ?_
          exact V_zret X hE dX8_isSound_105 (Or.inr rfl) hf
set_option maxRecDepth 20000 in
theorem v_X8_isSound_2 {G : GG} {E : EE} (X : Cx G E cX8_isSound RX8 (some .boolean) rmX8_isSound 2) {q : (Int × WS)} (hE : EndI G E q)   : ∀ (n : Nat) (a1 : Int) (w : WS), f_X8_isSound_2   n a1 w = some q → VV G E 0 0 2 [(0, gr G 0), (1, vi a1)] [] w := by
  intro n
  induction n with
  | zero => intro a1 w hf; cases hf
  | succ n ih =>
    intro a1 w hf
    rw [f_X8_isSound_2_s] at hf
    refine V_iload_n X dX8_isSound_2 rfl rfl ?_
    refine V_bipush X dX8_isSound_3 (by decide) ?_
    refine V_icmp_ge X (tgt := 29) dX8_isSound_5 (by decide) hf (fun hf => ?_) (fun hf => ?_)
    · refine V_gload_n X dX8_isSound_8 rfl rfl ?_
      refine V_getr X ob_0 rfl rfl hin_X8 3 (Nat.le_of_ble_eq_true rfl) tw_404 rfl dX8_isSound_9 ?_
      refine V_iload_n X dX8_isSound_12 rfl rfl ?_
      refine V_cVI X hf [vi a1] _ 1 (fun _ h => m_X6_length is_7 h) ob_7 rfl tw_466 tw_87 tw_463 tw_464 tw_465 dX8_isSound_13 ⟨by decide +kernel, by decide +kernel, by decide +kernel⟩ ⟨rfl, rfl⟩ ⟨Nat.le_of_ble_eq_true rfl, Nat.le_of_ble_eq_true rfl⟩ rfl (Nat.le_of_ble_eq_true rfl) ⟨Nat.zero_le _, Nat.zero_le _⟩ (fun r1 w1 hf => ?_)
      refine V_bipush X dX8_isSound_16 (by decide) ?_
      refine V_icmp_le X (tgt := 23) dX8_isSound_18 (by decide) hf (fun hf => ?_) (fun hf => ?_)
      · refine V_iconst X dX8_isSound_21 ?_
        exact V_zret X hE dX8_isSound_22 (Or.inl rfl) hf
      · refine V_iinc X dX8_isSound_23 rfl (by decide) ?_
        refine V_goto X (tgt := 2) dX8_isSound_26 (by decide) ?_
        exact V_cut [0, 1] rfl (ih _ _ hf)
    · refine V_gload_n X dX8_isSound_29 rfl rfl ?_
      refine V_getr X ob_0 rfl rfl hin_X8 10 (Nat.le_of_ble_eq_true rfl) tw_411 rfl dX8_isSound_30 ?_
      refine V_getiN X ob_76 rfl rfl hin_X7 10 (Nat.le_of_ble_eq_true rfl) nw_27 rfl dX8_isSound_33 ?_
      refine V_if_eq X (tgt := 63) dX8_isSound_36 (by decide) hf (fun hf => ?_) (fun hf => ?_)
      · exact V_cut [0] rfl (v_X8_isSound_63 X hE hf)
      · refine V_gload_n X dX8_isSound_39 rfl rfl ?_
        refine V_getr X ob_0 rfl rfl hin_X8 10 (Nat.le_of_ble_eq_true rfl) tw_411 rfl dX8_isSound_40 ?_
        refine V_getiN X ob_76 rfl rfl hin_X7 13 (Nat.le_of_ble_eq_true rfl) nw_30 rfl dX8_isSound_43 ?_
        refine V_gload_n X dX8_isSound_46 rfl rfl ?_
        refine V_getr X ob_0 rfl rfl hin_X8 10 (Nat.le_of_ble_eq_true rfl) tw_411 rfl dX8_isSound_47 ?_
        refine V_getrN X ob_76 rfl rfl hin_X7 7 (Nat.le_of_ble_eq_true rfl) nw_25 rfl dX8_isSound_50 ?_
        refine V_bipush X dX8_isSound_53 (by decide) ?_
        refine V_cVI X hf [vi 40] _ 1 (fun _ h => m_X1_sum is_79 h) ob_79 rfl tw_496 tw_89 tw_493 tw_494 tw_495 dX8_isSound_55 ⟨by decide +kernel, by decide +kernel, by decide +kernel⟩ ⟨rfl, rfl⟩ ⟨Nat.le_of_ble_eq_true rfl, Nat.le_of_ble_eq_true rfl⟩ rfl (Nat.le_of_ble_eq_true rfl) ⟨Nat.zero_le _, Nat.zero_le _⟩ (fun r2 w2 hf => ?_)
        refine V_icmp_eq X (tgt := 63) dX8_isSound_58 (by decide) hf (fun hf => ?_) (fun hf => ?_)
        · exact V_cut [0] rfl (v_X8_isSound_63 X hE hf)
        · refine V_iconst X dX8_isSound_61 ?_
          exact V_zret X hE dX8_isSound_62 (Or.inl rfl) hf
set_option maxRecDepth 20000 in
theorem m_X8_isSound {G : GG}  {w : WS} {q : (Int × WS)}  (hf : f_X8_isSound  w = some q) : MI G yX8_isSound cX8_isSound 2 (some .boolean) rmX8_isSound [gr G 0] w q := by
  refine MI_of (by decide +kernel) (Nat.le_of_ble_eq_true rfl) (fun E X hE => ?_)
  have X : Cx G E cX8_isSound RX8 (some .boolean) rmX8_isSound 2 := X
  unfold f_X8_isSound at hf
  refine V_iconst X dX8_isSound_0 ?_
  refine V_istore_n X dX8_isSound_1 rfl (by decide) ?_
  exact V_cut [0, 1] rfl (v_X8_isSound_2 X hE FU _ _ hf)
abbrev rmX8_isSign : Room := { frames := 0, cells := 0, slots := 0, locals := 0 }
set_option maxRecDepth 20000 in
theorem v_X8_isSign_12 {G : GG} {E : EE} (X : Cx G E cX8_isSign RX8 (some .boolean) rmX8_isSign 1) {q : (Int × WS)} (hE : EndI G E q)   {a0 : Int} {w : WS} (hf : f_X8_isSign_12   a0 w = some q) : VV G E 0 0 12 [(0, vi a0)] [] w := by
  unfold f_X8_isSign_12 at hf
  refine V_iload_n X dX8_isSign_12 rfl rfl ?_
  refine V_ldcw (a := 128512) X tw_513 dX8_isSign_13 (by decide) ?_
  refine V_icmp_lt X (tgt := 30) dX8_isSign_16 (by decide) hf (fun hf => ?_) (fun hf => ?_)
  · refine V_iconst X dX8_isSign_30 ?_
    exact V_zret X hE dX8_isSign_31 (Or.inl rfl) hf
  · refine V_iload_n X dX8_isSign_19 rfl rfl ?_
    refine V_ldcw (a := 128591) X tw_514 dX8_isSign_20 (by decide) ?_
    refine V_icmp_gt X (tgt := 30) dX8_isSign_23 (by decide) hf (fun hf => ?_) (fun hf => ?_)
    · refine V_iconst X dX8_isSign_30 ?_
      exact V_zret X hE dX8_isSign_31 (Or.inl rfl) hf
    · refine V_iconst X dX8_isSign_26 ?_
      refine V_goto X (tgt := 31) dX8_isSign_27 (by decide) ?_
      exact V_zret X hE dX8_isSign_31 (Or.inr rfl) hf
set_option maxRecDepth 20000 in
theorem m_X8_isSign {G : GG} {a0 : Int} {w : WS} {q : (Int × WS)}  (hf : f_X8_isSign a0 w = some q) : MI G yX8_isSign cX8_isSign 1 (some .boolean) rmX8_isSign [vi a0] w q := by
  refine MI_of (by decide +kernel) (Nat.le_of_ble_eq_true rfl) (fun E X hE => ?_)
  have X : Cx G E cX8_isSign RX8 (some .boolean) rmX8_isSign 1 := X
  unfold f_X8_isSign at hf
  refine V_iload_n X dX8_isSign_0 rfl rfl ?_
  refine V_bipush X dX8_isSign_1 (by decide) ?_
  refine V_icmp_lt X (tgt := 12) dX8_isSign_3 (by decide) hf (fun hf => ?_) (fun hf => ?_)
  · exact V_cut [0] rfl (v_X8_isSign_12 X hE hf)
  · refine V_iload_n X dX8_isSign_6 rfl rfl ?_
    refine V_bipush X dX8_isSign_7 (by decide) ?_
    refine V_icmp_le X (tgt := 26) dX8_isSign_9 (by decide) hf (fun hf => ?_) (fun hf => ?_)
    · exact V_cut [0] rfl (v_X8_isSign_12 X hE hf)
    · refine V_iconst X dX8_isSign_26 ?_
      refine V_goto X (tgt := 31) dX8_isSign_27 (by decide) ?_
      exact V_zret X hE dX8_isSign_31 (Or.inr rfl) hf
abbrev rmX8_isBelow : Room := { frames := 0, cells := 0, slots := 0, locals := 0 }
set_option maxRecDepth 20000 in
theorem m_X8_isBelow {G : GG} {a0 : Int} {a1 : Int} {w : WS} {q : (Int × WS)}  (hf : f_X8_isBelow a0 a1 w = some q) : MI G yX8_isBelow cX8_isBelow 2 (some .boolean) rmX8_isBelow [vi a0, vi a1] w q := by
  refine MI_of (by decide +kernel) (Nat.le_of_ble_eq_true rfl) (fun E X hE => ?_)
  have X : Cx G E cX8_isBelow RX8 (some .boolean) rmX8_isBelow 2 := X
  unfold f_X8_isBelow at hf
  refine V_iload_n X dX8_isBelow_0 rfl rfl ?_
  refine V_if_lt X (tgt := 13) dX8_isBelow_1 (by decide) hf (fun hf => ?_) (fun hf => ?_)
  · refine V_iconst X dX8_isBelow_13 ?_
    exact V_zret X hE dX8_isBelow_14 (Or.inl rfl) hf
  · refine V_iload_n X dX8_isBelow_4 rfl rfl ?_
    refine V_iload_n X dX8_isBelow_5 rfl rfl ?_
    refine V_icmp_ge X (tgt := 13) dX8_isBelow_6 (by decide) hf (fun hf => ?_) (fun hf => ?_)
    · refine V_iconst X dX8_isBelow_9 ?_
      refine V_goto X (tgt := 14) dX8_isBelow_10 (by decide) ?_
      exact V_zret X hE dX8_isBelow_14 (Or.inr rfl) hf
    · refine V_iconst X dX8_isBelow_13 ?_
      exact V_zret X hE dX8_isBelow_14 (Or.inl rfl) hf
abbrev rmX8_patternPartsExist : Room := { frames := 1, cells := 0, slots := 0, locals := 21 }
set_option maxRecDepth 20000 in
theorem m_X8_patternPartsExist {G : GG} {a1 : Int} {a2 : Int} {a3 : Int} {w : WS} {q : (Int × WS)}  (hf : f_X8_patternPartsExist a1 a2 a3 w = some q) : MI G yX8_patternPartsExist cX8_patternPartsExist 4 (some .boolean) rmX8_patternPartsExist [gr G 0, vi a1, vi a2, vi a3] w q := by
  refine MI_of (by decide +kernel) (Nat.le_of_ble_eq_true rfl) (fun E X hE => ?_)
  have X : Cx G E cX8_patternPartsExist RX8 (some .boolean) rmX8_patternPartsExist 4 := X
  unfold f_X8_patternPartsExist at hf
  refine V_iload_n X dX8_patternPartsExist_0 rfl rfl ?_
  refine ite_c hf (fun h0 hf => ?_) (fun h0 hf => ?_)
  · refine V_lookup X (off := 238) (tgt := 239) dX8_patternPartsExist_1 (by decide) (by exact off_pos h0) (by decide) ?_
    refine V_iload_n X dX8_patternPartsExist_239 rfl rfl ?_
    refine V_if_lt X (tgt := 253) dX8_patternPartsExist_240 (by decide) hf (fun hf => ?_) (fun hf => ?_)
    · refine V_iconst X dX8_patternPartsExist_253 ?_
      exact V_zret X hE dX8_patternPartsExist_254 (Or.inl rfl) hf
    · refine V_iload_n X dX8_patternPartsExist_243 rfl rfl ?_
      refine V_bipush X dX8_patternPartsExist_244 (by decide) ?_
      refine V_icmp_gt X (tgt := 253) dX8_patternPartsExist_246 (by decide) hf (fun hf => ?_) (fun hf => ?_)
      · refine V_iconst X dX8_patternPartsExist_253 ?_
        exact V_zret X hE dX8_patternPartsExist_254 (Or.inl rfl) hf
      · refine V_iconst X dX8_patternPartsExist_249 ?_
        refine V_goto X (tgt := 254) dX8_patternPartsExist_250 (by decide) ?_
        exact V_zret X hE dX8_patternPartsExist_254 (Or.inr rfl) hf
  refine ite_c hf (fun h1 hf => ?_) (fun h1 hf => ?_)
  · refine V_lookup X (off := 202) (tgt := 203) dX8_patternPartsExist_1 (by decide) (by exact off_neg h0 (off_pos h1)) (by decide) ?_
    refine V_iload_n X dX8_patternPartsExist_203 rfl rfl ?_
    refine V_gload_n X dX8_patternPartsExist_204 rfl rfl ?_
    refine V_getr X ob_0 rfl rfl hin_X8 5 (Nat.le_of_ble_eq_true rfl) tw_406 rfl dX8_patternPartsExist_205 ?_
    refine V_getiN X ob_25 rfl rfl hin_X0 4 (Nat.le_of_ble_eq_true rfl) nw_6 rfl dX8_patternPartsExist_208 ?_
    refine V_cSI X hf [vi a2, vi (w 25 4)] _ 2 (fun _ h => m_X8_isBelow h) tw_678 tw_86 tw_676 tw_677 dX8_patternPartsExist_211 ⟨by decide +kernel, by decide +kernel, by decide +kernel⟩ ⟨rfl, rfl⟩ ⟨Nat.le_of_ble_eq_true rfl, Nat.le_of_ble_eq_true rfl⟩ rfl (Nat.le_of_ble_eq_true rfl) ⟨Nat.zero_le _, Nat.zero_le _⟩ (fun r1 w1 hf => ?_)
    refine V_if_eq X (tgt := 230) dX8_patternPartsExist_214 (by decide) hf (fun hf => ?_) (fun hf => ?_)
    · refine V_iconst X dX8_patternPartsExist_230 ?_
      exact V_zret X hE dX8_patternPartsExist_231 (Or.inl rfl) hf
    · refine V_iload_n X dX8_patternPartsExist_217 rfl rfl ?_
      refine V_bipush X dX8_patternPartsExist_218 (by decide) ?_
      refine V_cSI X hf [vi a3, vi 26] _ 2 (fun _ h => m_X8_isBelow h) tw_678 tw_86 tw_676 tw_677 dX8_patternPartsExist_220 ⟨by decide +kernel, by decide +kernel, by decide +kernel⟩ ⟨rfl, rfl⟩ ⟨Nat.le_of_ble_eq_true rfl, Nat.le_of_ble_eq_true rfl⟩ rfl (Nat.le_of_ble_eq_true rfl) ⟨Nat.zero_le _, Nat.zero_le _⟩ (fun r2 w2 hf => ?_)
      refine V_if_eq X (tgt := 230) dX8_patternPartsExist_223 (by decide) hf (fun hf => ?_) (fun hf => ?_)
      · refine V_iconst X dX8_patternPartsExist_230 ?_
        exact V_zret X hE dX8_patternPartsExist_231 (Or.inl rfl) hf
      · refine V_iconst X dX8_patternPartsExist_226 ?_
        refine V_goto X (tgt := 231) dX8_patternPartsExist_227 (by decide) ?_
        exact V_zret X hE dX8_patternPartsExist_231 (Or.inr rfl) hf
  refine ite_c hf (fun h2 hf => ?_) (fun h2 hf => ?_)
  · refine V_lookup X (off := 156) (tgt := 157) dX8_patternPartsExist_1 (by decide) (by exact off_neg h0 (off_neg h1 (off_pos h2))) (by decide) ?_
    refine V_iload_n X dX8_patternPartsExist_157 rfl rfl ?_
    refine V_gload_n X dX8_patternPartsExist_158 rfl rfl ?_
    refine V_getr X ob_0 rfl rfl hin_X8 5 (Nat.le_of_ble_eq_true rfl) tw_406 rfl dX8_patternPartsExist_159 ?_
    refine V_getiN X ob_25 rfl rfl hin_X0 4 (Nat.le_of_ble_eq_true rfl) nw_6 rfl dX8_patternPartsExist_162 ?_
    refine V_cSI X hf [vi a2, vi (w 25 4)] _ 2 (fun _ h => m_X8_isBelow h) tw_678 tw_86 tw_676 tw_677 dX8_patternPartsExist_165 ⟨by decide +kernel, by decide +kernel, by decide +kernel⟩ ⟨rfl, rfl⟩ ⟨Nat.le_of_ble_eq_true rfl, Nat.le_of_ble_eq_true rfl⟩ rfl (Nat.le_of_ble_eq_true rfl) ⟨Nat.zero_le _, Nat.zero_le _⟩ (fun r3 w3 hf => ?_)
    refine V_if_eq X (tgt := 189) dX8_patternPartsExist_168 (by decide) hf (fun hf => ?_) (fun hf => ?_)
    · refine V_iconst X dX8_patternPartsExist_189 ?_
      exact V_zret X hE dX8_patternPartsExist_190 (Or.inl rfl) hf
    · refine V_iload_n X dX8_patternPartsExist_171 rfl rfl ?_
      refine V_gload_n X dX8_patternPartsExist_172 rfl rfl ?_
      refine V_getr X ob_0 rfl rfl hin_X8 5 (Nat.le_of_ble_eq_true rfl) tw_406 rfl dX8_patternPartsExist_173 ?_
      refine V_getiN X ob_25 rfl rfl hin_X0 4 (Nat.le_of_ble_eq_true rfl) nw_6 rfl dX8_patternPartsExist_176 ?_
      refine V_cSI X hf [vi a3, vi (w3 25 4)] _ 2 (fun _ h => m_X8_isBelow h) tw_678 tw_86 tw_676 tw_677 dX8_patternPartsExist_179 ⟨by decide +kernel, by decide +kernel, by decide +kernel⟩ ⟨rfl, rfl⟩ ⟨Nat.le_of_ble_eq_true rfl, Nat.le_of_ble_eq_true rfl⟩ rfl (Nat.le_of_ble_eq_true rfl) ⟨Nat.zero_le _, Nat.zero_le _⟩ (fun r4 w4 hf => ?_)
      refine V_if_eq X (tgt := 189) dX8_patternPartsExist_182 (by decide) hf (fun hf => ?_) (fun hf => ?_)
      · refine V_iconst X dX8_patternPartsExist_189 ?_
        exact V_zret X hE dX8_patternPartsExist_190 (Or.inl rfl) hf
      · refine V_iconst X dX8_patternPartsExist_185 ?_
        refine V_goto X (tgt := 190) dX8_patternPartsExist_186 (by decide) ?_
        exact V_zret X hE dX8_patternPartsExist_190 (Or.inr rfl) hf
  refine ite_c hf (fun h3 hf => ?_) (fun h3 hf => ?_)
  · refine V_lookup X (off := 202) (tgt := 203) dX8_patternPartsExist_1 (by decide) (by exact off_neg h0 (off_neg h1 (off_neg h2 (off_pos h3)))) (by decide) ?_
    refine V_iload_n X dX8_patternPartsExist_203 rfl rfl ?_
    refine V_gload_n X dX8_patternPartsExist_204 rfl rfl ?_
    refine V_getr X ob_0 rfl rfl hin_X8 5 (Nat.le_of_ble_eq_true rfl) tw_406 rfl dX8_patternPartsExist_205 ?_
    refine V_getiN X ob_25 rfl rfl hin_X0 4 (Nat.le_of_ble_eq_true rfl) nw_6 rfl dX8_patternPartsExist_208 ?_
    refine V_cSI X hf [vi a2, vi (w 25 4)] _ 2 (fun _ h => m_X8_isBelow h) tw_678 tw_86 tw_676 tw_677 dX8_patternPartsExist_211 ⟨by decide +kernel, by decide +kernel, by decide +kernel⟩ ⟨rfl, rfl⟩ ⟨Nat.le_of_ble_eq_true rfl, Nat.le_of_ble_eq_true rfl⟩ rfl (Nat.le_of_ble_eq_true rfl) ⟨Nat.zero_le _, Nat.zero_le _⟩ (fun r5 w5 hf => ?_)
    refine V_if_eq X (tgt := 230) dX8_patternPartsExist_214 (by decide) hf (fun hf => ?_) (fun hf => ?_)
    · refine V_iconst X dX8_patternPartsExist_230 ?_
      exact V_zret X hE dX8_patternPartsExist_231 (Or.inl rfl) hf
    · refine V_iload_n X dX8_patternPartsExist_217 rfl rfl ?_
      refine V_bipush X dX8_patternPartsExist_218 (by decide) ?_
      refine V_cSI X hf [vi a3, vi 26] _ 2 (fun _ h => m_X8_isBelow h) tw_678 tw_86 tw_676 tw_677 dX8_patternPartsExist_220 ⟨by decide +kernel, by decide +kernel, by decide +kernel⟩ ⟨rfl, rfl⟩ ⟨Nat.le_of_ble_eq_true rfl, Nat.le_of_ble_eq_true rfl⟩ rfl (Nat.le_of_ble_eq_true rfl) ⟨Nat.zero_le _, Nat.zero_le _⟩ (fun r6 w6 hf => ?_)
      refine V_if_eq X (tgt := 230) dX8_patternPartsExist_223 (by decide) hf (fun hf => ?_) (fun hf => ?_)
      · refine V_iconst X dX8_patternPartsExist_230 ?_
        exact V_zret X hE dX8_patternPartsExist_231 (Or.inl rfl) hf
      · refine V_iconst X dX8_patternPartsExist_226 ?_
        refine V_goto X (tgt := 231) dX8_patternPartsExist_227 (by decide) ?_
        exact V_zret X hE dX8_patternPartsExist_231 (Or.inr rfl) hf
  refine ite_c hf (fun h4 hf => ?_) (fun h4 hf => ?_)
  · refine V_lookup X (off := 231) (tgt := 232) dX8_patternPartsExist_1 (by decide) (by exact off_neg h0 (off_neg h1 (off_neg h2 (off_neg h3 (off_pos h4))))) (by decide) ?_
    refine V_iload_n X dX8_patternPartsExist_232 rfl rfl ?_
    refine V_bipush X dX8_patternPartsExist_233 (by decide) ?_
    refine V_cSI X hf [vi a2, vi 26] _ 2 (fun _ h => m_X8_isBelow h) tw_678 tw_86 tw_676 tw_677 dX8_patternPartsExist_235 ⟨by decide +kernel, by decide +kernel, by decide +kernel⟩ ⟨rfl, rfl⟩ ⟨Nat.le_of_ble_eq_true rfl, Nat.le_of_ble_eq_true rfl⟩ rfl (Nat.le_of_ble_eq_true rfl) ⟨Nat.zero_le _, Nat.zero_le _⟩ (fun r7 w7 hf => ?_)
    obtain ⟨hz, hf⟩ := ite_n hf
    exact V_zret X hE dX8_patternPartsExist_238 hz hf
  refine ite_c hf (fun h5 hf => ?_) (fun h5 hf => ?_)
  · refine V_lookup X (off := 190) (tgt := 191) dX8_patternPartsExist_1 (by decide) (by exact off_neg h0 (off_neg h1 (off_neg h2 (off_neg h3 (off_neg h4 (off_pos h5)))))) (by decide) ?_
    refine V_iload_n X dX8_patternPartsExist_191 rfl rfl ?_
    refine V_gload_n X dX8_patternPartsExist_192 rfl rfl ?_
    refine V_getr X ob_0 rfl rfl hin_X8 5 (Nat.le_of_ble_eq_true rfl) tw_406 rfl dX8_patternPartsExist_193 ?_
    refine V_getiN X ob_25 rfl rfl hin_X0 4 (Nat.le_of_ble_eq_true rfl) nw_6 rfl dX8_patternPartsExist_196 ?_
    refine V_cSI X hf [vi a2, vi (w 25 4)] _ 2 (fun _ h => m_X8_isBelow h) tw_678 tw_86 tw_676 tw_677 dX8_patternPartsExist_199 ⟨by decide +kernel, by decide +kernel, by decide +kernel⟩ ⟨rfl, rfl⟩ ⟨Nat.le_of_ble_eq_true rfl, Nat.le_of_ble_eq_true rfl⟩ rfl (Nat.le_of_ble_eq_true rfl) ⟨Nat.zero_le _, Nat.zero_le _⟩ (fun r8 w8 hf => ?_)
    obtain ⟨hz, hf⟩ := ite_n hf
    exact V_zret X hE dX8_patternPartsExist_202 hz hf
  refine ite_c hf (fun h6 hf => ?_) (fun h6 hf => ?_)
  · refine V_lookup X (off := 147) (tgt := 148) dX8_patternPartsExist_1 (by decide) (by exact off_neg h0 (off_neg h1 (off_neg h2 (off_neg h3 (off_neg h4 (off_neg h5 (off_pos h6))))))) (by decide) ?_
    refine V_iload_n X dX8_patternPartsExist_148 rfl rfl ?_
    refine V_gload_n X dX8_patternPartsExist_149 rfl rfl ?_
    refine V_geti X ob_0 rfl rfl hin_X8 2 (Nat.le_of_ble_eq_true rfl) tw_403 rfl dX8_patternPartsExist_150 ?_
    refine V_cSI X hf [vi a2, vi (w 0 2)] _ 2 (fun _ h => m_X8_isBelow h) tw_678 tw_86 tw_676 tw_677 dX8_patternPartsExist_153 ⟨by decide +kernel, by decide +kernel, by decide +kernel⟩ ⟨rfl, rfl⟩ ⟨Nat.le_of_ble_eq_true rfl, Nat.le_of_ble_eq_true rfl⟩ rfl (Nat.le_of_ble_eq_true rfl) ⟨Nat.zero_le _, Nat.zero_le _⟩ (fun r9 w9 hf => ?_)
    obtain ⟨hz, hf⟩ := ite_n hf
    exact V_zret X hE dX8_patternPartsExist_156 hz hf
  refine ite_c hf (fun h7 hf => ?_) (fun h7 hf => ?_)
  · refine V_lookup X (off := 147) (tgt := 148) dX8_patternPartsExist_1 (by decide) (by exact off_neg h0 (off_neg h1 (off_neg h2 (off_neg h3 (off_neg h4 (off_neg h5 (off_neg h6 (off_pos h7)))))))) (by decide) ?_
    refine V_iload_n X dX8_patternPartsExist_148 rfl rfl ?_
    refine V_gload_n X dX8_patternPartsExist_149 rfl rfl ?_
    refine V_geti X ob_0 rfl rfl hin_X8 2 (Nat.le_of_ble_eq_true rfl) tw_403 rfl dX8_patternPartsExist_150 ?_
    refine V_cSI X hf [vi a2, vi (w 0 2)] _ 2 (fun _ h => m_X8_isBelow h) tw_678 tw_86 tw_676 tw_677 dX8_patternPartsExist_153 ⟨by decide +kernel, by decide +kernel, by decide +kernel⟩ ⟨rfl, rfl⟩ ⟨Nat.le_of_ble_eq_true rfl, Nat.le_of_ble_eq_true rfl⟩ rfl (Nat.le_of_ble_eq_true rfl) ⟨Nat.zero_le _, Nat.zero_le _⟩ (fun r10 w10 hf => ?_)
    obtain ⟨hz, hf⟩ := ite_n hf
    exact V_zret X hE dX8_patternPartsExist_156 hz hf
  refine ite_c hf (fun h8 hf => ?_) (fun h8 hf => ?_)
  · refine V_lookup X (off := 147) (tgt := 148) dX8_patternPartsExist_1 (by decide) (by exact off_neg h0 (off_neg h1 (off_neg h2 (off_neg h3 (off_neg h4 (off_neg h5 (off_neg h6 (off_neg h7 (off_pos h8))))))))) (by decide) ?_
    refine V_iload_n X dX8_patternPartsExist_148 rfl rfl ?_
    refine V_gload_n X dX8_patternPartsExist_149 rfl rfl ?_
    refine V_geti X ob_0 rfl rfl hin_X8 2 (Nat.le_of_ble_eq_true rfl) tw_403 rfl dX8_patternPartsExist_150 ?_
    refine V_cSI X hf [vi a2, vi (w 0 2)] _ 2 (fun _ h => m_X8_isBelow h) tw_678 tw_86 tw_676 tw_677 dX8_patternPartsExist_153 ⟨by decide +kernel, by decide +kernel, by decide +kernel⟩ ⟨rfl, rfl⟩ ⟨Nat.le_of_ble_eq_true rfl, Nat.le_of_ble_eq_true rfl⟩ rfl (Nat.le_of_ble_eq_true rfl) ⟨Nat.zero_le _, Nat.zero_le _⟩ (fun r11 w11 hf => ?_)
    obtain ⟨hz, hf⟩ := ite_n hf
    exact V_zret X hE dX8_patternPartsExist_156 hz hf
  refine ite_c hf (fun h9 hf => ?_) (fun h9 hf => ?_)
  · refine V_lookup X (off := 147) (tgt := 148) dX8_patternPartsExist_1 (by decide) (by exact off_neg h0 (off_neg h1 (off_neg h2 (off_neg h3 (off_neg h4 (off_neg h5 (off_neg h6 (off_neg h7 (off_neg h8 (off_pos h9)))))))))) (by decide) ?_
    refine V_iload_n X dX8_patternPartsExist_148 rfl rfl ?_
    refine V_gload_n X dX8_patternPartsExist_149 rfl rfl ?_
    refine V_geti X ob_0 rfl rfl hin_X8 2 (Nat.le_of_ble_eq_true rfl) tw_403 rfl dX8_patternPartsExist_150 ?_
    refine V_cSI X hf [vi a2, vi (w 0 2)] _ 2 (fun _ h => m_X8_isBelow h) tw_678 tw_86 tw_676 tw_677 dX8_patternPartsExist_153 ⟨by decide +kernel, by decide +kernel, by decide +kernel⟩ ⟨rfl, rfl⟩ ⟨Nat.le_of_ble_eq_true rfl, Nat.le_of_ble_eq_true rfl⟩ rfl (Nat.le_of_ble_eq_true rfl) ⟨Nat.zero_le _, Nat.zero_le _⟩ (fun r12 w12 hf => ?_)
    obtain ⟨hz, hf⟩ := ite_n hf
    exact V_zret X hE dX8_patternPartsExist_156 hz hf
  refine ite_c hf (fun h10 hf => ?_) (fun h10 hf => ?_)
  · refine V_lookup X (off := 238) (tgt := 239) dX8_patternPartsExist_1 (by decide) (by exact off_neg h0 (off_neg h1 (off_neg h2 (off_neg h3 (off_neg h4 (off_neg h5 (off_neg h6 (off_neg h7 (off_neg h8 (off_neg h9 (off_pos h10))))))))))) (by decide) ?_
    refine V_iload_n X dX8_patternPartsExist_239 rfl rfl ?_
    refine V_if_lt X (tgt := 253) dX8_patternPartsExist_240 (by decide) hf (fun hf => ?_) (fun hf => ?_)
    · refine V_iconst X dX8_patternPartsExist_253 ?_
      exact V_zret X hE dX8_patternPartsExist_254 (Or.inl rfl) hf
    · refine V_iload_n X dX8_patternPartsExist_243 rfl rfl ?_
      refine V_bipush X dX8_patternPartsExist_244 (by decide) ?_
      refine V_icmp_gt X (tgt := 253) dX8_patternPartsExist_246 (by decide) hf (fun hf => ?_) (fun hf => ?_)
      · refine V_iconst X dX8_patternPartsExist_253 ?_
        exact V_zret X hE dX8_patternPartsExist_254 (Or.inl rfl) hf
      · refine V_iconst X dX8_patternPartsExist_249 ?_
        refine V_goto X (tgt := 254) dX8_patternPartsExist_250 (by decide) ?_
        exact V_zret X hE dX8_patternPartsExist_254 (Or.inr rfl) hf
  refine ite_c hf (fun h11 hf => ?_) (fun h11 hf => ?_)
  · refine V_lookup X (off := 238) (tgt := 239) dX8_patternPartsExist_1 (by decide) (by exact off_neg h0 (off_neg h1 (off_neg h2 (off_neg h3 (off_neg h4 (off_neg h5 (off_neg h6 (off_neg h7 (off_neg h8 (off_neg h9 (off_neg h10 (off_pos h11)))))))))))) (by decide) ?_
    refine V_iload_n X dX8_patternPartsExist_239 rfl rfl ?_
    refine V_if_lt X (tgt := 253) dX8_patternPartsExist_240 (by decide) hf (fun hf => ?_) (fun hf => ?_)
    · refine V_iconst X dX8_patternPartsExist_253 ?_
      exact V_zret X hE dX8_patternPartsExist_254 (Or.inl rfl) hf
    · refine V_iload_n X dX8_patternPartsExist_243 rfl rfl ?_
      refine V_bipush X dX8_patternPartsExist_244 (by decide) ?_
      refine V_icmp_gt X (tgt := 253) dX8_patternPartsExist_246 (by decide) hf (fun hf => ?_) (fun hf => ?_)
      · refine V_iconst X dX8_patternPartsExist_253 ?_
        exact V_zret X hE dX8_patternPartsExist_254 (Or.inl rfl) hf
      · refine V_iconst X dX8_patternPartsExist_249 ?_
        refine V_goto X (tgt := 254) dX8_patternPartsExist_250 (by decide) ?_
        exact V_zret X hE dX8_patternPartsExist_254 (Or.inr rfl) hf
  refine ite_c hf (fun h12 hf => ?_) (fun h12 hf => ?_)
  · refine V_lookup X (off := 238) (tgt := 239) dX8_patternPartsExist_1 (by decide) (by exact off_neg h0 (off_neg h1 (off_neg h2 (off_neg h3 (off_neg h4 (off_neg h5 (off_neg h6 (off_neg h7 (off_neg h8 (off_neg h9 (off_neg h10 (off_neg h11 (off_pos h12))))))))))))) (by decide) ?_
    refine V_iload_n X dX8_patternPartsExist_239 rfl rfl ?_
    refine V_if_lt X (tgt := 253) dX8_patternPartsExist_240 (by decide) hf (fun hf => ?_) (fun hf => ?_)
    · refine V_iconst X dX8_patternPartsExist_253 ?_
      exact V_zret X hE dX8_patternPartsExist_254 (Or.inl rfl) hf
    · refine V_iload_n X dX8_patternPartsExist_243 rfl rfl ?_
      refine V_bipush X dX8_patternPartsExist_244 (by decide) ?_
      refine V_icmp_gt X (tgt := 253) dX8_patternPartsExist_246 (by decide) hf (fun hf => ?_) (fun hf => ?_)
      · refine V_iconst X dX8_patternPartsExist_253 ?_
        exact V_zret X hE dX8_patternPartsExist_254 (Or.inl rfl) hf
      · refine V_iconst X dX8_patternPartsExist_249 ?_
        refine V_goto X (tgt := 254) dX8_patternPartsExist_250 (by decide) ?_
        exact V_zret X hE dX8_patternPartsExist_254 (Or.inr rfl) hf
  refine ite_c hf (fun h13 hf => ?_) (fun h13 hf => ?_)
  · refine V_lookup X (off := 147) (tgt := 148) dX8_patternPartsExist_1 (by decide) (by exact off_neg h0 (off_neg h1 (off_neg h2 (off_neg h3 (off_neg h4 (off_neg h5 (off_neg h6 (off_neg h7 (off_neg h8 (off_neg h9 (off_neg h10 (off_neg h11 (off_neg h12 (off_pos h13)))))))))))))) (by decide) ?_
    refine V_iload_n X dX8_patternPartsExist_148 rfl rfl ?_
    refine V_gload_n X dX8_patternPartsExist_149 rfl rfl ?_
    refine V_geti X ob_0 rfl rfl hin_X8 2 (Nat.le_of_ble_eq_true rfl) tw_403 rfl dX8_patternPartsExist_150 ?_
    refine V_cSI X hf [vi a2, vi (w 0 2)] _ 2 (fun _ h => m_X8_isBelow h) tw_678 tw_86 tw_676 tw_677 dX8_patternPartsExist_153 ⟨by decide +kernel, by decide +kernel, by decide +kernel⟩ ⟨rfl, rfl⟩ ⟨Nat.le_of_ble_eq_true rfl, Nat.le_of_ble_eq_true rfl⟩ rfl (Nat.le_of_ble_eq_true rfl) ⟨Nat.zero_le _, Nat.zero_le _⟩ (fun r13 w13 hf => ?_)
    obtain ⟨hz, hf⟩ := ite_n hf
    exact V_zret X hE dX8_patternPartsExist_156 hz hf
  refine ite_c hf (fun h14 hf => ?_) (fun h14 hf => ?_)
  · refine V_lookup X (off := 238) (tgt := 239) dX8_patternPartsExist_1 (by decide) (by exact off_neg h0 (off_neg h1 (off_neg h2 (off_neg h3 (off_neg h4 (off_neg h5 (off_neg h6 (off_neg h7 (off_neg h8 (off_neg h9 (off_neg h10 (off_neg h11 (off_neg h12 (off_neg h13 (off_pos h14))))))))))))))) (by decide) ?_
    refine V_iload_n X dX8_patternPartsExist_239 rfl rfl ?_
    refine V_if_lt X (tgt := 253) dX8_patternPartsExist_240 (by decide) hf (fun hf => ?_) (fun hf => ?_)
    · refine V_iconst X dX8_patternPartsExist_253 ?_
      exact V_zret X hE dX8_patternPartsExist_254 (Or.inl rfl) hf
    · refine V_iload_n X dX8_patternPartsExist_243 rfl rfl ?_
      refine V_bipush X dX8_patternPartsExist_244 (by decide) ?_
      refine V_icmp_gt X (tgt := 253) dX8_patternPartsExist_246 (by decide) hf (fun hf => ?_) (fun hf => ?_)
      · refine V_iconst X dX8_patternPartsExist_253 ?_
        exact V_zret X hE dX8_patternPartsExist_254 (Or.inl rfl) hf
      · refine V_iconst X dX8_patternPartsExist_249 ?_
        refine V_goto X (tgt := 254) dX8_patternPartsExist_250 (by decide) ?_
        exact V_zret X hE dX8_patternPartsExist_254 (Or.inr rfl) hf
  refine ite_c hf (fun h15 hf => ?_) (fun h15 hf => ?_)
  · refine V_lookup X (off := 231) (tgt := 232) dX8_patternPartsExist_1 (by decide) (by exact off_neg h0 (off_neg h1 (off_neg h2 (off_neg h3 (off_neg h4 (off_neg h5 (off_neg h6 (off_neg h7 (off_neg h8 (off_neg h9 (off_neg h10 (off_neg h11 (off_neg h12 (off_neg h13 (off_neg h14 (off_pos h15)))))))))))))))) (by decide) ?_
    refine V_iload_n X dX8_patternPartsExist_232 rfl rfl ?_
    refine V_bipush X dX8_patternPartsExist_233 (by decide) ?_
    refine V_cSI X hf [vi a2, vi 26] _ 2 (fun _ h => m_X8_isBelow h) tw_678 tw_86 tw_676 tw_677 dX8_patternPartsExist_235 ⟨by decide +kernel, by decide +kernel, by decide +kernel⟩ ⟨rfl, rfl⟩ ⟨Nat.le_of_ble_eq_true rfl, Nat.le_of_ble_eq_true rfl⟩ rfl (Nat.le_of_ble_eq_true rfl) ⟨Nat.zero_le _, Nat.zero_le _⟩ (fun r14 w14 hf => ?_)
    obtain ⟨hz, hf⟩ := ite_n hf
    exact V_zret X hE dX8_patternPartsExist_238 hz hf
  refine ite_c hf (fun h16 hf => ?_) (fun h16 hf => ?_)
  · refine V_lookup X (off := 156) (tgt := 157) dX8_patternPartsExist_1 (by decide) (by exact off_neg h0 (off_neg h1 (off_neg h2 (off_neg h3 (off_neg h4 (off_neg h5 (off_neg h6 (off_neg h7 (off_neg h8 (off_neg h9 (off_neg h10 (off_neg h11 (off_neg h12 (off_neg h13 (off_neg h14 (off_neg h15 (off_pos h16))))))))))))))))) (by decide) ?_
    refine V_iload_n X dX8_patternPartsExist_157 rfl rfl ?_
    refine V_gload_n X dX8_patternPartsExist_158 rfl rfl ?_
    refine V_getr X ob_0 rfl rfl hin_X8 5 (Nat.le_of_ble_eq_true rfl) tw_406 rfl dX8_patternPartsExist_159 ?_
    refine V_getiN X ob_25 rfl rfl hin_X0 4 (Nat.le_of_ble_eq_true rfl) nw_6 rfl dX8_patternPartsExist_162 ?_
    refine V_cSI X hf [vi a2, vi (w 25 4)] _ 2 (fun _ h => m_X8_isBelow h) tw_678 tw_86 tw_676 tw_677 dX8_patternPartsExist_165 ⟨by decide +kernel, by decide +kernel, by decide +kernel⟩ ⟨rfl, rfl⟩ ⟨Nat.le_of_ble_eq_true rfl, Nat.le_of_ble_eq_true rfl⟩ rfl (Nat.le_of_ble_eq_true rfl) ⟨Nat.zero_le _, Nat.zero_le _⟩ (fun r15 w15 hf => ?_)
    refine V_if_eq X (tgt := 189) dX8_patternPartsExist_168 (by decide) hf (fun hf => ?_) (fun hf => ?_)
    · refine V_iconst X dX8_patternPartsExist_189 ?_
      exact V_zret X hE dX8_patternPartsExist_190 (Or.inl rfl) hf
    · refine V_iload_n X dX8_patternPartsExist_171 rfl rfl ?_
      refine V_gload_n X dX8_patternPartsExist_172 rfl rfl ?_
      refine V_getr X ob_0 rfl rfl hin_X8 5 (Nat.le_of_ble_eq_true rfl) tw_406 rfl dX8_patternPartsExist_173 ?_
      refine V_getiN X ob_25 rfl rfl hin_X0 4 (Nat.le_of_ble_eq_true rfl) nw_6 rfl dX8_patternPartsExist_176 ?_
      refine V_cSI X hf [vi a3, vi (w15 25 4)] _ 2 (fun _ h => m_X8_isBelow h) tw_678 tw_86 tw_676 tw_677 dX8_patternPartsExist_179 ⟨by decide +kernel, by decide +kernel, by decide +kernel⟩ ⟨rfl, rfl⟩ ⟨Nat.le_of_ble_eq_true rfl, Nat.le_of_ble_eq_true rfl⟩ rfl (Nat.le_of_ble_eq_true rfl) ⟨Nat.zero_le _, Nat.zero_le _⟩ (fun r16 w16 hf => ?_)
      refine V_if_eq X (tgt := 189) dX8_patternPartsExist_182 (by decide) hf (fun hf => ?_) (fun hf => ?_)
      · refine V_iconst X dX8_patternPartsExist_189 ?_
        exact V_zret X hE dX8_patternPartsExist_190 (Or.inl rfl) hf
      · refine V_iconst X dX8_patternPartsExist_185 ?_
        refine V_goto X (tgt := 190) dX8_patternPartsExist_186 (by decide) ?_
        exact V_zret X hE dX8_patternPartsExist_190 (Or.inr rfl) hf
  refine V_lookup X (off := 254) (tgt := 255) dX8_patternPartsExist_1 (by decide) (by exact off_neg h0 (off_neg h1 (off_neg h2 (off_neg h3 (off_neg h4 (off_neg h5 (off_neg h6 (off_neg h7 (off_neg h8 (off_neg h9 (off_neg h10 (off_neg h11 (off_neg h12 (off_neg h13 (off_neg h14 (off_neg h15 (off_neg h16 (rfl)))))))))))))))))) (by decide) ?_
  refine V_iconst X dX8_patternPartsExist_255 ?_
  exact V_zret X hE dX8_patternPartsExist_256 (Or.inr rfl) hf
abbrev rmX8_termPartsExist : Room := { frames := 1, cells := 0, slots := 0, locals := 21 }
set_option maxRecDepth 20000 in
theorem m_X8_termPartsExist {G : GG} {a1 : Int} {a2 : Int} {a3 : Int} {w : WS} {q : (Int × WS)}  (hf : f_X8_termPartsExist a1 a2 a3 w = some q) : MI G yX8_termPartsExist cX8_termPartsExist 4 (some .boolean) rmX8_termPartsExist [gr G 0, vi a1, vi a2, vi a3] w q := by
  refine MI_of (by decide +kernel) (Nat.le_of_ble_eq_true rfl) (fun E X hE => ?_)
  have X : Cx G E cX8_termPartsExist RX8 (some .boolean) rmX8_termPartsExist 4 := X
  unfold f_X8_termPartsExist at hf
  refine V_iload_n X dX8_termPartsExist_0 rfl rfl ?_
  refine ite_c hf (fun h0 hf => ?_) (fun h0 hf => ?_)
  · refine V_lookup X (off := 67) (tgt := 68) dX8_termPartsExist_1 (by decide) (by exact off_pos h0) (by decide) ?_
    refine V_iload_n X dX8_termPartsExist_68 rfl rfl ?_
    refine V_gload_n X dX8_termPartsExist_69 rfl rfl ?_
    refine V_getr X ob_0 rfl rfl hin_X8 6 (Nat.le_of_ble_eq_true rfl) tw_407 rfl dX8_termPartsExist_70 ?_
    refine V_getiN X ob_32 rfl rfl hin_X0 4 (Nat.le_of_ble_eq_true rfl) nw_6 rfl dX8_termPartsExist_73 ?_
    refine V_cSI X hf [vi a2, vi (w 32 4)] _ 2 (fun _ h => m_X8_isBelow h) tw_678 tw_86 tw_676 tw_677 dX8_termPartsExist_76 ⟨by decide +kernel, by decide +kernel, by decide +kernel⟩ ⟨rfl, rfl⟩ ⟨Nat.le_of_ble_eq_true rfl, Nat.le_of_ble_eq_true rfl⟩ rfl (Nat.le_of_ble_eq_true rfl) ⟨Nat.zero_le _, Nat.zero_le _⟩ (fun r1 w1 hf => ?_)
    obtain ⟨hz, hf⟩ := ite_n hf
    exact V_zret X hE dX8_termPartsExist_79 hz hf
  refine ite_c hf (fun h1 hf => ?_) (fun h1 hf => ?_)
  · refine V_lookup X (off := 67) (tgt := 68) dX8_termPartsExist_1 (by decide) (by exact off_neg h0 (off_pos h1)) (by decide) ?_
    refine V_iload_n X dX8_termPartsExist_68 rfl rfl ?_
    refine V_gload_n X dX8_termPartsExist_69 rfl rfl ?_
    refine V_getr X ob_0 rfl rfl hin_X8 6 (Nat.le_of_ble_eq_true rfl) tw_407 rfl dX8_termPartsExist_70 ?_
    refine V_getiN X ob_32 rfl rfl hin_X0 4 (Nat.le_of_ble_eq_true rfl) nw_6 rfl dX8_termPartsExist_73 ?_
    refine V_cSI X hf [vi a2, vi (w 32 4)] _ 2 (fun _ h => m_X8_isBelow h) tw_678 tw_86 tw_676 tw_677 dX8_termPartsExist_76 ⟨by decide +kernel, by decide +kernel, by decide +kernel⟩ ⟨rfl, rfl⟩ ⟨Nat.le_of_ble_eq_true rfl, Nat.le_of_ble_eq_true rfl⟩ rfl (Nat.le_of_ble_eq_true rfl) ⟨Nat.zero_le _, Nat.zero_le _⟩ (fun r2 w2 hf => ?_)
    obtain ⟨hz, hf⟩ := ite_n hf
    exact V_zret X hE dX8_termPartsExist_79 hz hf
  refine ite_c hf (fun h2 hf => ?_) (fun h2 hf => ?_)
  · refine V_lookup X (off := 51) (tgt := 52) dX8_termPartsExist_1 (by decide) (by exact off_neg h0 (off_neg h1 (off_pos h2))) (by decide) ?_
    refine V_iload_n X dX8_termPartsExist_52 rfl rfl ?_
    refine V_gload_n X dX8_termPartsExist_53 rfl rfl ?_
    refine V_geti X ob_0 rfl rfl hin_X8 2 (Nat.le_of_ble_eq_true rfl) tw_403 rfl dX8_termPartsExist_54 ?_
    refine V_cSI X hf [vi a2, vi (w 0 2)] _ 2 (fun _ h => m_X8_isBelow h) tw_678 tw_86 tw_676 tw_677 dX8_termPartsExist_57 ⟨by decide +kernel, by decide +kernel, by decide +kernel⟩ ⟨rfl, rfl⟩ ⟨Nat.le_of_ble_eq_true rfl, Nat.le_of_ble_eq_true rfl⟩ rfl (Nat.le_of_ble_eq_true rfl) ⟨Nat.zero_le _, Nat.zero_le _⟩ (fun r3 w3 hf => ?_)
    obtain ⟨hz, hf⟩ := ite_n hf
    exact V_zret X hE dX8_termPartsExist_60 hz hf
  refine ite_c hf (fun h3 hf => ?_) (fun h3 hf => ?_)
  · refine V_lookup X (off := 60) (tgt := 61) dX8_termPartsExist_1 (by decide) (by exact off_neg h0 (off_neg h1 (off_neg h2 (off_pos h3)))) (by decide) ?_
    refine V_iload_n X dX8_termPartsExist_61 rfl rfl ?_
    refine V_bipush X dX8_termPartsExist_62 (by decide) ?_
    refine V_cSI X hf [vi a2, vi 26] _ 2 (fun _ h => m_X8_isBelow h) tw_678 tw_86 tw_676 tw_677 dX8_termPartsExist_64 ⟨by decide +kernel, by decide +kernel, by decide +kernel⟩ ⟨rfl, rfl⟩ ⟨Nat.le_of_ble_eq_true rfl, Nat.le_of_ble_eq_true rfl⟩ rfl (Nat.le_of_ble_eq_true rfl) ⟨Nat.zero_le _, Nat.zero_le _⟩ (fun r4 w4 hf => ?_)
    obtain ⟨hz, hf⟩ := ite_n hf
    exact V_zret X hE dX8_termPartsExist_67 hz hf
  refine ite_c hf (fun h4 hf => ?_) (fun h4 hf => ?_)
  · refine V_lookup X (off := 67) (tgt := 68) dX8_termPartsExist_1 (by decide) (by exact off_neg h0 (off_neg h1 (off_neg h2 (off_neg h3 (off_pos h4))))) (by decide) ?_
    refine V_iload_n X dX8_termPartsExist_68 rfl rfl ?_
    refine V_gload_n X dX8_termPartsExist_69 rfl rfl ?_
    refine V_getr X ob_0 rfl rfl hin_X8 6 (Nat.le_of_ble_eq_true rfl) tw_407 rfl dX8_termPartsExist_70 ?_
    refine V_getiN X ob_32 rfl rfl hin_X0 4 (Nat.le_of_ble_eq_true rfl) nw_6 rfl dX8_termPartsExist_73 ?_
    refine V_cSI X hf [vi a2, vi (w 32 4)] _ 2 (fun _ h => m_X8_isBelow h) tw_678 tw_86 tw_676 tw_677 dX8_termPartsExist_76 ⟨by decide +kernel, by decide +kernel, by decide +kernel⟩ ⟨rfl, rfl⟩ ⟨Nat.le_of_ble_eq_true rfl, Nat.le_of_ble_eq_true rfl⟩ rfl (Nat.le_of_ble_eq_true rfl) ⟨Nat.zero_le _, Nat.zero_le _⟩ (fun r5 w5 hf => ?_)
    obtain ⟨hz, hf⟩ := ite_n hf
    exact V_zret X hE dX8_termPartsExist_79 hz hf
  refine V_lookup X (off := 79) (tgt := 80) dX8_termPartsExist_1 (by decide) (by exact off_neg h0 (off_neg h1 (off_neg h2 (off_neg h3 (off_neg h4 (rfl)))))) (by decide) ?_
  refine V_iload_n X dX8_termPartsExist_80 rfl rfl ?_
  refine V_gload_n X dX8_termPartsExist_81 rfl rfl ?_
  refine V_getr X ob_0 rfl rfl hin_X8 6 (Nat.le_of_ble_eq_true rfl) tw_407 rfl dX8_termPartsExist_82 ?_
  refine V_getiN X ob_32 rfl rfl hin_X0 4 (Nat.le_of_ble_eq_true rfl) nw_6 rfl dX8_termPartsExist_85 ?_
  refine V_cSI X hf [vi a2, vi (w 32 4)] _ 2 (fun _ h => m_X8_isBelow h) tw_678 tw_86 tw_676 tw_677 dX8_termPartsExist_88 ⟨by decide +kernel, by decide +kernel, by decide +kernel⟩ ⟨rfl, rfl⟩ ⟨Nat.le_of_ble_eq_true rfl, Nat.le_of_ble_eq_true rfl⟩ rfl (Nat.le_of_ble_eq_true rfl) ⟨Nat.zero_le _, Nat.zero_le _⟩ (fun r6 w6 hf => ?_)
  refine V_if_eq X (tgt := 112) dX8_termPartsExist_91 (by decide) hf (fun hf => ?_) (fun hf => ?_)
  · refine V_iconst X dX8_termPartsExist_112 ?_
    exact V_zret X hE dX8_termPartsExist_113 (Or.inl rfl) hf
  · refine V_iload_n X dX8_termPartsExist_94 rfl rfl ?_
    refine V_gload_n X dX8_termPartsExist_95 rfl rfl ?_
    refine V_getr X ob_0 rfl rfl hin_X8 6 (Nat.le_of_ble_eq_true rfl) tw_407 rfl dX8_termPartsExist_96 ?_
    refine V_getiN X ob_32 rfl rfl hin_X0 4 (Nat.le_of_ble_eq_true rfl) nw_6 rfl dX8_termPartsExist_99 ?_
    refine V_cSI X hf [vi a3, vi (w6 32 4)] _ 2 (fun _ h => m_X8_isBelow h) tw_678 tw_86 tw_676 tw_677 dX8_termPartsExist_102 ⟨by decide +kernel, by decide +kernel, by decide +kernel⟩ ⟨rfl, rfl⟩ ⟨Nat.le_of_ble_eq_true rfl, Nat.le_of_ble_eq_true rfl⟩ rfl (Nat.le_of_ble_eq_true rfl) ⟨Nat.zero_le _, Nat.zero_le _⟩ (fun r7 w7 hf => ?_)
    refine V_if_eq X (tgt := 112) dX8_termPartsExist_105 (by decide) hf (fun hf => ?_) (fun hf => ?_)
    · refine V_iconst X dX8_termPartsExist_112 ?_
      exact V_zret X hE dX8_termPartsExist_113 (Or.inl rfl) hf
    · refine V_iconst X dX8_termPartsExist_108 ?_
      refine V_goto X (tgt := 113) dX8_termPartsExist_109 (by decide) ?_
      exact V_zret X hE dX8_termPartsExist_113 (Or.inr rfl) hf
abbrev rmX6_append : Room := { frames := 0, cells := 0, slots := 0, locals := 0 }
set_option maxRecDepth 20000 in
theorem v_X6_append_72 {G : GG} {E : EE} (X : Cx G E cX6_append RX6 (some .boolean) rmX6_append 12) {q : (Int × WS)} (hE : EndI G E q) {i : Nat} {j : Nat} (hi : isX6 i) (hj : isX6 j) : ∀ (n : Nat) (a1 a6 a7 a8 a9 : Int) (w : WS), f_X6_append_72 i j  n a1 a6 a7 a8 a9 w = some q → VV G E 0 0 72 [(0, gr G i), (1, vi a1), (2, gr G j), (6, vi a6), (7, vi a7), (8, vi a8), (9, vi a9)] [] w := by
  intro n
  induction n with
  | zero => intro a1 a6 a7 a8 a9 w hf; cases hf
  | succ n ih =>
    intro a1 a6 a7 a8 a9 w hf
    rw [f_X6_append_72_s] at hf
    refine V_iload X dX6_append_72 rfl ?_
    refine V_iload X dX6_append_74 rfl ?_
    refine V_icmp_ge X (tgt := 145) dX6_append_76 (by decide) hf (fun hf => ?_) (fun hf => ?_)
    · refine V_iload X dX6_append_79 rfl ?_
      refine V_iload X dX6_append_81 rfl ?_
      refine V_iadd X dX6_append_83 ?_
      refine V_istore X dX6_append_84 (by decide) ?_
      refine V_iload X dX6_append_86 rfl ?_
      refine V_iload X dX6_append_88 rfl ?_
      refine V_iadd X dX6_append_90 ?_
      refine V_istore X dX6_append_91 (by decide) ?_
      refine V_iload X dX6_append_93 rfl ?_
      refine V_if_lt X (tgt := 123) dX6_append_95 (by decide) hf (fun hf => ?_) (fun hf => ?_)
      · refine V_iconst X dX6_append_123 ?_
        exact V_zret X hE dX6_append_124 (Or.inl rfl) hf
      · refine V_iload X dX6_append_98 rfl ?_
        refine V_gload_n X dX6_append_100 rfl rfl ?_
        refine V_getr X (ob_X6 hi) rfl rfl hin_X6 1 (Nat.le_of_ble_eq_true rfl) tw_127 (rr_X6_1 hi) dX6_append_101 ?_
        refine V_alen X (ar_X6_1 hi) (by decide) dX6_append_104 ?_
        refine V_icmp_ge X (tgt := 123) dX6_append_105 (by decide) hf (fun hf => ?_) (fun hf => ?_)
        · refine V_iload X dX6_append_108 rfl ?_
          refine V_if_lt X (tgt := 123) dX6_append_110 (by decide) hf (fun hf => ?_) (fun hf => ?_)
          · refine V_iconst X dX6_append_123 ?_
            exact V_zret X hE dX6_append_124 (Or.inl rfl) hf
          · refine V_iload X dX6_append_113 rfl ?_
            refine V_gload_n X dX6_append_115 rfl rfl ?_
            refine V_getr X (ob_X6 hj) rfl rfl hin_X6 1 (Nat.le_of_ble_eq_true rfl) tw_127 (rr_X6_1 hj) dX6_append_116 ?_
            refine V_alen X (ar_X6_1 hj) (by decide) dX6_append_119 ?_
            refine V_icmp_lt X (tgt := 125) dX6_append_120 (by decide) hf (fun hf => ?_) (fun hf => ?_)
            · refine V_gload_n X dX6_append_125 rfl rfl ?_
              refine V_getr X (ob_X6 hi) rfl rfl hin_X6 1 (Nat.le_of_ble_eq_true rfl) tw_127 (rr_X6_1 hi) dX6_append_126 ?_
              refine V_iload X dX6_append_129 rfl ?_
              refine V_gload_n X dX6_append_131 rfl rfl ?_
              refine V_getr X (ob_X6 hj) rfl rfl hin_X6 1 (Nat.le_of_ble_eq_true rfl) tw_127 (rr_X6_1 hj) dX6_append_132 ?_
              refine V_iload X dX6_append_135 rfl ?_
              refine V_iald X (ar_X6_1 hj) dX6_append_137 hf (fun hf => ?_)
              refine V_iast X (ar_X6_1 hi) dX6_append_138 hf (fun hf => ?_)
              refine V_iinc X dX6_append_139 rfl (by decide) ?_
              refine V_goto X (tgt := 72) dX6_append_142 (by decide) ?_
              exact V_cut [0, 1, 2, 6, 7, 8, 9] rfl (ih _ _ _ _ _ _ hf)
            · refine V_iconst X dX6_append_123 ?_
              exact V_zret X hE dX6_append_124 (Or.inl rfl) hf
        · refine V_iconst X dX6_append_123 ?_
          exact V_zret X hE dX6_append_124 (Or.inl rfl) hf
    · refine V_gload_n X dX6_append_145 rfl rfl ?_
      refine V_getr X (ob_X6 hi) rfl rfl hin_X6 2 (Nat.le_of_ble_eq_true rfl) tw_128 (rr_X6_2 hi) dX6_append_146 ?_
      refine V_iload_n X dX6_append_149 rfl rfl ?_
      refine V_dup2 X dX6_append_150 rfl rfl ?_
      refine V_iald X (ar_X6_2 hi) dX6_append_151 hf (fun hf => ?_)
      refine V_iload X dX6_append_152 rfl ?_
      refine V_iadd X dX6_append_154 ?_
      refine V_iast X (ar_X6_2 hi) dX6_append_155 hf (fun hf => ?_)
      refine V_iconst X dX6_append_156 ?_
      exact V_zret X hE dX6_append_157 (Or.inr rfl) hf
set_option maxRecDepth 20000 in
theorem m_X6_append {G : GG} {i : Nat} {a1 : Int} {j : Nat} {a3 : Int} {a4 : Int} {a5 : Int} {w : WS} {q : (Int × WS)} (hi : isX6 i) (hj : isX6 j) (hf : f_X6_append i a1 j a3 a4 a5 w = some q) : MI G yX6_append cX6_append 12 (some .boolean) rmX6_append [gr G i, vi a1, gr G j, vi a3, vi a4, vi a5] w q := by
  refine MI_of (by decide +kernel) (Nat.le_of_ble_eq_true rfl) (fun E X hE => ?_)
  have X : Cx G E cX6_append RX6 (some .boolean) rmX6_append 12 := X
  unfold f_X6_append at hf
  refine V_iload X dX6_append_0 rfl ?_
  refine V_iload X dX6_append_2 rfl ?_
  refine V_isub X dX6_append_4 ?_
  refine V_istore X dX6_append_5 (by decide) ?_
  refine V_iload_n X dX6_append_7 rfl rfl ?_
  refine V_if_lt X (tgt := 41) dX6_append_8 (by decide) hf (fun hf => ?_) (fun hf => ?_)
  · refine V_iconst X dX6_append_41 ?_
    exact V_zret X hE dX6_append_42 (Or.inl rfl) hf
  · refine V_iload_n X dX6_append_11 rfl rfl ?_
    refine V_gload_n X dX6_append_12 rfl rfl ?_
    refine V_getr X (ob_X6 hi) rfl rfl hin_X6 2 (Nat.le_of_ble_eq_true rfl) tw_128 (rr_X6_2 hi) dX6_append_13 ?_
    refine V_alen X (ar_X6_2 hi) (by decide) dX6_append_16 ?_
    refine V_icmp_ge X (tgt := 41) dX6_append_17 (by decide) hf (fun hf => ?_) (fun hf => ?_)
    · refine V_iload X dX6_append_20 rfl ?_
      refine V_if_lt X (tgt := 41) dX6_append_22 (by decide) hf (fun hf => ?_) (fun hf => ?_)
      · refine V_iconst X dX6_append_41 ?_
        exact V_zret X hE dX6_append_42 (Or.inl rfl) hf
      · refine V_iload X dX6_append_25 rfl ?_
        refine V_gload_n X dX6_append_27 rfl rfl ?_
        refine V_getc X (ob_X6 hi) rfl rfl hin_X6 0 (Nat.le_of_ble_eq_true rfl) tw_126 (rc_X6_0 hi) dX6_append_28 ?_
        refine V_gload_n X dX6_append_31 rfl rfl ?_
        refine V_getr X (ob_X6 hi) rfl rfl hin_X6 2 (Nat.le_of_ble_eq_true rfl) tw_128 (rr_X6_2 hi) dX6_append_32 ?_
        refine V_iload_n X dX6_append_35 rfl rfl ?_
        refine V_iald X (ar_X6_2 hi) dX6_append_36 hf (fun hf => ?_)
        refine V_isub X dX6_append_37 ?_
        refine V_icmp_le X (tgt := 43) dX6_append_38 (by decide) hf (fun hf => ?_) (fun hf => ?_)
        · refine V_iconst X dX6_append_41 ?_
          exact V_zret X hE dX6_append_42 (Or.inl rfl) hf
        · refine V_iload_n X dX6_append_43 rfl rfl ?_
          refine V_gload_n X dX6_append_44 rfl rfl ?_
          refine V_getc X (ob_X6 hi) rfl rfl hin_X6 0 (Nat.le_of_ble_eq_true rfl) tw_126 (rc_X6_0 hi) dX6_append_45 ?_
          refine V_imul X dX6_append_48 ?_
          refine V_gload_n X dX6_append_49 rfl rfl ?_
          refine V_getr X (ob_X6 hi) rfl rfl hin_X6 2 (Nat.le_of_ble_eq_true rfl) tw_128 (rr_X6_2 hi) dX6_append_50 ?_
          refine V_iload_n X dX6_append_53 rfl rfl ?_
          refine V_iald X (ar_X6_2 hi) dX6_append_54 hf (fun hf => ?_)
          refine V_iadd X dX6_append_55 ?_
          refine V_istore X dX6_append_56 (by decide) ?_
          refine V_iload_n X dX6_append_58 rfl rfl ?_
          refine V_gload_n X dX6_append_59 rfl rfl ?_
          refine V_getc X (ob_X6 hj) rfl rfl hin_X6 0 (Nat.le_of_ble_eq_true rfl) tw_126 (rc_X6_0 hj) dX6_append_60 ?_
          refine V_imul X dX6_append_63 ?_
          refine V_iload X dX6_append_64 rfl ?_
          refine V_iadd X dX6_append_66 ?_
          refine V_istore X dX6_append_67 (by decide) ?_
          refine V_iconst X dX6_append_69 ?_
          refine V_istore X dX6_append_70 (by decide) ?_
          exact V_cut [0, 1, 2, 6, 7, 8, 9] rfl (v_X6_append_72 X hE hi hj FU _ _ _ _ _ _ hf)
    · refine V_iconst X dX6_append_41 ?_
      exact V_zret X hE dX6_append_42 (Or.inl rfl) hf
abbrev rmX6_copy : Room := { frames := 1, cells := 0, slots := 0, locals := 31 }
set_option maxRecDepth 20000 in
theorem m_X6_copy {G : GG} {i : Nat} {a1 : Int} {j : Nat} {a3 : Int} {w : WS} {q : (Int × WS)} (hi : isX6 i) (hj : isX6 j) (hf : f_X6_copy i a1 j a3 w = some q) : MV G yX6_copy cX6_copy 4 none rmX6_copy [gr G i, vi a1, gr G j, vi a3] w q := by
  refine MV_of (by decide +kernel) (Nat.le_of_ble_eq_true rfl) (fun E X hE => ?_)
  have X : Cx G E cX6_copy RX6 none rmX6_copy 4 := X
  unfold f_X6_copy at hf
  refine V_gload_n X dX6_copy_0 rfl rfl ?_
  refine V_iload_n X dX6_copy_1 rfl rfl ?_
  refine V_cVV X hf [vi a1] _ 1 (fun _ h => m_X6_clear hi h) (ob_X6 hi) rfl tw_470 tw_87 tw_636 tw_468 tw_469 dX6_copy_2 ⟨by decide +kernel, by decide +kernel, by decide +kernel⟩ ⟨rfl, rfl⟩ ⟨Nat.le_of_ble_eq_true rfl, Nat.le_of_ble_eq_true rfl⟩ rfl (Nat.le_of_ble_eq_true rfl) ⟨Nat.zero_le _, Nat.zero_le _⟩ (fun r1 w1 hf => ?_)
  refine V_gload_n X dX6_copy_5 rfl rfl ?_
  refine V_iload_n X dX6_copy_6 rfl rfl ?_
  refine V_gload_n X dX6_copy_7 rfl rfl ?_
  refine V_iload_n X dX6_copy_8 rfl rfl ?_
  refine V_iconst X dX6_copy_9 ?_
  refine V_gload_n X dX6_copy_10 rfl rfl ?_
  refine V_iload_n X dX6_copy_11 rfl rfl ?_
  refine V_cVI X hf [vi a3] _ 1 (fun _ h => m_X6_length hj h) (ob_X6 hj) rfl tw_466 tw_87 tw_637 tw_464 tw_465 dX6_copy_12 ⟨by decide +kernel, by decide +kernel, by decide +kernel⟩ ⟨rfl, rfl⟩ ⟨Nat.le_of_ble_eq_true rfl, Nat.le_of_ble_eq_true rfl⟩ rfl (Nat.le_of_ble_eq_true rfl) ⟨Nat.zero_le _, Nat.zero_le _⟩ (fun r2 w2 hf => ?_)
  refine V_cVI X hf [vi a1, gr G j, vi a3, vi 0, vi r2] _ 5 (fun _ h => m_X6_append hi hj h) (ob_X6 hi) rfl tw_641 tw_87 tw_638 tw_639 tw_640 dX6_copy_15 ⟨by decide +kernel, by decide +kernel, by decide +kernel⟩ ⟨rfl, rfl⟩ ⟨Nat.le_of_ble_eq_true rfl, Nat.le_of_ble_eq_true rfl⟩ rfl (Nat.le_of_ble_eq_true rfl) ⟨Nat.zero_le _, Nat.zero_le _⟩ (fun r3 w3 hf => ?_)
  refine V_pop X dX6_copy_18 rfl ?_
  exact V_vret X hE dX6_copy_19 hf
abbrev rmX6_copyAll : Room := { frames := 2, cells := 0, slots := 0, locals := 54 }
set_option maxRecDepth 20000 in
theorem v_X6_copyAll_2 {G : GG} {E : EE} (X : Cx G E cX6_copyAll RX6 none rmX6_copyAll 3) {q : (Int × WS)} (hE : EndV G E q) {i : Nat} {j : Nat} (hi : isX6 i) (hj : isX6 j) : ∀ (n : Nat) (a2 : Int) (w : WS), f_X6_copyAll_2 i j  n a2 w = some q → VV G E 0 0 2 [(0, gr G i), (1, gr G j), (2, vi a2)] [] w := by
  intro n
  induction n with
  | zero => intro a2 w hf; cases hf
  | succ n ih =>
    intro a2 w hf
    rw [f_X6_copyAll_2_s] at hf
    refine V_iload_n X dX6_copyAll_2 rfl rfl ?_
    refine V_gload_n X dX6_copyAll_3 rfl rfl ?_
    refine V_getr X (ob_X6 hi) rfl rfl hin_X6 2 (Nat.le_of_ble_eq_true rfl) tw_128 (rr_X6_2 hi) dX6_copyAll_4 ?_
    refine V_alen X (ar_X6_2 hi) (by decide) dX6_copyAll_7 ?_
    refine V_icmp_ge X (tgt := 24) dX6_copyAll_8 (by decide) hf (fun hf => ?_) (fun hf => ?_)
    · refine V_gload_n X dX6_copyAll_11 rfl rfl ?_
      refine V_iload_n X dX6_copyAll_12 rfl rfl ?_
      refine V_gload_n X dX6_copyAll_13 rfl rfl ?_
      refine V_iload_n X dX6_copyAll_14 rfl rfl ?_
      refine V_cVV X hf [vi a2, gr G j, vi a2] _ 3 (fun _ h => m_X6_copy hi hj h) (ob_X6 hi) rfl tw_635 tw_87 tw_1220 tw_633 tw_634 dX6_copyAll_15 ⟨by decide +kernel, by decide +kernel, by decide +kernel⟩ ⟨rfl, rfl⟩ ⟨Nat.le_of_ble_eq_true rfl, Nat.le_of_ble_eq_true rfl⟩ rfl (Nat.le_of_ble_eq_true rfl) ⟨Nat.zero_le _, Nat.zero_le _⟩ (fun r1 w1 hf => ?_)
      refine V_iinc X dX6_copyAll_18 rfl (by decide) ?_
      refine V_goto X (tgt := 2) dX6_copyAll_21 (by decide) ?_
      exact V_cut [0, 1, 2] rfl (ih _ _ hf)
    · exact V_vret X hE dX6_copyAll_24 hf
set_option maxRecDepth 20000 in
theorem m_X6_copyAll {G : GG} {i : Nat} {j : Nat} {w : WS} {q : (Int × WS)} (hi : isX6 i) (hj : isX6 j) (hf : f_X6_copyAll i j w = some q) : MV G yX6_copyAll cX6_copyAll 3 none rmX6_copyAll [gr G i, gr G j] w q := by
  refine MV_of (by decide +kernel) (Nat.le_of_ble_eq_true rfl) (fun E X hE => ?_)
  have X : Cx G E cX6_copyAll RX6 none rmX6_copyAll 3 := X
  unfold f_X6_copyAll at hf
  refine V_iconst X dX6_copyAll_0 ?_
  refine V_istore_n X dX6_copyAll_1 rfl (by decide) ?_
  exact V_cut [0, 1, 2] rfl (v_X6_copyAll_2 X hE hi hj FU _ _ hf)
abbrev rmX2_prepare : Room := { frames := 2, cells := 0, slots := 0, locals := 54 }
set_option maxRecDepth 20000 in
theorem m_X2_prepare {G : GG} {j : Nat} {a2 : Int} {a3 : Int} {a4 : Int} {w : WS} {q : (Int × WS)} (hj : isX6 j) (hf : f_X2_prepare j a2 a3 a4 w = some q) : MV G yX2_prepare cX2_prepare 5 none rmX2_prepare [gr G 39, gr G j, vi a2, vi a3, vi a4] w q := by
  refine MV_of (by decide +kernel) (Nat.le_of_ble_eq_true rfl) (fun E X hE => ?_)
  have X : Cx G E cX2_prepare RX2 none rmX2_prepare 5 := X
  unfold f_X2_prepare at hf
  refine V_gload_n X dX2_prepare_0 rfl rfl ?_
  refine V_getr X ob_39 rfl rfl hin_X2 3 (Nat.le_of_ble_eq_true rfl) tw_209 rfl dX2_prepare_1 ?_
  refine V_iconst X dX2_prepare_4 ?_
  refine V_gload_n X dX2_prepare_5 rfl rfl ?_
  refine V_iload_n X dX2_prepare_6 rfl rfl ?_
  refine V_cVV X hf [vi 0, gr G j, vi a2] _ 3 (fun _ h => m_X6_copy is_13 hj h) ob_13 rfl tw_635 tw_87 tw_1024 tw_633 tw_634 dX2_prepare_7 ⟨by decide +kernel, by decide +kernel, by decide +kernel⟩ ⟨rfl, rfl⟩ ⟨Nat.le_of_ble_eq_true rfl, Nat.le_of_ble_eq_true rfl⟩ rfl (Nat.le_of_ble_eq_true rfl) ⟨Nat.zero_le _, Nat.zero_le _⟩ (fun r1 w1 hf => ?_)
  refine V_gload_n X dX2_prepare_10 rfl rfl ?_
  refine V_gload_n X dX2_prepare_11 rfl rfl ?_
  refine V_getr X ob_39 rfl rfl hin_X2 3 (Nat.le_of_ble_eq_true rfl) tw_209 rfl dX2_prepare_12 ?_
  refine V_iconst X dX2_prepare_15 ?_
  refine V_cVI X hf [vi 0] _ 1 (fun _ h => m_X6_length is_13 h) ob_13 rfl tw_466 tw_87 tw_1025 tw_464 tw_465 dX2_prepare_16 ⟨by decide +kernel, by decide +kernel, by decide +kernel⟩ ⟨rfl, rfl⟩ ⟨Nat.le_of_ble_eq_true rfl, Nat.le_of_ble_eq_true rfl⟩ rfl (Nat.le_of_ble_eq_true rfl) ⟨Nat.zero_le _, Nat.zero_le _⟩ (fun r2 w2 hf => ?_)
  refine V_puti X ob_39 rfl rfl hin_X2 10 (Nat.le_of_ble_eq_true rfl) tw_216 tyX2 tyX2_ok nmX2 rfl (by decide +kernel) rfl dX2_prepare_19 ?_
  refine V_gload_n X dX2_prepare_22 rfl rfl ?_
  refine V_iload_n X dX2_prepare_23 rfl rfl ?_
  refine V_puti X ob_39 rfl rfl hin_X2 8 (Nat.le_of_ble_eq_true rfl) tw_214 tyX2 tyX2_ok nmX2 rfl (by decide +kernel) rfl dX2_prepare_24 ?_
  refine V_gload_n X dX2_prepare_27 rfl rfl ?_
  refine V_iload X dX2_prepare_28 rfl ?_
  obtain ⟨hz, hf⟩ := ite_n hf
  refine V_putz X ob_39 rfl rfl hin_X2 9 (Nat.le_of_ble_eq_true rfl) tw_215 tyX2 tyX2_ok nmX2 rfl (by decide +kernel) hz rfl dX2_prepare_30 ?_
  refine V_gload_n X dX2_prepare_33 rfl rfl ?_
  refine V_iconst X dX2_prepare_34 ?_
  refine V_puti X ob_39 rfl rfl hin_X2 11 (Nat.le_of_ble_eq_true rfl) tw_217 tyX2 tyX2_ok nmX2 rfl (by decide +kernel) rfl dX2_prepare_35 ?_
  refine V_gload_n X dX2_prepare_38 rfl rfl ?_
  refine V_iconst X dX2_prepare_39 ?_
  refine V_puti X ob_39 rfl rfl hin_X2 12 (Nat.le_of_ble_eq_true rfl) tw_219 tyX2 tyX2_ok nmX2 rfl (by decide +kernel) rfl dX2_prepare_40 ?_
  refine V_gload_n X dX2_prepare_43 rfl rfl ?_
  refine V_getr X ob_39 rfl rfl hin_X2 4 (Nat.le_of_ble_eq_true rfl) tw_210 rfl dX2_prepare_44 ?_
  refine V_iconst X dX2_prepare_47 ?_
  refine V_putiN X ob_40 rfl rfl hin_X3 3 (Nat.le_of_ble_eq_true rfl) nw_7 tyX3 tyX3_ok nmX3 rfl (by decide +kernel) rfl dX2_prepare_48 ?_
  refine V_gload_n X dX2_prepare_51 rfl rfl ?_
  refine V_getr X ob_39 rfl rfl hin_X2 5 (Nat.le_of_ble_eq_true rfl) tw_211 rfl dX2_prepare_52 ?_
  refine V_iconst X dX2_prepare_55 ?_
  refine V_putiN X ob_44 rfl rfl hin_X3 3 (Nat.le_of_ble_eq_true rfl) nw_7 tyX3 tyX3_ok nmX3 rfl (by decide +kernel) rfl dX2_prepare_56 ?_
  exact V_vret X hE dX2_prepare_59 hf
abbrev rmX3_push : Room := { frames := 0, cells := 0, slots := 0, locals := 0 }
set_option maxRecDepth 20000 in
theorem m_X3_push {G : GG} {i : Nat} {a1 : Int} {a2 : Int} {a3 : Int} {w : WS} {q : (Int × WS)} (hi : isX3 i) (hf : f_X3_push i a1 a2 a3 w = some q) : MV G yX3_push cX3_push 4 none rmX3_push [gr G i, vi a1, vi a2, vi a3] w q := by
  refine MV_of (by decide +kernel) (Nat.le_of_ble_eq_true rfl) (fun E X hE => ?_)
  have X : Cx G E cX3_push RX3 none rmX3_push 4 := X
  unfold f_X3_push at hf
  refine V_gload_n X dX3_push_0 rfl rfl ?_
  refine V_geti X (ob_X3 hi) rfl rfl hin_X3 3 (Nat.le_of_ble_eq_true rfl) tw_193 (ri_X3_3 hi) dX3_push_1 ?_
  refine V_if_lt X (tgt := 83) dX3_push_4 (by decide) hf (fun hf => ?_) (fun hf => ?_)
  · exact V_vret X hE dX3_push_83 hf
  · refine V_gload_n X dX3_push_7 rfl rfl ?_
    refine V_geti X (ob_X3 hi) rfl rfl hin_X3 3 (Nat.le_of_ble_eq_true rfl) tw_193 (ri_X3_3 hi) dX3_push_8 ?_
    refine V_gload_n X dX3_push_11 rfl rfl ?_
    refine V_getr X (ob_X3 hi) rfl rfl hin_X3 0 (Nat.le_of_ble_eq_true rfl) tw_190 (rr_X3_0 hi) dX3_push_12 ?_
    refine V_alen X (ar_X3_1 hi) (by decide) dX3_push_15 ?_
    refine V_icmp_ge X (tgt := 83) dX3_push_16 (by decide) hf (fun hf => ?_) (fun hf => ?_)
    · refine V_gload_n X dX3_push_19 rfl rfl ?_
      refine V_geti X (ob_X3 hi) rfl rfl hin_X3 3 (Nat.le_of_ble_eq_true rfl) tw_193 (ri_X3_3 hi) dX3_push_20 ?_
      refine V_gload_n X dX3_push_23 rfl rfl ?_
      refine V_getr X (ob_X3 hi) rfl rfl hin_X3 1 (Nat.le_of_ble_eq_true rfl) tw_191 (rr_X3_1 hi) dX3_push_24 ?_
      refine V_alen X (ar_X3_2 hi) (by decide) dX3_push_27 ?_
      refine V_icmp_ge X (tgt := 83) dX3_push_28 (by decide) hf (fun hf => ?_) (fun hf => ?_)
      · refine V_gload_n X dX3_push_31 rfl rfl ?_
        refine V_geti X (ob_X3 hi) rfl rfl hin_X3 3 (Nat.le_of_ble_eq_true rfl) tw_193 (ri_X3_3 hi) dX3_push_32 ?_
        refine V_gload_n X dX3_push_35 rfl rfl ?_
        refine V_getr X (ob_X3 hi) rfl rfl hin_X3 2 (Nat.le_of_ble_eq_true rfl) tw_192 (rr_X3_2 hi) dX3_push_36 ?_
        refine V_alen X (ar_X3_3 hi) (by decide) dX3_push_39 ?_
        refine V_icmp_ge X (tgt := 83) dX3_push_40 (by decide) hf (fun hf => ?_) (fun hf => ?_)
        · refine V_gload_n X dX3_push_43 rfl rfl ?_
          refine V_getr X (ob_X3 hi) rfl rfl hin_X3 0 (Nat.le_of_ble_eq_true rfl) tw_190 (rr_X3_0 hi) dX3_push_44 ?_
          refine V_gload_n X dX3_push_47 rfl rfl ?_
          refine V_geti X (ob_X3 hi) rfl rfl hin_X3 3 (Nat.le_of_ble_eq_true rfl) tw_193 (ri_X3_3 hi) dX3_push_48 ?_
          refine V_iload_n X dX3_push_51 rfl rfl ?_
          refine V_iast X (ar_X3_1 hi) dX3_push_52 hf (fun hf => ?_)
          refine V_gload_n X dX3_push_53 rfl rfl ?_
          refine V_getr X (ob_X3 hi) rfl rfl hin_X3 1 (Nat.le_of_ble_eq_true rfl) tw_191 (rr_X3_1 hi) dX3_push_54 ?_
          refine V_gload_n X dX3_push_57 rfl rfl ?_
          refine V_geti X (ob_X3 hi) rfl rfl hin_X3 3 (Nat.le_of_ble_eq_true rfl) tw_193 (ri_X3_3 hi) dX3_push_58 ?_
          refine V_iload_n X dX3_push_61 rfl rfl ?_
          refine V_iast X (ar_X3_2 hi) dX3_push_62 hf (fun hf => ?_)
          refine V_gload_n X dX3_push_63 rfl rfl ?_
          refine V_getr X (ob_X3 hi) rfl rfl hin_X3 2 (Nat.le_of_ble_eq_true rfl) tw_192 (rr_X3_2 hi) dX3_push_64 ?_
          refine V_gload_n X dX3_push_67 rfl rfl ?_
          refine V_geti X (ob_X3 hi) rfl rfl hin_X3 3 (Nat.le_of_ble_eq_true rfl) tw_193 (ri_X3_3 hi) dX3_push_68 ?_
          refine V_iload_n X dX3_push_71 rfl rfl ?_
          refine V_iast X (ar_X3_3 hi) dX3_push_72 hf (fun hf => ?_)
          refine V_gload_n X dX3_push_73 rfl rfl ?_
          refine V_dup X dX3_push_74 rfl ?_
          refine V_geti X (ob_X3 hi) rfl rfl hin_X3 3 (Nat.le_of_ble_eq_true rfl) tw_193 (ri_X3_3 hi) dX3_push_75 ?_
          refine V_iconst X dX3_push_78 ?_
          refine V_iadd X dX3_push_79 ?_
          refine V_puti X (ob_X3 hi) rfl rfl hin_X3 3 (Nat.le_of_ble_eq_true rfl) tw_193 tyX3 tyX3_ok nmX3 rfl (by decide +kernel) (ri_X3_3 hi) dX3_push_80 ?_
          exact V_vret X hE dX3_push_83 hf
        · exact V_vret X hE dX3_push_83 hf
      · exact V_vret X hE dX3_push_83 hf
    · exact V_vret X hE dX3_push_83 hf
abbrev rmX2_addNode : Room := { frames := 1, cells := 0, slots := 0, locals := 23 }
set_option maxRecDepth 20000 in
theorem m_X2_addNode {G : GG}  {w : WS} {q : (Int × WS)}  (hf : f_X2_addNode  w = some q) : MV G yX2_addNode cX2_addNode 1 none rmX2_addNode [gr G 39] w q := by
  refine MV_of (by decide +kernel) (Nat.le_of_ble_eq_true rfl) (fun E X hE => ?_)
  have X : Cx G E cX2_addNode RX2 none rmX2_addNode 1 := X
  unfold f_X2_addNode at hf
  refine V_gload_n X dX2_addNode_0 rfl rfl ?_
  refine V_getr X ob_39 rfl rfl hin_X2 4 (Nat.le_of_ble_eq_true rfl) tw_210 rfl dX2_addNode_1 ?_
  refine V_gload_n X dX2_addNode_4 rfl rfl ?_
  refine V_geti X ob_39 rfl rfl hin_X2 13 (Nat.le_of_ble_eq_true rfl) tw_221 rfl dX2_addNode_5 ?_
  refine V_gload_n X dX2_addNode_8 rfl rfl ?_
  refine V_geti X ob_39 rfl rfl hin_X2 14 (Nat.le_of_ble_eq_true rfl) tw_222 rfl dX2_addNode_9 ?_
  refine V_gload_n X dX2_addNode_12 rfl rfl ?_
  refine V_geti X ob_39 rfl rfl hin_X2 15 (Nat.le_of_ble_eq_true rfl) tw_224 rfl dX2_addNode_13 ?_
  refine V_cVV X hf [vi (w 39 13), vi (w 39 14), vi (w 39 15)] _ 3 (fun _ h => m_X3_push is_40 h) ob_40 rfl tw_1043 tw_91 tw_1040 tw_1041 tw_1042 dX2_addNode_16 ⟨by decide +kernel, by decide +kernel, by decide +kernel⟩ ⟨rfl, rfl⟩ ⟨Nat.le_of_ble_eq_true rfl, Nat.le_of_ble_eq_true rfl⟩ rfl (Nat.le_of_ble_eq_true rfl) ⟨Nat.zero_le _, Nat.zero_le _⟩ (fun r1 w1 hf => ?_)
  refine V_gload_n X dX2_addNode_19 rfl rfl ?_
  refine V_gload_n X dX2_addNode_20 rfl rfl ?_
  refine V_getr X ob_39 rfl rfl hin_X2 4 (Nat.le_of_ble_eq_true rfl) tw_210 rfl dX2_addNode_21 ?_
  refine V_getiN X ob_40 rfl rfl hin_X3 3 (Nat.le_of_ble_eq_true rfl) nw_7 rfl dX2_addNode_24 ?_
  refine V_iconst X dX2_addNode_27 ?_
  refine V_isub X dX2_addNode_28 ?_
  refine V_puti X ob_39 rfl rfl hin_X2 15 (Nat.le_of_ble_eq_true rfl) tw_224 tyX2 tyX2_ok nmX2 rfl (by decide +kernel) rfl dX2_addNode_29 ?_
  exact V_vret X hE dX2_addNode_32 hf
abbrev rmX2_beginPart : Room := { frames := 0, cells := 0, slots := 0, locals := 0 }
set_option maxRecDepth 20000 in
theorem m_X2_beginPart {G : GG} {a1 : Int} {w : WS} {q : (Int × WS)}  (hf : f_X2_beginPart a1 w = some q) : MI G yX2_beginPart cX2_beginPart 2 (some .int) rmX2_beginPart [gr G 39, vi a1] w q := by
  refine MI_of (by decide +kernel) (Nat.le_of_ble_eq_true rfl) (fun E X hE => ?_)
  have X : Cx G E cX2_beginPart RX2 (some .int) rmX2_beginPart 2 := X
  unfold f_X2_beginPart at hf
  refine V_gload_n X dX2_beginPart_0 rfl rfl ?_
  refine V_iload_n X dX2_beginPart_1 rfl rfl ?_
  refine V_puti X ob_39 rfl rfl hin_X2 13 (Nat.le_of_ble_eq_true rfl) tw_221 tyX2 tyX2_ok nmX2 rfl (by decide +kernel) rfl dX2_beginPart_2 ?_
  refine V_iconst X dX2_beginPart_5 ?_
  exact V_iret X hE dX2_beginPart_6 hf
abbrev rmX1_put : Room := { frames := 0, cells := 0, slots := 0, locals := 0 }
set_option maxRecDepth 20000 in
theorem m_X1_put {G : GG} {i : Nat} {a1 : Int} {a2 : Int} {w : WS} {q : (Int × WS)} (hi : isX1 i) (hf : f_X1_put i a1 a2 w = some q) : MV G yX1_put cX1_put 3 none rmX1_put [gr G i, vi a1, vi a2] w q := by
  refine MV_of (by decide +kernel) (Nat.le_of_ble_eq_true rfl) (fun E X hE => ?_)
  have X : Cx G E cX1_put RX1 none rmX1_put 3 := X
  unfold f_X1_put at hf
  refine V_iload_n X dX1_put_0 rfl rfl ?_
  refine V_if_lt X (tgt := 20) dX1_put_1 (by decide) hf (fun hf => ?_) (fun hf => ?_)
  · exact V_vret X hE dX1_put_20 hf
  · refine V_iload_n X dX1_put_4 rfl rfl ?_
    refine V_gload_n X dX1_put_5 rfl rfl ?_
    refine V_getr X (ob_X1 hi) rfl rfl hin_X1 0 (Nat.le_of_ble_eq_true rfl) tw_149 (rr_X1_0 hi) dX1_put_6 ?_
    refine V_alen X (ar_X1_1 hi) (by decide) dX1_put_9 ?_
    refine V_icmp_ge X (tgt := 20) dX1_put_10 (by decide) hf (fun hf => ?_) (fun hf => ?_)
    · refine V_gload_n X dX1_put_13 rfl rfl ?_
      refine V_getr X (ob_X1 hi) rfl rfl hin_X1 0 (Nat.le_of_ble_eq_true rfl) tw_149 (rr_X1_0 hi) dX1_put_14 ?_
      refine V_iload_n X dX1_put_17 rfl rfl ?_
      refine V_iload_n X dX1_put_18 rfl rfl ?_
      refine V_iast X (ar_X1_1 hi) dX1_put_19 hf (fun hf => ?_)
      exact V_vret X hE dX1_put_20 hf
    · exact V_vret X hE dX1_put_20 hf
abbrev rmX2_addChoice : Room := { frames := 1, cells := 0, slots := 0, locals := 23 }
set_option maxRecDepth 20000 in
theorem m_X2_addChoice {G : GG}  {w : WS} {q : (Int × WS)}  (hf : f_X2_addChoice  w = some q) : MV G yX2_addChoice cX2_addChoice 1 none rmX2_addChoice [gr G 39] w q := by
  refine MV_of (by decide +kernel) (Nat.le_of_ble_eq_true rfl) (fun E X hE => ?_)
  have X : Cx G E cX2_addChoice RX2 none rmX2_addChoice 1 := X
  unfold f_X2_addChoice at hf
  refine V_gload_n X dX2_addChoice_0 rfl rfl ?_
  refine V_getr X ob_39 rfl rfl hin_X2 6 (Nat.le_of_ble_eq_true rfl) tw_212 rfl dX2_addChoice_1 ?_
  refine V_gload_n X dX2_addChoice_4 rfl rfl ?_
  refine V_getr X ob_39 rfl rfl hin_X2 5 (Nat.le_of_ble_eq_true rfl) tw_211 rfl dX2_addChoice_5 ?_
  refine V_getiN X ob_44 rfl rfl hin_X3 3 (Nat.le_of_ble_eq_true rfl) nw_7 rfl dX2_addChoice_8 ?_
  refine V_gload_n X dX2_addChoice_11 rfl rfl ?_
  refine V_getr X ob_39 rfl rfl hin_X2 7 (Nat.le_of_ble_eq_true rfl) tw_213 rfl dX2_addChoice_12 ?_
  refine V_getiN X ob_50 rfl rfl hin_X3 3 (Nat.le_of_ble_eq_true rfl) nw_7 rfl dX2_addChoice_15 ?_
  refine V_cVV X hf [vi (w 44 3), vi (w 50 3)] _ 2 (fun _ h => m_X1_put is_48 h) ob_48 rfl tw_839 tw_89 tw_1052 tw_837 tw_838 dX2_addChoice_18 ⟨by decide +kernel, by decide +kernel, by decide +kernel⟩ ⟨rfl, rfl⟩ ⟨Nat.le_of_ble_eq_true rfl, Nat.le_of_ble_eq_true rfl⟩ rfl (Nat.le_of_ble_eq_true rfl) ⟨Nat.zero_le _, Nat.zero_le _⟩ (fun r1 w1 hf => ?_)
  refine V_gload_n X dX2_addChoice_21 rfl rfl ?_
  refine V_getr X ob_39 rfl rfl hin_X2 5 (Nat.le_of_ble_eq_true rfl) tw_211 rfl dX2_addChoice_22 ?_
  refine V_gload_n X dX2_addChoice_25 rfl rfl ?_
  refine V_geti X ob_39 rfl rfl hin_X2 13 (Nat.le_of_ble_eq_true rfl) tw_221 rfl dX2_addChoice_26 ?_
  refine V_gload_n X dX2_addChoice_29 rfl rfl ?_
  refine V_geti X ob_39 rfl rfl hin_X2 14 (Nat.le_of_ble_eq_true rfl) tw_222 rfl dX2_addChoice_30 ?_
  refine V_gload_n X dX2_addChoice_33 rfl rfl ?_
  refine V_geti X ob_39 rfl rfl hin_X2 15 (Nat.le_of_ble_eq_true rfl) tw_224 rfl dX2_addChoice_34 ?_
  refine V_cVV X hf [vi (w1 39 13), vi (w1 39 14), vi (w1 39 15)] _ 3 (fun _ h => m_X3_push is_44 h) ob_44 rfl tw_1043 tw_91 tw_1040 tw_1041 tw_1042 dX2_addChoice_37 ⟨by decide +kernel, by decide +kernel, by decide +kernel⟩ ⟨rfl, rfl⟩ ⟨Nat.le_of_ble_eq_true rfl, Nat.le_of_ble_eq_true rfl⟩ rfl (Nat.le_of_ble_eq_true rfl) ⟨Nat.zero_le _, Nat.zero_le _⟩ (fun r2 w2 hf => ?_)
  exact V_vret X hE dX2_addChoice_40 hf
abbrev rmX6_add : Room := { frames := 0, cells := 0, slots := 0, locals := 0 }
set_option maxRecDepth 20000 in
theorem m_X6_add {G : GG} {i : Nat} {a1 : Int} {a2 : Int} {w : WS} {q : (Int × WS)} (hi : isX6 i) (hf : f_X6_add i a1 a2 w = some q) : MV G yX6_add cX6_add 4 none rmX6_add [gr G i, vi a1, vi a2] w q := by
  refine MV_of (by decide +kernel) (Nat.le_of_ble_eq_true rfl) (fun E X hE => ?_)
  have X : Cx G E cX6_add RX6 none rmX6_add 4 := X
  unfold f_X6_add at hf
  refine V_iload_n X dX6_add_0 rfl rfl ?_
  refine V_if_lt X (tgt := 26) dX6_add_1 (by decide) hf (fun hf => ?_) (fun hf => ?_)
  · exact V_vret X hE dX6_add_26 hf
  · refine V_iload_n X dX6_add_4 rfl rfl ?_
    refine V_gload_n X dX6_add_5 rfl rfl ?_
    refine V_getr X (ob_X6 hi) rfl rfl hin_X6 2 (Nat.le_of_ble_eq_true rfl) tw_128 (rr_X6_2 hi) dX6_add_6 ?_
    refine V_alen X (ar_X6_2 hi) (by decide) dX6_add_9 ?_
    refine V_icmp_ge X (tgt := 26) dX6_add_10 (by decide) hf (fun hf => ?_) (fun hf => ?_)
    · refine V_gload_n X dX6_add_13 rfl rfl ?_
      refine V_getr X (ob_X6 hi) rfl rfl hin_X6 2 (Nat.le_of_ble_eq_true rfl) tw_128 (rr_X6_2 hi) dX6_add_14 ?_
      refine V_iload_n X dX6_add_17 rfl rfl ?_
      refine V_iald X (ar_X6_2 hi) dX6_add_18 hf (fun hf => ?_)
      refine V_gload_n X dX6_add_19 rfl rfl ?_
      refine V_getc X (ob_X6 hi) rfl rfl hin_X6 0 (Nat.le_of_ble_eq_true rfl) tw_126 (rc_X6_0 hi) dX6_add_20 ?_
      refine V_icmp_lt X (tgt := 27) dX6_add_23 (by decide) hf (fun hf => ?_) (fun hf => ?_)
      · refine V_iload_n X dX6_add_27 rfl rfl ?_
        refine V_gload_n X dX6_add_28 rfl rfl ?_
        refine V_getc X (ob_X6 hi) rfl rfl hin_X6 0 (Nat.le_of_ble_eq_true rfl) tw_126 (rc_X6_0 hi) dX6_add_29 ?_
        refine V_imul X dX6_add_32 ?_
        refine V_gload_n X dX6_add_33 rfl rfl ?_
        refine V_getr X (ob_X6 hi) rfl rfl hin_X6 2 (Nat.le_of_ble_eq_true rfl) tw_128 (rr_X6_2 hi) dX6_add_34 ?_
        refine V_iload_n X dX6_add_37 rfl rfl ?_
        refine V_iald X (ar_X6_2 hi) dX6_add_38 hf (fun hf => ?_)
        refine V_iadd X dX6_add_39 ?_
        refine V_istore_n X dX6_add_40 rfl (by decide) ?_
        refine V_iload_n X dX6_add_41 rfl rfl ?_
        refine V_if_lt X (tgt := 71) dX6_add_42 (by decide) hf (fun hf => ?_) (fun hf => ?_)
        · exact V_vret X hE dX6_add_71 hf
        · refine V_iload_n X dX6_add_45 rfl rfl ?_
          refine V_gload_n X dX6_add_46 rfl rfl ?_
          refine V_getr X (ob_X6 hi) rfl rfl hin_X6 1 (Nat.le_of_ble_eq_true rfl) tw_127 (rr_X6_1 hi) dX6_add_47 ?_
          refine V_alen X (ar_X6_1 hi) (by decide) dX6_add_50 ?_
          refine V_icmp_ge X (tgt := 71) dX6_add_51 (by decide) hf (fun hf => ?_) (fun hf => ?_)
          · refine V_gload_n X dX6_add_54 rfl rfl ?_
            refine V_getr X (ob_X6 hi) rfl rfl hin_X6 1 (Nat.le_of_ble_eq_true rfl) tw_127 (rr_X6_1 hi) dX6_add_55 ?_
            refine V_iload_n X dX6_add_58 rfl rfl ?_
            refine V_iload_n X dX6_add_59 rfl rfl ?_
            refine V_iast X (ar_X6_1 hi) dX6_add_60 hf (fun hf => ?_)
            refine V_gload_n X dX6_add_61 rfl rfl ?_
            refine V_getr X (ob_X6 hi) rfl rfl hin_X6 2 (Nat.le_of_ble_eq_true rfl) tw_128 (rr_X6_2 hi) dX6_add_62 ?_
            refine V_iload_n X dX6_add_65 rfl rfl ?_
            refine V_dup2 X dX6_add_66 rfl rfl ?_
            refine V_iald X (ar_X6_2 hi) dX6_add_67 hf (fun hf => ?_)
            refine V_iconst X dX6_add_68 ?_
            refine V_iadd X dX6_add_69 ?_
            refine V_iast X (ar_X6_2 hi) dX6_add_70 hf (fun hf => ?_)
            exact V_vret X hE dX6_add_71 hf
          · exact V_vret X hE dX6_add_71 hf
      · exact V_vret X hE dX6_add_26 hf
    · exact V_vret X hE dX6_add_26 hf
abbrev rmX6_writeNumber : Room := { frames := 1, cells := 0, slots := 0, locals := 23 }
set_option maxRecDepth 20000 in
theorem v_X6_writeNumber_98 {G : GG} {E : EE} (X : Cx G E cX6_writeNumber RX6 none rmX6_writeNumber 10) {q : (Int × WS)} (hE : EndV G E q) {i : Nat} (hi : isX6 i) {k40 : Int → Int → Int → Int → WS → Option (Int × WS)} (hk40 : ∀ (a1 a4 a6 a7 : Int) (w : WS), k40 a1 a4 a6 a7 w = some q → VV G E 0 0 40 [(0, gr G i), (1, vi a1), (4, vl a4), (6, vi a6), (7, vl a7)] [] w) {a1 a4 a6 a7 : Int} {w : WS} (hf : f_X6_writeNumber_98 i k40 a1 a4 a6 a7 w = some q) : VV G E 0 0 98 [(0, gr G i), (1, vi a1), (4, vl a4), (6, vi a6), (7, vl a7)] [] w := by
  unfold f_X6_writeNumber_98 at hf
  refine V_lload X dX6_writeNumber_98 rfl ?_
  refine V_ldc2 (a := 10) X tw_974 dX6_writeNumber_100 (by decide) ?_
  obtain ⟨hne, hf⟩ := ite_n hf
  refine V_ldiv X dX6_writeNumber_103 hne ?_
  refine V_lstore X dX6_writeNumber_104 (by decide) ?_
  refine V_goto X (tgt := 40) dX6_writeNumber_106 (by decide) ?_
  exact V_cut [0, 1, 4, 6, 7] rfl (hk40 _ _ _ _ _ hf)
set_option maxRecDepth 20000 in
theorem v_X6_writeNumber_81 {G : GG} {E : EE} (X : Cx G E cX6_writeNumber RX6 none rmX6_writeNumber 10) {q : (Int × WS)} (hE : EndV G E q) {i : Nat} (hi : isX6 i) {k40 : Int → Int → Int → Int → WS → Option (Int × WS)} (hk40 : ∀ (a1 a4 a6 a7 : Int) (w : WS), k40 a1 a4 a6 a7 w = some q → VV G E 0 0 40 [(0, gr G i), (1, vi a1), (4, vl a4), (6, vi a6), (7, vl a7)] [] w) {a1 a4 a7 a9 s0 : Int} {w : WS} (hf : f_X6_writeNumber_81 i k40 a1 a4 a7 a9 s0 w = some q) : VV G E 0 0 81 [(0, gr G i), (1, vi a1), (4, vl a4), (7, vl a7), (9, vi a9)] [vi s0] w := by
  unfold f_X6_writeNumber_81 at hf
  refine V_istore X dX6_writeNumber_81 (by decide) ?_
  refine V_iload X dX6_writeNumber_83 rfl ?_
  refine V_if_eq X (tgt := 98) dX6_writeNumber_85 (by decide) hf (fun hf => ?_) (fun hf => ?_)
  · exact V_cut [0, 1, 4, 6, 7] rfl (v_X6_writeNumber_98 X hE hi hk40 hf)
  · refine V_gload_n X dX6_writeNumber_88 rfl rfl ?_
    refine V_iload_n X dX6_writeNumber_89 rfl rfl ?_
    refine V_bipush X dX6_writeNumber_90 (by decide) ?_
    refine V_iload X dX6_writeNumber_92 rfl ?_
    refine V_iadd X dX6_writeNumber_94 ?_
    refine V_cVV X hf [vi a1, vi (48 + a9)] _ 2 (fun _ h => m_X6_add hi h) (ob_X6 hi) rfl tw_606 tw_87 tw_989 tw_604 tw_605 dX6_writeNumber_95 ⟨by decide +kernel, by decide +kernel, by decide +kernel⟩ ⟨rfl, rfl⟩ ⟨Nat.le_of_ble_eq_true rfl, Nat.le_of_ble_eq_true rfl⟩ rfl (Nat.le_of_ble_eq_true rfl) ⟨Nat.zero_le _, Nat.zero_le _⟩ (fun r3 w3 hf => ?_)
    exact V_cut [0, 1, 4, 6, 7] rfl (v_X6_writeNumber_98 X hE hi hk40 hf)
set_option maxRecDepth 20000 in
theorem v_X6_writeNumber_76 {G : GG} {E : EE} (X : Cx G E cX6_writeNumber RX6 none rmX6_writeNumber 10) {q : (Int × WS)} (hE : EndV G E q) {i : Nat} (hi : isX6 i) {k40 : Int → Int → Int → Int → WS → Option (Int × WS)} (hk40 : ∀ (a1 a4 a6 a7 : Int) (w : WS), k40 a1 a4 a6 a7 w = some q → VV G E 0 0 40 [(0, gr G i), (1, vi a1), (4, vl a4), (6, vi a6), (7, vl a7)] [] w) {a1 a4 a7 a9 : Int} {w : WS} (hf : f_X6_writeNumber_76 i k40 a1 a4 a7 a9 w = some q) : VV G E 0 0 76 [(0, gr G i), (1, vi a1), (4, vl a4), (7, vl a7), (9, vi a9)] [] w := by
  unfold f_X6_writeNumber_76 at hf
  refine V_iconst X dX6_writeNumber_76 ?_
  refine V_goto X (tgt := 81) dX6_writeNumber_77 (by decide) ?_
  exact V_cut [0, 1, 4, 7, 9] rfl (v_X6_writeNumber_81 X hE hi hk40 hf)
set_option maxRecDepth 20000 in
theorem v_X6_writeNumber_40 {G : GG} {E : EE} (X : Cx G E cX6_writeNumber RX6 none rmX6_writeNumber 10) {q : (Int × WS)} (hE : EndV G E q) {i : Nat} (hi : isX6 i) : ∀ (n : Nat) (a1 a4 a6 a7 : Int) (w : WS), f_X6_writeNumber_40 i  n a1 a4 a6 a7 w = some q → VV G E 0 0 40 [(0, gr G i), (1, vi a1), (4, vl a4), (6, vi a6), (7, vl a7)] [] w := by
  intro n
  induction n with
  | zero => intro a1 a4 a6 a7 w hf; cases hf
  | succ n ih =>
    intro a1 a4 a6 a7 w hf
    rw [f_X6_writeNumber_40_s] at hf
    refine V_lload X dX6_writeNumber_40 rfl ?_
    refine V_lconst (a := 0) X dX6_writeNumber_42 (by decide) ?_
    refine V_lcmp_le X (tgt := 109) (pc2 := 44) dX6_writeNumber_43 rfl dX6_writeNumber_44 (by decide) hf (fun hf => ?_) (fun hf => ?_)
    · refine V_lload X dX6_writeNumber_47 rfl ?_
      refine V_lload X dX6_writeNumber_49 rfl ?_
      obtain ⟨hne, hf⟩ := ite_n hf
      refine V_ldiv X dX6_writeNumber_51 hne ?_
      refine V_ldc2 (a := 10) X tw_974 dX6_writeNumber_52 (by decide) ?_
      obtain ⟨hne, hf⟩ := ite_n hf
      refine V_lrem X dX6_writeNumber_55 hne ?_
      refine V_l2i X dX6_writeNumber_56 ?_
      refine V_istore X dX6_writeNumber_57 (by decide) ?_
      refine V_iload X dX6_writeNumber_59 rfl ?_
      refine V_if_ne X (tgt := 76) dX6_writeNumber_61 (by decide) hf (fun hf => ?_) (fun hf => ?_)
      · refine V_iload X dX6_writeNumber_64 rfl ?_
        refine V_if_gt X (tgt := 76) dX6_writeNumber_66 (by decide) hf (fun hf => ?_) (fun hf => ?_)
        · exact V_cut [0, 1, 4, 7, 9] rfl (v_X6_writeNumber_76 X hE hi (fun x0 x1 x2 x3 x hf => ih x0 x1 x2 x3 x hf) hf)
        · refine V_lload X dX6_writeNumber_69 rfl ?_
          refine V_lconst (a := 1) X dX6_writeNumber_71 (by decide) ?_
          refine V_lcmp_ne X (tgt := 80) (pc2 := 73) dX6_writeNumber_72 rfl dX6_writeNumber_73 (by decide) hf (fun hf => ?_) (fun hf => ?_)
          · exact V_cut [0, 1, 4, 7, 9] rfl (v_X6_writeNumber_76 X hE hi (fun x0 x1 x2 x3 x hf => ih x0 x1 x2 x3 x hf) hf)
          · refine V_iconst X dX6_writeNumber_80 ?_
            exact V_cut [0, 1, 4, 7, 9] rfl (v_X6_writeNumber_81 X hE hi (fun x0 x1 x2 x3 x hf => ih x0 x1 x2 x3 x hf) hf)
      · exact V_cut [0, 1, 4, 7, 9] rfl (v_X6_writeNumber_76 X hE hi (fun x0 x1 x2 x3 x hf => ih x0 x1 x2 x3 x hf) hf)
    · exact V_vret X hE dX6_writeNumber_109 hf
set_option maxRecDepth 20000 in
theorem v_X6_writeNumber_30 {G : GG} {E : EE} (X : Cx G E cX6_writeNumber RX6 none rmX6_writeNumber 10) {q : (Int × WS)} (hE : EndV G E q) {i : Nat} (hi : isX6 i) {a1 s0 : Int} {w : WS} (hf : f_X6_writeNumber_30 i  a1 s0 w = some q) : VV G E 0 0 30 [(0, gr G i), (1, vi a1)] [vl s0] w := by
  unfold f_X6_writeNumber_30 at hf
  refine V_lstore X dX6_writeNumber_30 (by decide) ?_
  refine V_iconst X dX6_writeNumber_32 ?_
  refine V_istore X dX6_writeNumber_33 (by decide) ?_
  refine V_ldc2 (a := 100000000) X tw_990 dX6_writeNumber_35 (by decide) ?_
  refine V_lstore X dX6_writeNumber_38 (by decide) ?_
  exact V_cut [0, 1, 4, 6, 7] rfl (v_X6_writeNumber_40 X hE hi FU _ _ _ _ _ hf)
set_option maxRecDepth 20000 in
theorem v_X6_writeNumber_18 {G : GG} {E : EE} (X : Cx G E cX6_writeNumber RX6 none rmX6_writeNumber 10) {q : (Int × WS)} (hE : EndV G E q) {i : Nat} (hi : isX6 i) {a1 a2 : Int} {w : WS} (hf : f_X6_writeNumber_18 i  a1 a2 w = some q) : VV G E 0 0 18 [(0, gr G i), (1, vi a1), (2, vl a2)] [] w := by
  unfold f_X6_writeNumber_18 at hf
  refine V_lload_n X dX6_writeNumber_18 rfl rfl ?_
  refine V_lconst (a := 0) X dX6_writeNumber_19 (by decide) ?_
  refine V_lcmp_ge X (tgt := 29) (pc2 := 21) dX6_writeNumber_20 rfl dX6_writeNumber_21 (by decide) hf (fun hf => ?_) (fun hf => ?_)
  · refine V_lload_n X dX6_writeNumber_24 rfl rfl ?_
    refine V_lneg X dX6_writeNumber_25 ?_
    refine V_goto X (tgt := 30) dX6_writeNumber_26 (by decide) ?_
    exact V_cut [0, 1] rfl (v_X6_writeNumber_30 X hE hi hf)
  · refine V_lload_n X dX6_writeNumber_29 rfl rfl ?_
    exact V_cut [0, 1] rfl (v_X6_writeNumber_30 X hE hi hf)
set_option maxRecDepth 20000 in
theorem m_X6_writeNumber {G : GG} {i : Nat} {a1 : Int} {a2 : Int} {w : WS} {q : (Int × WS)} (hi : isX6 i) (hf : f_X6_writeNumber i a1 a2 w = some q) : MV G yX6_writeNumber cX6_writeNumber 10 none rmX6_writeNumber [gr G i, vi a1, vl a2] w q := by
  refine MV_of (by decide +kernel) (Nat.le_of_ble_eq_true rfl) (fun E X hE => ?_)
  have X : Cx G E cX6_writeNumber RX6 none rmX6_writeNumber 10 := X
  unfold f_X6_writeNumber at hf
  refine V_gload_n X dX6_writeNumber_0 rfl rfl ?_
  refine V_iload_n X dX6_writeNumber_1 rfl rfl ?_
  refine V_cVV X hf [vi a1] _ 1 (fun _ h => m_X6_clear hi h) (ob_X6 hi) rfl tw_470 tw_87 tw_636 tw_468 tw_469 dX6_writeNumber_2 ⟨by decide +kernel, by decide +kernel, by decide +kernel⟩ ⟨rfl, rfl⟩ ⟨Nat.le_of_ble_eq_true rfl, Nat.le_of_ble_eq_true rfl⟩ rfl (Nat.le_of_ble_eq_true rfl) ⟨Nat.zero_le _, Nat.zero_le _⟩ (fun r1 w1 hf => ?_)
  refine V_lload_n X dX6_writeNumber_5 rfl rfl ?_
  refine V_lconst (a := 0) X dX6_writeNumber_6 (by decide) ?_
  refine V_lcmp_ge X (tgt := 18) (pc2 := 8) dX6_writeNumber_7 rfl dX6_writeNumber_8 (by decide) hf (fun hf => ?_) (fun hf => ?_)
  · refine V_gload_n X dX6_writeNumber_11 rfl rfl ?_
    refine V_iload_n X dX6_writeNumber_12 rfl rfl ?_
    refine V_bipush X dX6_writeNumber_13 (by decide) ?_
    refine V_cVV X hf [vi a1, vi 45] _ 2 (fun _ h => m_X6_add hi h) (ob_X6 hi) rfl tw_606 tw_87 tw_989 tw_604 tw_605 dX6_writeNumber_15 ⟨by decide +kernel, by decide +kernel, by decide +kernel⟩ ⟨rfl, rfl⟩ ⟨Nat.le_of_ble_eq_true rfl, Nat.le_of_ble_eq_true rfl⟩ rfl (Nat.le_of_ble_eq_true rfl) ⟨Nat.zero_le _, Nat.zero_le _⟩ (fun r2 w2 hf => ?_)
    exact V_cut [0, 1, 2] rfl (v_X6_writeNumber_18 X hE hi hf)
  · exact V_cut [0, 1, 2] rfl (v_X6_writeNumber_18 X hE hi hf)
abbrev rmX2_begin : Room := { frames := 2, cells := 0, slots := 0, locals := 52 }
set_option maxRecDepth 20000 in
theorem m_X2_begin {G : GG}  {w : WS} {q : (Int × WS)}  (hf : f_X2_begin  w = some q) : MI G yX2_begin cX2_begin 1 (some .int) rmX2_begin [gr G 39] w q := by
  refine MI_of (by decide +kernel) (Nat.le_of_ble_eq_true rfl) (fun E X hE => ?_)
  have X : Cx G E cX2_begin RX2 (some .int) rmX2_begin 1 := X
  unfold f_X2_begin at hf
  refine V_gload_n X dX2_begin_0 rfl rfl ?_
  refine V_geti X ob_39 rfl rfl hin_X2 12 (Nat.le_of_ble_eq_true rfl) tw_219 rfl dX2_begin_1 ?_
  refine V_sipush X dX2_begin_4 (by decide) ?_
  refine V_icmp_lt X (tgt := 12) dX2_begin_7 (by decide) hf (fun hf => ?_) (fun hf => ?_)
  · refine V_gload_n X dX2_begin_12 rfl rfl ?_
    refine V_dup X dX2_begin_13 rfl ?_
    refine V_geti X ob_39 rfl rfl hin_X2 12 (Nat.le_of_ble_eq_true rfl) tw_219 rfl dX2_begin_14 ?_
    refine V_iconst X dX2_begin_17 ?_
    refine V_iadd X dX2_begin_18 ?_
    refine V_puti X ob_39 rfl rfl hin_X2 12 (Nat.le_of_ble_eq_true rfl) tw_219 tyX2 tyX2_ok nmX2 rfl (by decide +kernel) rfl dX2_begin_19 ?_
    refine V_gload_n X dX2_begin_22 rfl rfl ?_
    refine V_getr X ob_39 rfl rfl hin_X2 0 (Nat.le_of_ble_eq_true rfl) tw_206 rfl dX2_begin_23 ?_
    refine V_getrN X ob_25 rfl rfl hin_X0 1 (Nat.le_of_ble_eq_true rfl) nw_1 rfl dX2_begin_26 ?_
    refine V_gload_n X dX2_begin_29 rfl rfl ?_
    refine V_geti X ob_39 rfl rfl hin_X2 13 (Nat.le_of_ble_eq_true rfl) tw_221 rfl dX2_begin_30 ?_
    refine V_cVI X hf [vi ((up w 39 12 ((w 39 12) + 1)) 39 13)] _ 1 (fun _ h => m_X1_get is_26 h) ob_26 rfl tw_500 tw_89 tw_1035 tw_498 tw_499 dX2_begin_33 ⟨by decide +kernel, by decide +kernel, by decide +kernel⟩ ⟨rfl, rfl⟩ ⟨Nat.le_of_ble_eq_true rfl, Nat.le_of_ble_eq_true rfl⟩ rfl (Nat.le_of_ble_eq_true rfl) ⟨Nat.zero_le _, Nat.zero_le _⟩ (fun r1 w1 hf => ?_)
    refine ite_c hf (fun h0 hf => ?_) (fun h0 hf => ?_)
    · refine V_lookup X (off := 92) (tgt := 128) dX2_begin_36 (by decide) (by exact off_pos h0) (by decide) ?_
      refine V_gload_n X dX2_begin_128 rfl rfl ?_
      refine V_cVV X hf [] _ 0 (fun _ h => m_X2_addNode h) ob_39 rfl tw_1039 tw_90 tw_1036 tw_1038 tw_16 dX2_begin_129 ⟨by decide +kernel, by decide +kernel, by decide +kernel⟩ ⟨rfl, rfl⟩ ⟨Nat.le_of_ble_eq_true rfl, Nat.le_of_ble_eq_true rfl⟩ rfl (Nat.le_of_ble_eq_true rfl) ⟨Nat.zero_le _, Nat.zero_le _⟩ (fun r2 w2 hf => ?_)
      refine V_gload_n X dX2_begin_132 rfl rfl ?_
      refine V_gload_n X dX2_begin_133 rfl rfl ?_
      refine V_getr X ob_39 rfl rfl hin_X2 0 (Nat.le_of_ble_eq_true rfl) tw_206 rfl dX2_begin_134 ?_
      refine V_getrN X ob_25 rfl rfl hin_X0 2 (Nat.le_of_ble_eq_true rfl) nw_3 rfl dX2_begin_137 ?_
      refine V_gload_n X dX2_begin_140 rfl rfl ?_
      refine V_geti X ob_39 rfl rfl hin_X2 13 (Nat.le_of_ble_eq_true rfl) tw_221 rfl dX2_begin_141 ?_
      refine V_cVI X hf [vi (w2 39 13)] _ 1 (fun _ h => m_X1_get is_28 h) ob_28 rfl tw_500 tw_89 tw_1035 tw_498 tw_499 dX2_begin_144 ⟨by decide +kernel, by decide +kernel, by decide +kernel⟩ ⟨rfl, rfl⟩ ⟨Nat.le_of_ble_eq_true rfl, Nat.le_of_ble_eq_true rfl⟩ rfl (Nat.le_of_ble_eq_true rfl) ⟨Nat.zero_le _, Nat.zero_le _⟩ (fun r3 w3 hf => ?_)
      refine V_cVI X hf [vi r3] _ 1 (fun _ h => m_X2_beginPart h) ob_39 rfl tw_1047 tw_90 tw_1044 tw_1046 tw_17 dX2_begin_147 ⟨by decide +kernel, by decide +kernel, by decide +kernel⟩ ⟨rfl, rfl⟩ ⟨Nat.le_of_ble_eq_true rfl, Nat.le_of_ble_eq_true rfl⟩ rfl (Nat.le_of_ble_eq_true rfl) ⟨Nat.zero_le _, Nat.zero_le _⟩ (fun r4 w4 hf => ?_)
      exact V_iret X hE dX2_begin_150 hf
    refine ite_c hf (fun h1 hf => ?_) (fun h1 hf => ?_)
    · refine V_lookup X (off := 92) (tgt := 128) dX2_begin_36 (by decide) (by exact off_neg h0 (off_pos h1)) (by decide) ?_
      refine V_gload_n X dX2_begin_128 rfl rfl ?_
      refine V_cVV X hf [] _ 0 (fun _ h => m_X2_addNode h) ob_39 rfl tw_1039 tw_90 tw_1036 tw_1038 tw_16 dX2_begin_129 ⟨by decide +kernel, by decide +kernel, by decide +kernel⟩ ⟨rfl, rfl⟩ ⟨Nat.le_of_ble_eq_true rfl, Nat.le_of_ble_eq_true rfl⟩ rfl (Nat.le_of_ble_eq_true rfl) ⟨Nat.zero_le _, Nat.zero_le _⟩ (fun r5 w5 hf => ?_)
      refine V_gload_n X dX2_begin_132 rfl rfl ?_
      refine V_gload_n X dX2_begin_133 rfl rfl ?_
      refine V_getr X ob_39 rfl rfl hin_X2 0 (Nat.le_of_ble_eq_true rfl) tw_206 rfl dX2_begin_134 ?_
      refine V_getrN X ob_25 rfl rfl hin_X0 2 (Nat.le_of_ble_eq_true rfl) nw_3 rfl dX2_begin_137 ?_
      refine V_gload_n X dX2_begin_140 rfl rfl ?_
      refine V_geti X ob_39 rfl rfl hin_X2 13 (Nat.le_of_ble_eq_true rfl) tw_221 rfl dX2_begin_141 ?_
      refine V_cVI X hf [vi (w5 39 13)] _ 1 (fun _ h => m_X1_get is_28 h) ob_28 rfl tw_500 tw_89 tw_1035 tw_498 tw_499 dX2_begin_144 ⟨by decide +kernel, by decide +kernel, by decide +kernel⟩ ⟨rfl, rfl⟩ ⟨Nat.le_of_ble_eq_true rfl, Nat.le_of_ble_eq_true rfl⟩ rfl (Nat.le_of_ble_eq_true rfl) ⟨Nat.zero_le _, Nat.zero_le _⟩ (fun r6 w6 hf => ?_)
      refine V_cVI X hf [vi r6] _ 1 (fun _ h => m_X2_beginPart h) ob_39 rfl tw_1047 tw_90 tw_1044 tw_1046 tw_17 dX2_begin_147 ⟨by decide +kernel, by decide +kernel, by decide +kernel⟩ ⟨rfl, rfl⟩ ⟨Nat.le_of_ble_eq_true rfl, Nat.le_of_ble_eq_true rfl⟩ rfl (Nat.le_of_ble_eq_true rfl) ⟨Nat.zero_le _, Nat.zero_le _⟩ (fun r7 w7 hf => ?_)
      exact V_iret X hE dX2_begin_150 hf
    refine ite_c hf (fun h2 hf => ?_) (fun h2 hf => ?_)
    · refine V_lookup X (off := 138) (tgt := 174) dX2_begin_36 (by decide) (by exact off_neg h0 (off_neg h1 (off_pos h2))) (by decide) ?_
      refine V_bipush X dX2_begin_174 (by decide) ?_
      exact V_iret X hE dX2_begin_176 hf
    refine ite_c hf (fun h3 hf => ?_) (fun h3 hf => ?_)
    · refine V_lookup X (off := 92) (tgt := 128) dX2_begin_36 (by decide) (by exact off_neg h0 (off_neg h1 (off_neg h2 (off_pos h3)))) (by decide) ?_
      refine V_gload_n X dX2_begin_128 rfl rfl ?_
      refine V_cVV X hf [] _ 0 (fun _ h => m_X2_addNode h) ob_39 rfl tw_1039 tw_90 tw_1036 tw_1038 tw_16 dX2_begin_129 ⟨by decide +kernel, by decide +kernel, by decide +kernel⟩ ⟨rfl, rfl⟩ ⟨Nat.le_of_ble_eq_true rfl, Nat.le_of_ble_eq_true rfl⟩ rfl (Nat.le_of_ble_eq_true rfl) ⟨Nat.zero_le _, Nat.zero_le _⟩ (fun r8 w8 hf => ?_)
      refine V_gload_n X dX2_begin_132 rfl rfl ?_
      refine V_gload_n X dX2_begin_133 rfl rfl ?_
      refine V_getr X ob_39 rfl rfl hin_X2 0 (Nat.le_of_ble_eq_true rfl) tw_206 rfl dX2_begin_134 ?_
      refine V_getrN X ob_25 rfl rfl hin_X0 2 (Nat.le_of_ble_eq_true rfl) nw_3 rfl dX2_begin_137 ?_
      refine V_gload_n X dX2_begin_140 rfl rfl ?_
      refine V_geti X ob_39 rfl rfl hin_X2 13 (Nat.le_of_ble_eq_true rfl) tw_221 rfl dX2_begin_141 ?_
      refine V_cVI X hf [vi (w8 39 13)] _ 1 (fun _ h => m_X1_get is_28 h) ob_28 rfl tw_500 tw_89 tw_1035 tw_498 tw_499 dX2_begin_144 ⟨by decide +kernel, by decide +kernel, by decide +kernel⟩ ⟨rfl, rfl⟩ ⟨Nat.le_of_ble_eq_true rfl, Nat.le_of_ble_eq_true rfl⟩ rfl (Nat.le_of_ble_eq_true rfl) ⟨Nat.zero_le _, Nat.zero_le _⟩ (fun r9 w9 hf => ?_)
      refine V_cVI X hf [vi r9] _ 1 (fun _ h => m_X2_beginPart h) ob_39 rfl tw_1047 tw_90 tw_1044 tw_1046 tw_17 dX2_begin_147 ⟨by decide +kernel, by decide +kernel, by decide +kernel⟩ ⟨rfl, rfl⟩ ⟨Nat.le_of_ble_eq_true rfl, Nat.le_of_ble_eq_true rfl⟩ rfl (Nat.le_of_ble_eq_true rfl) ⟨Nat.zero_le _, Nat.zero_le _⟩ (fun r10 w10 hf => ?_)
      exact V_iret X hE dX2_begin_150 hf
    refine ite_c hf (fun h4 hf => ?_) (fun h4 hf => ?_)
    · refine V_lookup X (off := 146) (tgt := 182) dX2_begin_36 (by decide) (by exact off_neg h0 (off_neg h1 (off_neg h2 (off_neg h3 (off_pos h4))))) (by decide) ?_
      refine V_gload_n X dX2_begin_182 rfl rfl ?_
      refine V_getr X ob_39 rfl rfl hin_X2 2 (Nat.le_of_ble_eq_true rfl) tw_208 rfl dX2_begin_183 ?_
      refine V_gload_n X dX2_begin_186 rfl rfl ?_
      refine V_getr X ob_39 rfl rfl hin_X2 0 (Nat.le_of_ble_eq_true rfl) tw_206 rfl dX2_begin_187 ?_
      refine V_getrN X ob_25 rfl rfl hin_X0 2 (Nat.le_of_ble_eq_true rfl) nw_3 rfl dX2_begin_190 ?_
      refine V_gload_n X dX2_begin_193 rfl rfl ?_
      refine V_geti X ob_39 rfl rfl hin_X2 13 (Nat.le_of_ble_eq_true rfl) tw_221 rfl dX2_begin_194 ?_
      refine V_cVI X hf [vi (w1 39 13)] _ 1 (fun _ h => m_X1_get is_28 h) ob_28 rfl tw_500 tw_89 tw_1035 tw_498 tw_499 dX2_begin_197 ⟨by decide +kernel, by decide +kernel, by decide +kernel⟩ ⟨rfl, rfl⟩ ⟨Nat.le_of_ble_eq_true rfl, Nat.le_of_ble_eq_true rfl⟩ rfl (Nat.le_of_ble_eq_true rfl) ⟨Nat.zero_le _, Nat.zero_le _⟩ (fun r11 w11 hf => ?_)
      refine V_gload_n X dX2_begin_200 rfl rfl ?_
      refine V_geti X ob_39 rfl rfl hin_X2 14 (Nat.le_of_ble_eq_true rfl) tw_222 rfl dX2_begin_201 ?_
      refine V_i2l X dX2_begin_204 ?_
      refine V_cVV X hf [vi r11, vl (wr (w11 39 14))] _ 2 (fun _ h => m_X6_writeNumber is_7 h) ob_7 rfl tw_988 tw_87 tw_1053 tw_986 tw_987 dX2_begin_205 ⟨by decide +kernel, by decide +kernel, by decide +kernel⟩ ⟨rfl, rfl⟩ ⟨Nat.le_of_ble_eq_true rfl, Nat.le_of_ble_eq_true rfl⟩ rfl (Nat.le_of_ble_eq_true rfl) ⟨Nat.zero_le _, Nat.zero_le _⟩ (fun r12 w12 hf => ?_)
      refine V_bipush X dX2_begin_208 (by decide) ?_
      exact V_iret X hE dX2_begin_210 hf
    refine ite_c hf (fun h5 hf => ?_) (fun h5 hf => ?_)
    · refine V_lookup X (off := 138) (tgt := 174) dX2_begin_36 (by decide) (by exact off_neg h0 (off_neg h1 (off_neg h2 (off_neg h3 (off_neg h4 (off_pos h5)))))) (by decide) ?_
      refine V_bipush X dX2_begin_174 (by decide) ?_
      exact V_iret X hE dX2_begin_176 hf
    refine ite_c hf (fun h6 hf => ?_) (fun h6 hf => ?_)
    · refine V_lookup X (off := 138) (tgt := 174) dX2_begin_36 (by decide) (by exact off_neg h0 (off_neg h1 (off_neg h2 (off_neg h3 (off_neg h4 (off_neg h5 (off_pos h6))))))) (by decide) ?_
      refine V_bipush X dX2_begin_174 (by decide) ?_
      exact V_iret X hE dX2_begin_176 hf
    refine ite_c hf (fun h7 hf => ?_) (fun h7 hf => ?_)
    · refine V_lookup X (off := 141) (tgt := 177) dX2_begin_36 (by decide) (by exact off_neg h0 (off_neg h1 (off_neg h2 (off_neg h3 (off_neg h4 (off_neg h5 (off_neg h6 (off_pos h7)))))))) (by decide) ?_
      refine V_bipush X dX2_begin_177 (by decide) ?_
      exact V_iret X hE dX2_begin_179 hf
    refine ite_c hf (fun h8 hf => ?_) (fun h8 hf => ?_)
    · refine V_lookup X (off := 144) (tgt := 180) dX2_begin_36 (by decide) (by exact off_neg h0 (off_neg h1 (off_neg h2 (off_neg h3 (off_neg h4 (off_neg h5 (off_neg h6 (off_neg h7 (off_pos h8))))))))) (by decide) ?_
      refine V_iconst X dX2_begin_180 ?_
      exact V_iret X hE dX2_begin_181 hf
    refine ite_c hf (fun h9 hf => ?_) (fun h9 hf => ?_)
    · refine V_lookup X (off := 115) (tgt := 151) dX2_begin_36 (by decide) (by exact off_neg h0 (off_neg h1 (off_neg h2 (off_neg h3 (off_neg h4 (off_neg h5 (off_neg h6 (off_neg h7 (off_neg h8 (off_pos h9)))))))))) (by decide) ?_
      refine V_gload_n X dX2_begin_151 rfl rfl ?_
      refine V_cVV X hf [] _ 0 (fun _ h => m_X2_addChoice h) ob_39 rfl tw_1051 tw_90 tw_1048 tw_1050 tw_18 dX2_begin_152 ⟨by decide +kernel, by decide +kernel, by decide +kernel⟩ ⟨rfl, rfl⟩ ⟨Nat.le_of_ble_eq_true rfl, Nat.le_of_ble_eq_true rfl⟩ rfl (Nat.le_of_ble_eq_true rfl) ⟨Nat.zero_le _, Nat.zero_le _⟩ (fun r13 w13 hf => ?_)
      refine V_gload_n X dX2_begin_155 rfl rfl ?_
      refine V_gload_n X dX2_begin_156 rfl rfl ?_
      refine V_getr X ob_39 rfl rfl hin_X2 0 (Nat.le_of_ble_eq_true rfl) tw_206 rfl dX2_begin_157 ?_
      refine V_getrN X ob_25 rfl rfl hin_X0 2 (Nat.le_of_ble_eq_true rfl) nw_3 rfl dX2_begin_160 ?_
      refine V_gload_n X dX2_begin_163 rfl rfl ?_
      refine V_geti X ob_39 rfl rfl hin_X2 13 (Nat.le_of_ble_eq_true rfl) tw_221 rfl dX2_begin_164 ?_
      refine V_cVI X hf [vi (w13 39 13)] _ 1 (fun _ h => m_X1_get is_28 h) ob_28 rfl tw_500 tw_89 tw_1035 tw_498 tw_499 dX2_begin_167 ⟨by decide +kernel, by decide +kernel, by decide +kernel⟩ ⟨rfl, rfl⟩ ⟨Nat.le_of_ble_eq_true rfl, Nat.le_of_ble_eq_true rfl⟩ rfl (Nat.le_of_ble_eq_true rfl) ⟨Nat.zero_le _, Nat.zero_le _⟩ (fun r14 w14 hf => ?_)
      refine V_cVI X hf [vi r14] _ 1 (fun _ h => m_X2_beginPart h) ob_39 rfl tw_1047 tw_90 tw_1044 tw_1046 tw_17 dX2_begin_170 ⟨by decide +kernel, by decide +kernel, by decide +kernel⟩ ⟨rfl, rfl⟩ ⟨Nat.le_of_ble_eq_true rfl, Nat.le_of_ble_eq_true rfl⟩ rfl (Nat.le_of_ble_eq_true rfl) ⟨Nat.zero_le _, Nat.zero_le _⟩ (fun r15 w15 hf => ?_)
      exact V_iret X hE dX2_begin_173 hf
    refine V_lookup X (off := 175) (tgt := 211) dX2_begin_36 (by decide) (by exact off_neg h0 (off_neg h1 (off_neg h2 (off_neg h3 (off_neg h4 (off_neg h5 (off_neg h6 (off_neg h7 (off_neg h8 (off_neg h9 (rfl))))))))))) (by decide) ?_
    refine V_iconst X dX2_begin_211 ?_
    exact V_iret X hE dX2_begin_212 hf
  · refine V_iconst X dX2_begin_10 ?_
    exact V_iret X hE dX2_begin_11 hf
abbrev rmX6_hasThere : Room := { frames := 1, cells := 0, slots := 0, locals := 23 }
set_option maxRecDepth 20000 in
theorem v_X6_hasThere_11 {G : GG} {E : EE} (X : Cx G E cX6_hasThere RX6 (some .boolean) rmX6_hasThere 7) {q : (Int × WS)} (hE : EndI G E q) {i : Nat} {j : Nat} (hi : isX6 i) (hj : isX6 j) : ∀ (n : Nat) (a1 a2 a4 a5 a6 : Int) (w : WS), f_X6_hasThere_11 i j  n a1 a2 a4 a5 a6 w = some q → VV G E 0 0 11 [(0, gr G i), (1, vi a1), (2, vi a2), (3, gr G j), (4, vi a4), (5, vi a5), (6, vi a6)] [] w := by
  intro n
  induction n with
  | zero => intro a1 a2 a4 a5 a6 w hf; cases hf
  | succ n ih =>
    intro a1 a2 a4 a5 a6 w hf
    rw [f_X6_hasThere_11_s] at hf
    refine V_iload X dX6_hasThere_11 rfl ?_
    refine V_iload X dX6_hasThere_13 rfl ?_
    refine V_icmp_ge X (tgt := 46) dX6_hasThere_15 (by decide) hf (fun hf => ?_) (fun hf => ?_)
    · refine V_gload_n X dX6_hasThere_18 rfl rfl ?_
      refine V_iload_n X dX6_hasThere_19 rfl rfl ?_
      refine V_iload_n X dX6_hasThere_20 rfl rfl ?_
      refine V_iload X dX6_hasThere_21 rfl ?_
      refine V_iadd X dX6_hasThere_23 ?_
      refine V_cVI X hf [vi a1, vi (a2 + a6)] _ 2 (fun _ h => m_X6_sign hi h) (ob_X6 hi) rfl tw_488 tw_87 tw_972 tw_486 tw_487 dX6_hasThere_24 ⟨by decide +kernel, by decide +kernel, by decide +kernel⟩ ⟨rfl, rfl⟩ ⟨Nat.le_of_ble_eq_true rfl, Nat.le_of_ble_eq_true rfl⟩ rfl (Nat.le_of_ble_eq_true rfl) ⟨Nat.zero_le _, Nat.zero_le _⟩ (fun r2 w2 hf => ?_)
      refine V_gload_n X dX6_hasThere_27 rfl rfl ?_
      refine V_iload X dX6_hasThere_28 rfl ?_
      refine V_iload X dX6_hasThere_30 rfl ?_
      refine V_cVI X hf [vi a4, vi a6] _ 2 (fun _ h => m_X6_sign hj h) (ob_X6 hj) rfl tw_488 tw_87 tw_972 tw_486 tw_487 dX6_hasThere_32 ⟨by decide +kernel, by decide +kernel, by decide +kernel⟩ ⟨rfl, rfl⟩ ⟨Nat.le_of_ble_eq_true rfl, Nat.le_of_ble_eq_true rfl⟩ rfl (Nat.le_of_ble_eq_true rfl) ⟨Nat.zero_le _, Nat.zero_le _⟩ (fun r3 w3 hf => ?_)
      refine V_icmp_eq X (tgt := 40) dX6_hasThere_35 (by decide) hf (fun hf => ?_) (fun hf => ?_)
      · refine V_iinc X dX6_hasThere_40 rfl (by decide) ?_
        refine V_goto X (tgt := 11) dX6_hasThere_43 (by decide) ?_
        exact V_cut [0, 1, 2, 3, 4, 5, 6] rfl (ih _ _ _ _ _ _ hf)
      · refine V_iconst X dX6_hasThere_38 ?_
        exact V_zret X hE dX6_hasThere_39 (Or.inl rfl) hf
    · refine V_iconst X dX6_hasThere_46 ?_
      exact V_zret X hE dX6_hasThere_47 (Or.inr rfl) hf
set_option maxRecDepth 20000 in
theorem m_X6_hasThere {G : GG} {i : Nat} {a1 : Int} {a2 : Int} {j : Nat} {a4 : Int} {w : WS} {q : (Int × WS)} (hi : isX6 i) (hj : isX6 j) (hf : f_X6_hasThere i a1 a2 j a4 w = some q) : MI G yX6_hasThere cX6_hasThere 7 (some .boolean) rmX6_hasThere [gr G i, vi a1, vi a2, gr G j, vi a4] w q := by
  refine MI_of (by decide +kernel) (Nat.le_of_ble_eq_true rfl) (fun E X hE => ?_)
  have X : Cx G E cX6_hasThere RX6 (some .boolean) rmX6_hasThere 7 := X
  unfold f_X6_hasThere at hf
  refine V_gload_n X dX6_hasThere_0 rfl rfl ?_
  refine V_iload X dX6_hasThere_1 rfl ?_
  refine V_cVI X hf [vi a4] _ 1 (fun _ h => m_X6_length hj h) (ob_X6 hj) rfl tw_466 tw_87 tw_637 tw_464 tw_465 dX6_hasThere_3 ⟨by decide +kernel, by decide +kernel, by decide +kernel⟩ ⟨rfl, rfl⟩ ⟨Nat.le_of_ble_eq_true rfl, Nat.le_of_ble_eq_true rfl⟩ rfl (Nat.le_of_ble_eq_true rfl) ⟨Nat.zero_le _, Nat.zero_le _⟩ (fun r1 w1 hf => ?_)
  refine V_istore X dX6_hasThere_6 (by decide) ?_
  refine V_iconst X dX6_hasThere_8 ?_
  refine V_istore X dX6_hasThere_9 (by decide) ?_
  exact V_cut [0, 1, 2, 3, 4, 5, 6] rfl (v_X6_hasThere_11 X hE hi hj FU _ _ _ _ _ _ hf)
abbrev rmX6_contains : Room := { frames := 0, cells := 0, slots := 0, locals := 0 }
set_option maxRecDepth 20000 in
theorem v_X6_contains_25 {G : GG} {E : EE} (X : Cx G E cX6_contains RX6 (some .boolean) rmX6_contains 6) {q : (Int × WS)} (hE : EndI G E q) {i : Nat} (hi : isX6 i) : ∀ (n : Nat) (a1 a2 a3 a4 : Int) (w : WS), f_X6_contains_25 i  n a1 a2 a3 a4 w = some q → VV G E 0 0 25 [(0, gr G i), (1, vi a1), (2, vi a2), (3, vi a3), (4, vi a4)] [] w := by
  intro n
  induction n with
  | zero => intro a1 a2 a3 a4 w hf; cases hf
  | succ n ih =>
    intro a1 a2 a3 a4 w hf
    rw [f_X6_contains_25_s] at hf
    refine V_iload X dX6_contains_25 rfl ?_
    refine V_gload_n X dX6_contains_27 rfl rfl ?_
    refine V_getr X (ob_X6 hi) rfl rfl hin_X6 2 (Nat.le_of_ble_eq_true rfl) tw_128 (rr_X6_2 hi) dX6_contains_28 ?_
    refine V_iload_n X dX6_contains_31 rfl rfl ?_
    refine V_iald X (ar_X6_2 hi) dX6_contains_32 hf (fun hf => ?_)
    refine V_icmp_ge X (tgt := 76) dX6_contains_33 (by decide) hf (fun hf => ?_) (fun hf => ?_)
    · refine V_iload_n X dX6_contains_36 rfl rfl ?_
      refine V_iload X dX6_contains_37 rfl ?_
      refine V_iadd X dX6_contains_39 ?_
      refine V_istore X dX6_contains_40 (by decide) ?_
      refine V_iload X dX6_contains_42 rfl ?_
      refine V_if_lt X (tgt := 70) dX6_contains_44 (by decide) hf (fun hf => ?_) (fun hf => ?_)
      · refine V_iinc X dX6_contains_70 rfl (by decide) ?_
        refine V_goto X (tgt := 25) dX6_contains_73 (by decide) ?_
        exact V_cut [0, 1, 2, 3, 4] rfl (ih _ _ _ _ _ hf)
      · refine V_iload X dX6_contains_47 rfl ?_
        refine V_gload_n X dX6_contains_49 rfl rfl ?_
        refine V_getr X (ob_X6 hi) rfl rfl hin_X6 1 (Nat.le_of_ble_eq_true rfl) tw_127 (rr_X6_1 hi) dX6_contains_50 ?_
        refine V_alen X (ar_X6_1 hi) (by decide) dX6_contains_53 ?_
        refine V_icmp_ge X (tgt := 70) dX6_contains_54 (by decide) hf (fun hf => ?_) (fun hf => ?_)
        · refine V_gload_n X dX6_contains_57 rfl rfl ?_
          refine V_getr X (ob_X6 hi) rfl rfl hin_X6 1 (Nat.le_of_ble_eq_true rfl) tw_127 (rr_X6_1 hi) dX6_contains_58 ?_
          refine V_iload X dX6_contains_61 rfl ?_
          refine V_iald X (ar_X6_1 hi) dX6_contains_63 hf (fun hf => ?_)
          refine V_iload_n X dX6_contains_64 rfl rfl ?_
          refine V_icmp_ne X (tgt := 70) dX6_contains_65 (by decide) hf (fun hf => ?_) (fun hf => ?_)
          · refine V_iconst X dX6_contains_68 ?_
            exact V_zret X hE dX6_contains_69 (Or.inr rfl) hf
          · refine V_iinc X dX6_contains_70 rfl (by decide) ?_
            refine V_goto X (tgt := 25) dX6_contains_73 (by decide) ?_
            exact V_cut [0, 1, 2, 3, 4] rfl (ih _ _ _ _ _ hf)
        · refine V_iinc X dX6_contains_70 rfl (by decide) ?_
          refine V_goto X (tgt := 25) dX6_contains_73 (by decide) ?_
          exact V_cut [0, 1, 2, 3, 4] rfl (ih _ _ _ _ _ hf)
    · refine V_iconst X dX6_contains_76 ?_
      exact V_zret X hE dX6_contains_77 (Or.inl rfl) hf
set_option maxRecDepth 20000 in
theorem m_X6_contains {G : GG} {i : Nat} {a1 : Int} {a2 : Int} {w : WS} {q : (Int × WS)} (hi : isX6 i) (hf : f_X6_contains i a1 a2 w = some q) : MI G yX6_contains cX6_contains 6 (some .boolean) rmX6_contains [gr G i, vi a1, vi a2] w q := by
  refine MI_of (by decide +kernel) (Nat.le_of_ble_eq_true rfl) (fun E X hE => ?_)
  have X : Cx G E cX6_contains RX6 (some .boolean) rmX6_contains 6 := X
  unfold f_X6_contains at hf
  refine V_iload_n X dX6_contains_0 rfl rfl ?_
  refine V_if_lt X (tgt := 13) dX6_contains_1 (by decide) hf (fun hf => ?_) (fun hf => ?_)
  · refine V_iconst X dX6_contains_13 ?_
    exact V_zret X hE dX6_contains_14 (Or.inl rfl) hf
  · refine V_iload_n X dX6_contains_4 rfl rfl ?_
    refine V_gload_n X dX6_contains_5 rfl rfl ?_
    refine V_getr X (ob_X6 hi) rfl rfl hin_X6 2 (Nat.le_of_ble_eq_true rfl) tw_128 (rr_X6_2 hi) dX6_contains_6 ?_
    refine V_alen X (ar_X6_2 hi) (by decide) dX6_contains_9 ?_
    refine V_icmp_lt X (tgt := 15) dX6_contains_10 (by decide) hf (fun hf => ?_) (fun hf => ?_)
    · refine V_iload_n X dX6_contains_15 rfl rfl ?_
      refine V_gload_n X dX6_contains_16 rfl rfl ?_
      refine V_getc X (ob_X6 hi) rfl rfl hin_X6 0 (Nat.le_of_ble_eq_true rfl) tw_126 (rc_X6_0 hi) dX6_contains_17 ?_
      refine V_imul X dX6_contains_20 ?_
      refine V_istore_n X dX6_contains_21 rfl (by decide) ?_
      refine V_iconst X dX6_contains_22 ?_
      refine V_istore X dX6_contains_23 (by decide) ?_
      exact V_cut [0, 1, 2, 3, 4] rfl (v_X6_contains_25 X hE hi FU _ _ _ _ _ hf)
    · refine V_iconst X dX6_contains_13 ?_
      exact V_zret X hE dX6_contains_14 (Or.inl rfl) hf
