abbrev rmX8_wipe : Room := { frames := 1, cells := 0, slots := 0, locals := 21 }
set_option maxRecDepth 20000 in
theorem m_X8_wipe {G : GG}  {w : WS} {q : (Int × WS)}  (hf : f_X8_wipe  w = some q) : MI G yX8_wipe cX8_wipe 2 (some .int) rmX8_wipe [gr G 0] w q := by
  refine MI_of (by decide +kernel) (Nat.le_of_ble_eq_true rfl) (fun E X hE => ?_)
  have X : Cx G E cX8_wipe RX8 (some .int) rmX8_wipe 2 := X
  unfold f_X8_wipe at hf
  refine V_gload_n X dX8_wipe_0 rfl rfl ?_
  refine V_getr X ob_0 rfl rfl hin_X8 0 (Nat.le_of_ble_eq_true rfl) tw_401 rfl dX8_wipe_1 ?_
  refine V_iconst X dX8_wipe_4 ?_
  refine V_cVI X hf [vi 0] _ 1 (fun _ h => m_X6_length is_1 h) ob_1 rfl tw_466 tw_87 tw_463 tw_464 tw_465 dX8_wipe_5 ⟨by decide +kernel, by decide +kernel, by decide +kernel⟩ ⟨rfl, rfl⟩ ⟨Nat.le_of_ble_eq_true rfl, Nat.le_of_ble_eq_true rfl⟩ rfl (Nat.le_of_ble_eq_true rfl) ⟨Nat.zero_le _, Nat.zero_le _⟩ (fun r1 w1 hf => ?_)
  refine V_istore_n X dX8_wipe_8 rfl (by decide) ?_
  refine V_gload_n X dX8_wipe_9 rfl rfl ?_
  refine V_getr X ob_0 rfl rfl hin_X8 0 (Nat.le_of_ble_eq_true rfl) tw_401 rfl dX8_wipe_10 ?_
  refine V_iconst X dX8_wipe_13 ?_
  refine V_cVV X hf [vi 0] _ 1 (fun _ h => m_X6_clear is_1 h) ob_1 rfl tw_470 tw_87 tw_467 tw_468 tw_469 dX8_wipe_14 ⟨by decide +kernel, by decide +kernel, by decide +kernel⟩ ⟨rfl, rfl⟩ ⟨Nat.le_of_ble_eq_true rfl, Nat.le_of_ble_eq_true rfl⟩ rfl (Nat.le_of_ble_eq_true rfl) ⟨Nat.zero_le _, Nat.zero_le _⟩ (fun r2 w2 hf => ?_)
  refine V_iload_n X dX8_wipe_17 rfl rfl ?_
  exact V_iret X hE dX8_wipe_18 hf
abbrev rmX8_anchor : Room := { frames := 0, cells := 0, slots := 0, locals := 0 }
set_option maxRecDepth 20000 in
theorem m_X8_anchor {G : GG} {a1 : Int} {w : WS} {q : (Int × WS)}  (hf : f_X8_anchor a1 w = some q) : MI G yX8_anchor cX8_anchor 3 (some .boolean) rmX8_anchor [gr G 0, vi a1] w q := by
  refine MI_of (by decide +kernel) (Nat.le_of_ble_eq_true rfl) (fun E X hE => ?_)
  have X : Cx G E cX8_anchor RX8 (some .boolean) rmX8_anchor 3 := X
  unfold f_X8_anchor at hf
  refine V_gload_n X dX8_anchor_0 rfl rfl ?_
  refine V_geti X ob_0 rfl rfl hin_X8 12 (Nat.le_of_ble_eq_true rfl) tw_413 rfl dX8_anchor_1 ?_
  refine V_istore_n X dX8_anchor_4 rfl (by decide) ?_
  refine V_gload_n X dX8_anchor_5 rfl rfl ?_
  refine V_iload_n X dX8_anchor_6 rfl rfl ?_
  obtain ⟨hz, hf⟩ := ite_n hf
  refine V_putz X ob_0 rfl rfl hin_X8 12 (Nat.le_of_ble_eq_true rfl) tw_413 tyX8 tyX8_ok nmX8 rfl (by decide +kernel) hz rfl dX8_anchor_7 ?_
  refine V_iload_n X dX8_anchor_10 rfl rfl ?_
  obtain ⟨hz, hf⟩ := ite_n hf
  exact V_zret X hE dX8_anchor_11 hz hf
abbrev rmX8_statements : Room := { frames := 0, cells := 0, slots := 0, locals := 0 }
set_option maxRecDepth 20000 in
theorem m_X8_statements {G : GG}  {w : WS} {q : (Int × WS)}  (hf : f_X8_statements  w = some q) : MI G yX8_statements cX8_statements 1 (some .int) rmX8_statements [gr G 0] w q := by
  refine MI_of (by decide +kernel) (Nat.le_of_ble_eq_true rfl) (fun E X hE => ?_)
  have X : Cx G E cX8_statements RX8 (some .int) rmX8_statements 1 := X
  unfold f_X8_statements at hf
  refine V_gload_n X dX8_statements_0 rfl rfl ?_
  refine V_getr X ob_0 rfl rfl hin_X8 9 (Nat.le_of_ble_eq_true rfl) tw_410 rfl dX8_statements_1 ?_
  refine V_getiN X ob_57 rfl rfl hin_X4 6 (Nat.le_of_ble_eq_true rfl) nw_21 rfl dX8_statements_4 ?_
  exact V_iret X hE dX8_statements_7 hf
abbrev rmX8_checksum : Room := { frames := 1, cells := 0, slots := 0, locals := 23 }
set_option maxRecDepth 20000 in
theorem v_X8_checksum_25 {G : GG} {E : EE} (X : Cx G E cX8_checksum RX8 (some .long) rmX8_checksum 6) {q : (Int × WS)} (hE : EndL G E q)   {k6 : Int → Int → WS → Option (Int × WS)} (hk6 : ∀ (a1 a3 : Int) (w : WS), k6 a1 a3 w = some q → VV G E 0 0 6 [(0, gr G 0), (1, vl a1), (3, vi a3)] [] w) : ∀ (n : Nat) (a1 a3 a4 a5 : Int) (w : WS), f_X8_checksum_25  k6 n a1 a3 a4 a5 w = some q → VV G E 0 0 25 [(0, gr G 0), (1, vl a1), (3, vi a3), (4, vi a4), (5, vi a5)] [] w := by
  intro n
  induction n with
  | zero => intro a1 a3 a4 a5 w hf; cases hf
  | succ n ih =>
    intro a1 a3 a4 a5 w hf
    rw [f_X8_checksum_25_s] at hf
    refine V_iload X dX8_checksum_25 rfl ?_
    refine V_iload X dX8_checksum_27 rfl ?_
    refine V_icmp_ge X (tgt := 56) dX8_checksum_29 (by decide) hf (fun hf => ?_) (fun hf => ?_)
    · refine V_ldc2 (a := 31) X tw_484 dX8_checksum_32 (by decide) ?_
      refine V_lload_n X dX8_checksum_35 rfl rfl ?_
      refine V_lmul X dX8_checksum_36 ?_
      refine V_gload_n X dX8_checksum_37 rfl rfl ?_
      refine V_getr X ob_0 rfl rfl hin_X8 3 (Nat.le_of_ble_eq_true rfl) tw_404 rfl dX8_checksum_38 ?_
      refine V_iload_n X dX8_checksum_41 rfl rfl ?_
      refine V_iload X dX8_checksum_42 rfl ?_
      refine V_cVI X hf [vi a3, vi a5] _ 2 (fun _ h => m_X6_sign is_7 h) ob_7 rfl tw_488 tw_87 tw_485 tw_486 tw_487 dX8_checksum_44 ⟨by decide +kernel, by decide +kernel, by decide +kernel⟩ ⟨rfl, rfl⟩ ⟨Nat.le_of_ble_eq_true rfl, Nat.le_of_ble_eq_true rfl⟩ rfl (Nat.le_of_ble_eq_true rfl) ⟨Nat.zero_le _, Nat.zero_le _⟩ (fun r2 w2 hf => ?_)
      refine V_i2l X dX8_checksum_47 ?_
      refine V_ladd X dX8_checksum_48 ?_
      refine V_lstore_n X dX8_checksum_49 rfl (by decide) ?_
      refine V_iinc X dX8_checksum_50 rfl (by decide) ?_
      refine V_goto X (tgt := 25) dX8_checksum_53 (by decide) ?_
      exact V_cut [0, 1, 3, 4, 5] rfl (ih _ _ _ _ _ hf)
    · refine V_ldc2 (a := 31) X tw_484 dX8_checksum_56 (by decide) ?_
      refine V_lload_n X dX8_checksum_59 rfl rfl ?_
      refine V_lmul X dX8_checksum_60 ?_
      refine V_iload X dX8_checksum_61 rfl ?_
      refine V_i2l X dX8_checksum_63 ?_
      refine V_ladd X dX8_checksum_64 ?_
      refine V_lstore_n X dX8_checksum_65 rfl (by decide) ?_
      refine V_iinc X dX8_checksum_66 rfl (by decide) ?_
      refine V_goto X (tgt := 6) dX8_checksum_69 (by decide) ?_
      exact V_cut [0, 1, 3] rfl (hk6 _ _ _ hf)
set_option maxRecDepth 20000 in
theorem v_X8_checksum_6 {G : GG} {E : EE} (X : Cx G E cX8_checksum RX8 (some .long) rmX8_checksum 6) {q : (Int × WS)} (hE : EndL G E q)   : ∀ (n : Nat) (a1 a3 : Int) (w : WS), f_X8_checksum_6   n a1 a3 w = some q → VV G E 0 0 6 [(0, gr G 0), (1, vl a1), (3, vi a3)] [] w := by
  intro n
  induction n with
  | zero => intro a1 a3 w hf; cases hf
  | succ n ih =>
    intro a1 a3 w hf
    rw [f_X8_checksum_6_s] at hf
    refine V_iload_n X dX8_checksum_6 rfl rfl ?_
    refine V_bipush X dX8_checksum_7 (by decide) ?_
    refine V_icmp_ge X (tgt := 72) dX8_checksum_9 (by decide) hf (fun hf => ?_) (fun hf => ?_)
    · refine V_gload_n X dX8_checksum_12 rfl rfl ?_
      refine V_getr X ob_0 rfl rfl hin_X8 3 (Nat.le_of_ble_eq_true rfl) tw_404 rfl dX8_checksum_13 ?_
      refine V_iload_n X dX8_checksum_16 rfl rfl ?_
      refine V_cVI X hf [vi a3] _ 1 (fun _ h => m_X6_length is_7 h) ob_7 rfl tw_466 tw_87 tw_463 tw_464 tw_465 dX8_checksum_17 ⟨by decide +kernel, by decide +kernel, by decide +kernel⟩ ⟨rfl, rfl⟩ ⟨Nat.le_of_ble_eq_true rfl, Nat.le_of_ble_eq_true rfl⟩ rfl (Nat.le_of_ble_eq_true rfl) ⟨Nat.zero_le _, Nat.zero_le _⟩ (fun r1 w1 hf => ?_)
      refine V_istore X dX8_checksum_20 (by decide) ?_
      refine V_iconst X dX8_checksum_22 ?_
      refine V_istore X dX8_checksum_23 (by decide) ?_
      exact V_cut [0, 1, 3, 4, 5] rfl (v_X8_checksum_25 X hE (fun x0 x1 x hf => ih x0 x1 x hf) FU _ _ _ _ _ hf)
    · refine V_lload_n X dX8_checksum_72 rfl rfl ?_
      exact V_lret X hE dX8_checksum_73 hf
set_option maxRecDepth 20000 in
theorem m_X8_checksum {G : GG}  {w : WS} {q : (Int × WS)}  (hf : f_X8_checksum  w = some q) : ML G yX8_checksum cX8_checksum 6 (some .long) rmX8_checksum [gr G 0] w q := by
  refine ML_of (by decide +kernel) (Nat.le_of_ble_eq_true rfl) (fun E X hE => ?_)
  have X : Cx G E cX8_checksum RX8 (some .long) rmX8_checksum 6 := X
  unfold f_X8_checksum at hf
  refine V_ldc2 (a := 7) X tw_483 dX8_checksum_0 (by decide) ?_
  refine V_lstore_n X dX8_checksum_3 rfl (by decide) ?_
  refine V_iconst X dX8_checksum_4 ?_
  refine V_istore_n X dX8_checksum_5 rfl (by decide) ?_
  exact V_cut [0, 1, 3] rfl (v_X8_checksum_6 X hE FU _ _ _ hf)
abbrev rmX8_isSound : Room := { frames := 2, cells := 0, slots := 0, locals := 44 }
set_option maxRecDepth 20000 in
theorem v_X8_isSound_63 {G : GG} {E : EE} (X : Cx G E cX8_isSound RX8 (some .boolean) rmX8_isSound 2) {q : (Int × WS)} (hE : EndI G E q)   {w : WS} (hf : f_X8_isSound_63    w = some q) : VV G E 0 0 63 [(0, gr G 0)] [] w := by
  unfold f_X8_isSound_63 at hf
  refine V_gload_n X dX8_isSound_63 rfl rfl ?_
  refine V_geti X ob_0 rfl rfl hin_X8 14 (Nat.le_of_ble_eq_true rfl) tw_415 rfl dX8_isSound_64 ?_
  refine V_if_eq X (tgt := 100) dX8_isSound_67 (by decide) hf (fun hf => ?_) (fun hf => ?_)
  · refine V_iconst X dX8_isSound_100 ?_
    refine V_goto X (tgt := 105) dX8_isSound_101 (by decide) ?_
    exact V_zret X hE dX8_isSound_105 (Or.inr rfl) hf
  · refine V_iconst X dX8_isSound_70 ?_
    refine V_gload_n X dX8_isSound_71 rfl rfl ?_
    refine V_geti X ob_0 rfl rfl hin_X8 15 (Nat.le_of_ble_eq_true rfl) tw_416 rfl dX8_isSound_72 ?_
    refine V_icmp_gt X (tgt := 104) dX8_isSound_75 (by decide) hf (fun hf => ?_) (fun hf => ?_)
    · refine V_iconst X dX8_isSound_104 ?_
      exact V_zret X hE dX8_isSound_105 (Or.inl rfl) hf
    · refine V_gload_n X dX8_isSound_78 rfl rfl ?_
      refine V_geti X ob_0 rfl rfl hin_X8 15 (Nat.le_of_ble_eq_true rfl) tw_416 rfl dX8_isSound_79 ?_
      refine V_gload_n X dX8_isSound_82 rfl rfl ?_
      refine V_geti X ob_0 rfl rfl hin_X8 16 (Nat.le_of_ble_eq_true rfl) tw_417 rfl dX8_isSound_83 ?_
      refine V_icmp_gt X (tgt := 104) dX8_isSound_86 (by decide) hf (fun hf => ?_) (fun hf => ?_)
      · refine V_iconst X dX8_isSound_104 ?_
        exact V_zret X hE dX8_isSound_105 (Or.inl rfl) hf
      · refine V_gload_n X dX8_isSound_89 rfl rfl ?_
        refine V_geti X ob_0 rfl rfl hin_X8 16 (Nat.le_of_ble_eq_true rfl) tw_417 rfl dX8_isSound_90 ?_
        refine V_gload_n X dX8_isSound_93 rfl rfl ?_
        refine V_geti X ob_0 rfl rfl hin_X8 18 (Nat.le_of_ble_eq_true rfl) tw_419 rfl dX8_isSound_94 ?_
        refine V_icmp_gt X (tgt := 104) dX8_isSound_97 (by decide) hf (fun hf => ?_) (fun hf => ?_)
        · refine V_iconst X dX8_isSound_104 ?_
          exact V_zret X hE dX8_isSound_105 (Or.inl rfl) hf
        · refine V_iconst X dX8_isSound_100 ?_
          refine V_goto X (tgt := 105) dX8_isSound_101 (by decide) ?_
          exact V_zret X hE dX8_isSound_105 (Or.inr rfl) hf
set_option maxRecDepth 20000 in
theorem v_X8_isSound_2 {G : GG} {E : EE} (X : Cx G E cX8_isSound RX8 (some .boolean) rmX8_isSound 2) {q : (Int × WS)} (hE : EndI G E q)   : ∀ (n : Nat) (a1 : Int) (w : WS), f_X8_isSound_2   n a1 w = some q → VV G E 0 0 2 [(0, gr G 0), (1, vi a1)] [] w := by
  intro n
  induction n with
  | zero => intro a1 w hf; cases hf
  | succ n ih =>
    intro a1 w hf
    rw [f_X8_isSound_2_s] at hf
    refine V_iload_n X dX8_isSound_2 rfl rfl ?_
    refine V_bipush X dX8_isSound_3 (by decide) ?_
    refine V_icmp_ge X (tgt := 29) dX8_isSound_5 (by decide) hf (fun hf => ?_) (fun hf => ?_)
    · refine V_gload_n X dX8_isSound_8 rfl rfl ?_
      refine V_getr X ob_0 rfl rfl hin_X8 3 (Nat.le_of_ble_eq_true rfl) tw_404 rfl dX8_isSound_9 ?_
      refine V_iload_n X dX8_isSound_12 rfl rfl ?_
      refine V_cVI X hf [vi a1] _ 1 (fun _ h => m_X6_length is_7 h) ob_7 rfl tw_466 tw_87 tw_463 tw_464 tw_465 dX8_isSound_13 ⟨by decide +kernel, by decide +kernel, by decide +kernel⟩ ⟨rfl, rfl⟩ ⟨Nat.le_of_ble_eq_true rfl, Nat.le_of_ble_eq_true rfl⟩ rfl (Nat.le_of_ble_eq_true rfl) ⟨Nat.zero_le _, Nat.zero_le _⟩ (fun r1 w1 hf => ?_)
      refine V_bipush X dX8_isSound_16 (by decide) ?_
      refine V_icmp_le X (tgt := 23) dX8_isSound_18 (by decide) hf (fun hf => ?_) (fun hf => ?_)
      · refine V_iconst X dX8_isSound_21 ?_
        exact V_zret X hE dX8_isSound_22 (Or.inl rfl) hf
      · refine V_iinc X dX8_isSound_23 rfl (by decide) ?_
        refine V_goto X (tgt := 2) dX8_isSound_26 (by decide) ?_
        exact V_cut [0, 1] rfl (ih _ _ hf)
    · refine V_gload_n X dX8_isSound_29 rfl rfl ?_
      refine V_getr X ob_0 rfl rfl hin_X8 10 (Nat.le_of_ble_eq_true rfl) tw_411 rfl dX8_isSound_30 ?_
      refine V_getiN X ob_76 rfl rfl hin_X7 10 (Nat.le_of_ble_eq_true rfl) nw_27 rfl dX8_isSound_33 ?_
      refine V_if_eq X (tgt := 63) dX8_isSound_36 (by decide) hf (fun hf => ?_) (fun hf => ?_)
      · exact V_cut [0] rfl (v_X8_isSound_63 X hE hf)
      · refine V_gload_n X dX8_isSound_39 rfl rfl ?_
        refine V_getr X ob_0 rfl rfl hin_X8 10 (Nat.le_of_ble_eq_true rfl) tw_411 rfl dX8_isSound_40 ?_
        refine V_getiN X ob_76 rfl rfl hin_X7 13 (Nat.le_of_ble_eq_true rfl) nw_30 rfl dX8_isSound_43 ?_
        refine V_gload_n X dX8_isSound_46 rfl rfl ?_
        refine V_getr X ob_0 rfl rfl hin_X8 10 (Nat.le_of_ble_eq_true rfl) tw_411 rfl dX8_isSound_47 ?_
        refine V_getrN X ob_76 rfl rfl hin_X7 7 (Nat.le_of_ble_eq_true rfl) nw_25 rfl dX8_isSound_50 ?_
        refine V_bipush X dX8_isSound_53 (by decide) ?_
        refine V_cVI X hf [vi 40] _ 1 (fun _ h => m_X1_sum is_79 h) ob_79 rfl tw_496 tw_89 tw_493 tw_494 tw_495 dX8_isSound_55 ⟨by decide +kernel, by decide +kernel, by decide +kernel⟩ ⟨rfl, rfl⟩ ⟨Nat.le_of_ble_eq_true rfl, Nat.le_of_ble_eq_true rfl⟩ rfl (Nat.le_of_ble_eq_true rfl) ⟨Nat.zero_le _, Nat.zero_le _⟩ (fun r2 w2 hf => ?_)
        refine V_icmp_eq X (tgt := 63) dX8_isSound_58 (by decide) hf (fun hf => ?_) (fun hf => ?_)
        · exact V_cut [0] rfl (v_X8_isSound_63 X hE hf)
        · refine V_iconst X dX8_isSound_61 ?_
          exact V_zret X hE dX8_isSound_62 (Or.inl rfl) hf
set_option maxRecDepth 20000 in
theorem m_X8_isSound {G : GG}  {w : WS} {q : (Int × WS)}  (hf : f_X8_isSound  w = some q) : MI G yX8_isSound cX8_isSound 2 (some .boolean) rmX8_isSound [gr G 0] w q := by
  refine MI_of (by decide +kernel) (Nat.le_of_ble_eq_true rfl) (fun E X hE => ?_)
  have X : Cx G E cX8_isSound RX8 (some .boolean) rmX8_isSound 2 := X
  unfold f_X8_isSound at hf
  refine V_iconst X dX8_isSound_0 ?_
  refine V_istore_n X dX8_isSound_1 rfl (by decide) ?_
  exact V_cut [0, 1] rfl (v_X8_isSound_2 X hE FU _ _ hf)
abbrev rmX8_isSign : Room := { frames := 0, cells := 0, slots := 0, locals := 0 }
set_option maxRecDepth 20000 in
theorem v_X8_isSign_12 {G : GG} {E : EE} (X : Cx G E cX8_isSign RX8 (some .boolean) rmX8_isSign 1) {q : (Int × WS)} (hE : EndI G E q)   {a0 : Int} {w : WS} (hf : f_X8_isSign_12   a0 w = some q) : VV G E 0 0 12 [(0, vi a0)] [] w := by
  unfold f_X8_isSign_12 at hf
  refine V_iload_n X dX8_isSign_12 rfl rfl ?_
  refine V_ldcw (a := 128512) X tw_513 dX8_isSign_13 (by decide) ?_
  refine V_icmp_lt X (tgt := 30) dX8_isSign_16 (by decide) hf (fun hf => ?_) (fun hf => ?_)
  · refine V_iconst X dX8_isSign_30 ?_
    exact V_zret X hE dX8_isSign_31 (Or.inl rfl) hf
  · refine V_iload_n X dX8_isSign_19 rfl rfl ?_
    refine V_ldcw (a := 128591) X tw_514 dX8_isSign_20 (by decide) ?_
    refine V_icmp_gt X (tgt := 30) dX8_isSign_23 (by decide) hf (fun hf => ?_) (fun hf => ?_)
    · refine V_iconst X dX8_isSign_30 ?_
      exact V_zret X hE dX8_isSign_31 (Or.inl rfl) hf
    · refine V_iconst X dX8_isSign_26 ?_
      refine V_goto X (tgt := 31) dX8_isSign_27 (by decide) ?_
      exact V_zret X hE dX8_isSign_31 (Or.inr rfl) hf
set_option maxRecDepth 20000 in
theorem m_X8_isSign {G : GG} {a0 : Int} {w : WS} {q : (Int × WS)}  (hf : f_X8_isSign a0 w = some q) : MI G yX8_isSign cX8_isSign 1 (some .boolean) rmX8_isSign [vi a0] w q := by
  refine MI_of (by decide +kernel) (Nat.le_of_ble_eq_true rfl) (fun E X hE => ?_)
  have X : Cx G E cX8_isSign RX8 (some .boolean) rmX8_isSign 1 := X
  unfold f_X8_isSign at hf
  refine V_iload_n X dX8_isSign_0 rfl rfl ?_
  refine V_bipush X dX8_isSign_1 (by decide) ?_
  refine V_icmp_lt X (tgt := 12) dX8_isSign_3 (by decide) hf (fun hf => ?_) (fun hf => ?_)
  · exact V_cut [0] rfl (v_X8_isSign_12 X hE hf)
  · refine V_iload_n X dX8_isSign_6 rfl rfl ?_
    refine V_bipush X dX8_isSign_7 (by decide) ?_
    refine V_icmp_le X (tgt := 26) dX8_isSign_9 (by decide) hf (fun hf => ?_) (fun hf => ?_)
    · exact V_cut [0] rfl (v_X8_isSign_12 X hE hf)
    · refine V_iconst X dX8_isSign_26 ?_
      refine V_goto X (tgt := 31) dX8_isSign_27 (by decide) ?_
      exact V_zret X hE dX8_isSign_31 (Or.inr rfl) hf
abbrev rmX8_isBelow : Room := { frames := 0, cells := 0, slots := 0, locals := 0 }
set_option maxRecDepth 20000 in
theorem m_X8_isBelow {G : GG} {a0 : Int} {a1 : Int} {w : WS} {q : (Int × WS)}  (hf : f_X8_isBelow a0 a1 w = some q) : MI G yX8_isBelow cX8_isBelow 2 (some .boolean) rmX8_isBelow [vi a0, vi a1] w q := by
  refine MI_of (by decide +kernel) (Nat.le_of_ble_eq_true rfl) (fun E X hE => ?_)
  have X : Cx G E cX8_isBelow RX8 (some .boolean) rmX8_isBelow 2 := X
  unfold f_X8_isBelow at hf
  refine V_iload_n X dX8_isBelow_0 rfl rfl ?_
  refine V_if_lt X (tgt := 13) dX8_isBelow_1 (by decide) hf (fun hf => ?_) (fun hf => ?_)
  · refine V_iconst X dX8_isBelow_13 ?_
    exact V_zret X hE dX8_isBelow_14 (Or.inl rfl) hf
  · refine V_iload_n X dX8_isBelow_4 rfl rfl ?_
    refine V_iload_n X dX8_isBelow_5 rfl rfl ?_
    refine V_icmp_ge X (tgt := 13) dX8_isBelow_6 (by decide) hf (fun hf => ?_) (fun hf => ?_)
    · refine V_iconst X dX8_isBelow_9 ?_
      refine V_goto X (tgt := 14) dX8_isBelow_10 (by decide) ?_
      exact V_zret X hE dX8_isBelow_14 (Or.inr rfl) hf
    · refine V_iconst X dX8_isBelow_13 ?_
      exact V_zret X hE dX8_isBelow_14 (Or.inl rfl) hf
abbrev rmX8_patternPartsExist : Room := { frames := 1, cells := 0, slots := 0, locals := 21 }
set_option maxRecDepth 20000 in
theorem m_X8_patternPartsExist {G : GG} {a1 : Int} {a2 : Int} {a3 : Int} {w : WS} {q : (Int × WS)}  (hf : f_X8_patternPartsExist a1 a2 a3 w = some q) : MI G yX8_patternPartsExist cX8_patternPartsExist 4 (some .boolean) rmX8_patternPartsExist [gr G 0, vi a1, vi a2, vi a3] w q := by
  refine MI_of (by decide +kernel) (Nat.le_of_ble_eq_true rfl) (fun E X hE => ?_)
  have X : Cx G E cX8_patternPartsExist RX8 (some .boolean) rmX8_patternPartsExist 4 := X
  unfold f_X8_patternPartsExist at hf
  refine V_iload_n X dX8_patternPartsExist_0 rfl rfl ?_
  refine ite_c hf (fun h0 hf => ?_) (fun h0 hf => ?_)
  · refine V_lookup X (off := 238) (tgt := 239) dX8_patternPartsExist_1 (by decide) (by exact off_pos h0) (by decide) ?_
    refine V_iload_n X dX8_patternPartsExist_239 rfl rfl ?_
    refine V_if_lt X (tgt := 253) dX8_patternPartsExist_240 (by decide) hf (fun hf => ?_) (fun hf => ?_)
    · refine V_iconst X dX8_patternPartsExist_253 ?_
      exact V_zret X hE dX8_patternPartsExist_254 (Or.inl rfl) hf
    · refine V_iload_n X dX8_patternPartsExist_243 rfl rfl ?_
      refine V_bipush X dX8_patternPartsExist_244 (by decide) ?_
      refine V_icmp_gt X (tgt := 253) dX8_patternPartsExist_246 (by decide) hf (fun hf => ?_) (fun hf => ?_)
      · refine V_iconst X dX8_patternPartsExist_253 ?_
        exact V_zret X hE dX8_patternPartsExist_254 (Or.inl rfl) hf
      · refine V_iconst X dX8_patternPartsExist_249 ?_
        refine V_goto X (tgt := 254) dX8_patternPartsExist_250 (by decide) ?_
        exact V_zret X hE dX8_patternPartsExist_254 (Or.inr rfl) hf
  refine ite_c hf (fun h1 hf => ?_) (fun h1 hf => ?_)
  · refine V_lookup X (off := 202) (tgt := 203) dX8_patternPartsExist_1 (by decide) (by exact off_neg h0 (off_pos h1)) (by decide) ?_
    refine V_iload_n X dX8_patternPartsExist_203 rfl rfl ?_
    refine V_gload_n X dX8_patternPartsExist_204 rfl rfl ?_
    refine V_getr X ob_0 rfl rfl hin_X8 5 (Nat.le_of_ble_eq_true rfl) tw_406 rfl dX8_patternPartsExist_205 ?_
    refine V_getiN X ob_25 rfl rfl hin_X0 4 (Nat.le_of_ble_eq_true rfl) nw_6 rfl dX8_patternPartsExist_208 ?_
    refine V_cSI X hf [vi a2, vi (w 25 4)] _ 2 (fun _ h => m_X8_isBelow h) tw_678 tw_86 tw_676 tw_677 dX8_patternPartsExist_211 ⟨by decide +kernel, by decide +kernel, by decide +kernel⟩ ⟨rfl, rfl⟩ ⟨Nat.le_of_ble_eq_true rfl, Nat.le_of_ble_eq_true rfl⟩ rfl (Nat.le_of_ble_eq_true rfl) ⟨Nat.zero_le _, Nat.zero_le _⟩ (fun r1 w1 hf => ?_)
    refine V_if_eq X (tgt := 230) dX8_patternPartsExist_214 (by decide) hf (fun hf => ?_) (fun hf => ?_)
    · refine V_iconst X dX8_patternPartsExist_230 ?_
      exact V_zret X hE dX8_patternPartsExist_231 (Or.inl rfl) hf
    · refine V_iload_n X dX8_patternPartsExist_217 rfl rfl ?_
      refine V_bipush X dX8_patternPartsExist_218 (by decide) ?_
      refine V_cSI X hf [vi a3, vi 26] _ 2 (fun _ h => m_X8_isBelow h) tw_678 tw_86 tw_676 tw_677 dX8_patternPartsExist_220 ⟨by decide +kernel, by decide +kernel, by decide +kernel⟩ ⟨rfl, rfl⟩ ⟨Nat.le_of_ble_eq_true rfl, Nat.le_of_ble_eq_true rfl⟩ rfl (Nat.le_of_ble_eq_true rfl) ⟨Nat.zero_le _, Nat.zero_le _⟩ (fun r2 w2 hf => ?_)
      refine V_if_eq X (tgt := 230) dX8_patternPartsExist_223 (by decide) hf (fun hf => ?_) (fun hf => ?_)
      · refine V_iconst X dX8_patternPartsExist_230 ?_
        exact V_zret X hE dX8_patternPartsExist_231 (Or.inl rfl) hf
      · refine V_iconst X dX8_patternPartsExist_226 ?_
        refine V_goto X (tgt := 231) dX8_patternPartsExist_227 (by decide) ?_
        exact V_zret X hE dX8_patternPartsExist_231 (Or.inr rfl) hf
  refine ite_c hf (fun h2 hf => ?_) (fun h2 hf => ?_)
  · refine V_lookup X (off := 156) (tgt := 157) dX8_patternPartsExist_1 (by decide) (by exact off_neg h0 (off_neg h1 (off_pos h2))) (by decide) ?_
    refine V_iload_n X dX8_patternPartsExist_157 rfl rfl ?_
    refine V_gload_n X dX8_patternPartsExist_158 rfl rfl ?_
    refine V_getr X ob_0 rfl rfl hin_X8 5 (Nat.le_of_ble_eq_true rfl) tw_406 rfl dX8_patternPartsExist_159 ?_
    refine V_getiN X ob_25 rfl rfl hin_X0 4 (Nat.le_of_ble_eq_true rfl) nw_6 rfl dX8_patternPartsExist_162 ?_
    refine V_cSI X hf [vi a2, vi (w 25 4)] _ 2 (fun _ h => m_X8_isBelow h) tw_678 tw_86 tw_676 tw_677 dX8_patternPartsExist_165 ⟨by decide +kernel, by decide +kernel, by decide +kernel⟩ ⟨rfl, rfl⟩ ⟨Nat.le_of_ble_eq_true rfl, Nat.le_of_ble_eq_true rfl⟩ rfl (Nat.le_of_ble_eq_true rfl) ⟨Nat.zero_le _, Nat.zero_le _⟩ (fun r3 w3 hf => ?_)
    refine V_if_eq X (tgt := 189) dX8_patternPartsExist_168 (by decide) hf (fun hf => ?_) (fun hf => ?_)
    · refine V_iconst X dX8_patternPartsExist_189 ?_
      exact V_zret X hE dX8_patternPartsExist_190 (Or.inl rfl) hf
    · refine V_iload_n X dX8_patternPartsExist_171 rfl rfl ?_
      refine V_gload_n X dX8_patternPartsExist_172 rfl rfl ?_
      refine V_getr X ob_0 rfl rfl hin_X8 5 (Nat.le_of_ble_eq_true rfl) tw_406 rfl dX8_patternPartsExist_173 ?_
      refine V_getiN X ob_25 rfl rfl hin_X0 4 (Nat.le_of_ble_eq_true rfl) nw_6 rfl dX8_patternPartsExist_176 ?_
      refine V_cSI X hf [vi a3, vi (w3 25 4)] _ 2 (fun _ h => m_X8_isBelow h) tw_678 tw_86 tw_676 tw_677 dX8_patternPartsExist_179 ⟨by decide +kernel, by decide +kernel, by decide +kernel⟩ ⟨rfl, rfl⟩ ⟨Nat.le_of_ble_eq_true rfl, Nat.le_of_ble_eq_true rfl⟩ rfl (Nat.le_of_ble_eq_true rfl) ⟨Nat.zero_le _, Nat.zero_le _⟩ (fun r4 w4 hf => ?_)
      refine V_if_eq X (tgt := 189) dX8_patternPartsExist_182 (by decide) hf (fun hf => ?_) (fun hf => ?_)
      · refine V_iconst X dX8_patternPartsExist_189 ?_
        exact V_zret X hE dX8_patternPartsExist_190 (Or.inl rfl) hf
      · refine V_iconst X dX8_patternPartsExist_185 ?_
        refine V_goto X (tgt := 190) dX8_patternPartsExist_186 (by decide) ?_
        exact V_zret X hE dX8_patternPartsExist_190 (Or.inr rfl) hf
  refine ite_c hf (fun h3 hf => ?_) (fun h3 hf => ?_)
  · refine V_lookup X (off := 202) (tgt := 203) dX8_patternPartsExist_1 (by decide) (by exact off_neg h0 (off_neg h1 (off_neg h2 (off_pos h3)))) (by decide) ?_
    refine V_iload_n X dX8_patternPartsExist_203 rfl rfl ?_
    refine V_gload_n X dX8_patternPartsExist_204 rfl rfl ?_
    refine V_getr X ob_0 rfl rfl hin_X8 5 (Nat.le_of_ble_eq_true rfl) tw_406 rfl dX8_patternPartsExist_205 ?_
    refine V_getiN X ob_25 rfl rfl hin_X0 4 (Nat.le_of_ble_eq_true rfl) nw_6 rfl dX8_patternPartsExist_208 ?_
    refine V_cSI X hf [vi a2, vi (w 25 4)] _ 2 (fun _ h => m_X8_isBelow h) tw_678 tw_86 tw_676 tw_677 dX8_patternPartsExist_211 ⟨by decide +kernel, by decide +kernel, by decide +kernel⟩ ⟨rfl, rfl⟩ ⟨Nat.le_of_ble_eq_true rfl, Nat.le_of_ble_eq_true rfl⟩ rfl (Nat.le_of_ble_eq_true rfl) ⟨Nat.zero_le _, Nat.zero_le _⟩ (fun r5 w5 hf => ?_)
    refine V_if_eq X (tgt := 230) dX8_patternPartsExist_214 (by decide) hf (fun hf => ?_) (fun hf => ?_)
    · refine V_iconst X dX8_patternPartsExist_230 ?_
      exact V_zret X hE dX8_patternPartsExist_231 (Or.inl rfl) hf
    · refine V_iload_n X dX8_patternPartsExist_217 rfl rfl ?_
      refine V_bipush X dX8_patternPartsExist_218 (by decide) ?_
      refine V_cSI X hf [vi a3, vi 26] _ 2 (fun _ h => m_X8_isBelow h) tw_678 tw_86 tw_676 tw_677 dX8_patternPartsExist_220 ⟨by decide +kernel, by decide +kernel, by decide +kernel⟩ ⟨rfl, rfl⟩ ⟨Nat.le_of_ble_eq_true rfl, Nat.le_of_ble_eq_true rfl⟩ rfl (Nat.le_of_ble_eq_true rfl) ⟨Nat.zero_le _, Nat.zero_le _⟩ (fun r6 w6 hf => ?_)
      refine V_if_eq X (tgt := 230) dX8_patternPartsExist_223 (by decide) hf (fun hf => ?_) (fun hf => ?_)
      · refine V_iconst X dX8_patternPartsExist_230 ?_
        exact V_zret X hE dX8_patternPartsExist_231 (Or.inl rfl) hf
      · refine V_iconst X dX8_patternPartsExist_226 ?_
        refine V_goto X (tgt := 231) dX8_patternPartsExist_227 (by decide) ?_
        exact V_zret X hE dX8_patternPartsExist_231 (Or.inr rfl) hf
  refine ite_c hf (fun h4 hf => ?_) (fun h4 hf => ?_)
  · refine V_lookup X (off := 231) (tgt := 232) dX8_patternPartsExist_1 (by decide) (by exact off_neg h0 (off_neg h1 (off_neg h2 (off_neg h3 (off_pos h4))))) (by decide) ?_
    refine V_iload_n X dX8_patternPartsExist_232 rfl rfl ?_
    refine V_bipush X dX8_patternPartsExist_233 (by decide) ?_
    refine V_cSI X hf [vi a2, vi 26] _ 2 (fun _ h => m_X8_isBelow h) tw_678 tw_86 tw_676 tw_677 dX8_patternPartsExist_235 ⟨by decide +kernel, by decide +kernel, by decide +kernel⟩ ⟨rfl, rfl⟩ ⟨Nat.le_of_ble_eq_true rfl, Nat.le_of_ble_eq_true rfl⟩ rfl (Nat.le_of_ble_eq_true rfl) ⟨Nat.zero_le _, Nat.zero_le _⟩ (fun r7 w7 hf => ?_)
    obtain ⟨hz, hf⟩ := ite_n hf
    exact V_zret X hE dX8_patternPartsExist_238 hz hf
  refine ite_c hf (fun h5 hf => ?_) (fun h5 hf => ?_)
  · refine V_lookup X (off := 190) (tgt := 191) dX8_patternPartsExist_1 (by decide) (by exact off_neg h0 (off_neg h1 (off_neg h2 (off_neg h3 (off_neg h4 (off_pos h5)))))) (by decide) ?_
    refine V_iload_n X dX8_patternPartsExist_191 rfl rfl ?_
    refine V_gload_n X dX8_patternPartsExist_192 rfl rfl ?_
    refine V_getr X ob_0 rfl rfl hin_X8 5 (Nat.le_of_ble_eq_true rfl) tw_406 rfl dX8_patternPartsExist_193 ?_
    refine V_getiN X ob_25 rfl rfl hin_X0 4 (Nat.le_of_ble_eq_true rfl) nw_6 rfl dX8_patternPartsExist_196 ?_
    refine V_cSI X hf [vi a2, vi (w 25 4)] _ 2 (fun _ h => m_X8_isBelow h) tw_678 tw_86 tw_676 tw_677 dX8_patternPartsExist_199 ⟨by decide +kernel, by decide +kernel, by decide +kernel⟩ ⟨rfl, rfl⟩ ⟨Nat.le_of_ble_eq_true rfl, Nat.le_of_ble_eq_true rfl⟩ rfl (Nat.le_of_ble_eq_true rfl) ⟨Nat.zero_le _, Nat.zero_le _⟩ (fun r8 w8 hf => ?_)
    obtain ⟨hz, hf⟩ := ite_n hf
    exact V_zret X hE dX8_patternPartsExist_202 hz hf
  refine ite_c hf (fun h6 hf => ?_) (fun h6 hf => ?_)
  · refine V_lookup X (off := 147) (tgt := 148) dX8_patternPartsExist_1 (by decide) (by exact off_neg h0 (off_neg h1 (off_neg h2 (off_neg h3 (off_neg h4 (off_neg h5 (off_pos h6))))))) (by decide) ?_
    refine V_iload_n X dX8_patternPartsExist_148 rfl rfl ?_
    refine V_gload_n X dX8_patternPartsExist_149 rfl rfl ?_
    refine V_geti X ob_0 rfl rfl hin_X8 2 (Nat.le_of_ble_eq_true rfl) tw_403 rfl dX8_patternPartsExist_150 ?_
    refine V_cSI X hf [vi a2, vi (w 0 2)] _ 2 (fun _ h => m_X8_isBelow h) tw_678 tw_86 tw_676 tw_677 dX8_patternPartsExist_153 ⟨by decide +kernel, by decide +kernel, by decide +kernel⟩ ⟨rfl, rfl⟩ ⟨Nat.le_of_ble_eq_true rfl, Nat.le_of_ble_eq_true rfl⟩ rfl (Nat.le_of_ble_eq_true rfl) ⟨Nat.zero_le _, Nat.zero_le _⟩ (fun r9 w9 hf => ?_)
    obtain ⟨hz, hf⟩ := ite_n hf
    exact V_zret X hE dX8_patternPartsExist_156 hz hf
  refine ite_c hf (fun h7 hf => ?_) (fun h7 hf => ?_)
  · refine V_lookup X (off := 147) (tgt := 148) dX8_patternPartsExist_1 (by decide) (by exact off_neg h0 (off_neg h1 (off_neg h2 (off_neg h3 (off_neg h4 (off_neg h5 (off_neg h6 (off_pos h7)))))))) (by decide) ?_
    refine V_iload_n X dX8_patternPartsExist_148 rfl rfl ?_
    refine V_gload_n X dX8_patternPartsExist_149 rfl rfl ?_
    refine V_geti X ob_0 rfl rfl hin_X8 2 (Nat.le_of_ble_eq_true rfl) tw_403 rfl dX8_patternPartsExist_150 ?_
    refine V_cSI X hf [vi a2, vi (w 0 2)] _ 2 (fun _ h => m_X8_isBelow h) tw_678 tw_86 tw_676 tw_677 dX8_patternPartsExist_153 ⟨by decide +kernel, by decide +kernel, by decide +kernel⟩ ⟨rfl, rfl⟩ ⟨Nat.le_of_ble_eq_true rfl, Nat.le_of_ble_eq_true rfl⟩ rfl (Nat.le_of_ble_eq_true rfl) ⟨Nat.zero_le _, Nat.zero_le _⟩ (fun r10 w10 hf => ?_)
    obtain ⟨hz, hf⟩ := ite_n hf
    exact V_zret X hE dX8_patternPartsExist_156 hz hf
  refine ite_c hf (fun h8 hf => ?_) (fun h8 hf => ?_)
  · refine V_lookup X (off := 147) (tgt := 148) dX8_patternPartsExist_1 (by decide) (by exact off_neg h0 (off_neg h1 (off_neg h2 (off_neg h3 (off_neg h4 (off_neg h5 (off_neg h6 (off_neg h7 (off_pos h8))))))))) (by decide) ?_
    refine V_iload_n X dX8_patternPartsExist_148 rfl rfl ?_
    refine V_gload_n X dX8_patternPartsExist_149 rfl rfl ?_
    refine V_geti X ob_0 rfl rfl hin_X8 2 (Nat.le_of_ble_eq_true rfl) tw_403 rfl dX8_patternPartsExist_150 ?_
    refine V_cSI X hf [vi a2, vi (w 0 2)] _ 2 (fun _ h => m_X8_isBelow h) tw_678 tw_86 tw_676 tw_677 dX8_patternPartsExist_153 ⟨by decide +kernel, by decide +kernel, by decide +kernel⟩ ⟨rfl, rfl⟩ ⟨Nat.le_of_ble_eq_true rfl, Nat.le_of_ble_eq_true rfl⟩ rfl (Nat.le_of_ble_eq_true rfl) ⟨Nat.zero_le _, Nat.zero_le _⟩ (fun r11 w11 hf => ?_)
    obtain ⟨hz, hf⟩ := ite_n hf
    exact V_zret X hE dX8_patternPartsExist_156 hz hf
  refine ite_c hf (fun h9 hf => ?_) (fun h9 hf => ?_)
  · refine V_lookup X (off := 147) (tgt := 148) dX8_patternPartsExist_1 (by decide) (by exact off_neg h0 (off_neg h1 (off_neg h2 (off_neg h3 (off_neg h4 (off_neg h5 (off_neg h6 (off_neg h7 (off_neg h8 (off_pos h9)))))))))) (by decide) ?_
    refine V_iload_n X dX8_patternPartsExist_148 rfl rfl ?_
    refine V_gload_n X dX8_patternPartsExist_149 rfl rfl ?_
    refine V_geti X ob_0 rfl rfl hin_X8 2 (Nat.le_of_ble_eq_true rfl) tw_403 rfl dX8_patternPartsExist_150 ?_
    refine V_cSI X hf [vi a2, vi (w 0 2)] _ 2 (fun _ h => m_X8_isBelow h) tw_678 tw_86 tw_676 tw_677 dX8_patternPartsExist_153 ⟨by decide +kernel, by decide +kernel, by decide +kernel⟩ ⟨rfl, rfl⟩ ⟨Nat.le_of_ble_eq_true rfl, Nat.le_of_ble_eq_true rfl⟩ rfl (Nat.le_of_ble_eq_true rfl) ⟨Nat.zero_le _, Nat.zero_le _⟩ (fun r12 w12 hf => ?_)
    obtain ⟨hz, hf⟩ := ite_n hf
    exact V_zret X hE dX8_patternPartsExist_156 hz hf
  refine ite_c hf (fun h10 hf => ?_) (fun h10 hf => ?_)
  · refine V_lookup X (off := 238) (tgt := 239) dX8_patternPartsExist_1 (by decide) (by exact off_neg h0 (off_neg h1 (off_neg h2 (off_neg h3 (off_neg h4 (off_neg h5 (off_neg h6 (off_neg h7 (off_neg h8 (off_neg h9 (off_pos h10))))))))))) (by decide) ?_
    refine V_iload_n X dX8_patternPartsExist_239 rfl rfl ?_
    refine V_if_lt X (tgt := 253) dX8_patternPartsExist_240 (by decide) hf (fun hf => ?_) (fun hf => ?_)
    · refine V_iconst X dX8_patternPartsExist_253 ?_
      exact V_zret X hE dX8_patternPartsExist_254 (Or.inl rfl) hf
    · refine V_iload_n X dX8_patternPartsExist_243 rfl rfl ?_
      refine V_bipush X dX8_patternPartsExist_244 (by decide) ?_
      refine V_icmp_gt X (tgt := 253) dX8_patternPartsExist_246 (by decide) hf (fun hf => ?_) (fun hf => ?_)
      · refine V_iconst X dX8_patternPartsExist_253 ?_
        exact V_zret X hE dX8_patternPartsExist_254 (Or.inl rfl) hf
      · refine V_iconst X dX8_patternPartsExist_249 ?_
        refine V_goto X (tgt := 254) dX8_patternPartsExist_250 (by decide) ?_
        exact V_zret X hE dX8_patternPartsExist_254 (Or.inr rfl) hf
  refine ite_c hf (fun h11 hf => ?_) (fun h11 hf => ?_)
  · refine V_lookup X (off := 238) (tgt := 239) dX8_patternPartsExist_1 (by decide) (by exact off_neg h0 (off_neg h1 (off_neg h2 (off_neg h3 (off_neg h4 (off_neg h5 (off_neg h6 (off_neg h7 (off_neg h8 (off_neg h9 (off_neg h10 (off_pos h11)))))))))))) (by decide) ?_
    refine V_iload_n X dX8_patternPartsExist_239 rfl rfl ?_
    refine V_if_lt X (tgt := 253) dX8_patternPartsExist_240 (by decide) hf (fun hf => ?_) (fun hf => ?_)
    · refine V_iconst X dX8_patternPartsExist_253 ?_
      exact V_zret X hE dX8_patternPartsExist_254 (Or.inl rfl) hf
    · refine V_iload_n X dX8_patternPartsExist_243 rfl rfl ?_
      refine V_bipush X dX8_patternPartsExist_244 (by decide) ?_
      refine V_icmp_gt X (tgt := 253) dX8_patternPartsExist_246 (by decide) hf (fun hf => ?_) (fun hf => ?_)
      · refine V_iconst X dX8_patternPartsExist_253 ?_
        exact V_zret X hE dX8_patternPartsExist_254 (Or.inl rfl) hf
      · refine V_iconst X dX8_patternPartsExist_249 ?_
        refine V_goto X (tgt := 254) dX8_patternPartsExist_250 (by decide) ?_
        exact V_zret X hE dX8_patternPartsExist_254 (Or.inr rfl) hf
  refine ite_c hf (fun h12 hf => ?_) (fun h12 hf => ?_)
  · refine V_lookup X (off := 238) (tgt := 239) dX8_patternPartsExist_1 (by decide) (by exact off_neg h0 (off_neg h1 (off_neg h2 (off_neg h3 (off_neg h4 (off_neg h5 (off_neg h6 (off_neg h7 (off_neg h8 (off_neg h9 (off_neg h10 (off_neg h11 (off_pos h12))))))))))))) (by decide) ?_
    refine V_iload_n X dX8_patternPartsExist_239 rfl rfl ?_
    refine V_if_lt X (tgt := 253) dX8_patternPartsExist_240 (by decide) hf (fun hf => ?_) (fun hf => ?_)
    · refine V_iconst X dX8_patternPartsExist_253 ?_
      exact V_zret X hE dX8_patternPartsExist_254 (Or.inl rfl) hf
    · refine V_iload_n X dX8_patternPartsExist_243 rfl rfl ?_
      refine V_bipush X dX8_patternPartsExist_244 (by decide) ?_
      refine V_icmp_gt X (tgt := 253) dX8_patternPartsExist_246 (by decide) hf (fun hf => ?_) (fun hf => ?_)
      · refine V_iconst X dX8_patternPartsExist_253 ?_
        exact V_zret X hE dX8_patternPartsExist_254 (Or.inl rfl) hf
      · refine V_iconst X dX8_patternPartsExist_249 ?_
        refine V_goto X (tgt := 254) dX8_patternPartsExist_250 (by decide) ?_
        exact V_zret X hE dX8_patternPartsExist_254 (Or.inr rfl) hf
  refine ite_c hf (fun h13 hf => ?_) (fun h13 hf => ?_)
  · refine V_lookup X (off := 147) (tgt := 148) dX8_patternPartsExist_1 (by decide) (by exact off_neg h0 (off_neg h1 (off_neg h2 (off_neg h3 (off_neg h4 (off_neg h5 (off_neg h6 (off_neg h7 (off_neg h8 (off_neg h9 (off_neg h10 (off_neg h11 (off_neg h12 (off_pos h13)))))))))))))) (by decide) ?_
    refine V_iload_n X dX8_patternPartsExist_148 rfl rfl ?_
    refine V_gload_n X dX8_patternPartsExist_149 rfl rfl ?_
    refine V_geti X ob_0 rfl rfl hin_X8 2 (Nat.le_of_ble_eq_true rfl) tw_403 rfl dX8_patternPartsExist_150 ?_
    refine V_cSI X hf [vi a2, vi (w 0 2)] _ 2 (fun _ h => m_X8_isBelow h) tw_678 tw_86 tw_676 tw_677 dX8_patternPartsExist_153 ⟨by decide +kernel, by decide +kernel, by decide +kernel⟩ ⟨rfl, rfl⟩ ⟨Nat.le_of_ble_eq_true rfl, Nat.le_of_ble_eq_true rfl⟩ rfl (Nat.le_of_ble_eq_true rfl) ⟨Nat.zero_le _, Nat.zero_le _⟩ (fun r13 w13 hf => ?_)
    obtain ⟨hz, hf⟩ := ite_n hf
    exact V_zret X hE dX8_patternPartsExist_156 hz hf
  refine ite_c hf (fun h14 hf => ?_) (fun h14 hf => ?_)
  · refine V_lookup X (off := 238) (tgt := 239) dX8_patternPartsExist_1 (by decide) (by exact off_neg h0 (off_neg h1 (off_neg h2 (off_neg h3 (off_neg h4 (off_neg h5 (off_neg h6 (off_neg h7 (off_neg h8 (off_neg h9 (off_neg h10 (off_neg h11 (off_neg h12 (off_neg h13 (off_pos h14))))))))))))))) (by decide) ?_
    refine V_iload_n X dX8_patternPartsExist_239 rfl rfl ?_
    refine V_if_lt X (tgt := 253) dX8_patternPartsExist_240 (by decide) hf (fun hf => ?_) (fun hf => ?_)
    · refine V_iconst X dX8_patternPartsExist_253 ?_
      exact V_zret X hE dX8_patternPartsExist_254 (Or.inl rfl) hf
    · refine V_iload_n X dX8_patternPartsExist_243 rfl rfl ?_
      refine V_bipush X dX8_patternPartsExist_244 (by decide) ?_
      refine V_icmp_gt X (tgt := 253) dX8_patternPartsExist_246 (by decide) hf (fun hf => ?_) (fun hf => ?_)
      · refine V_iconst X dX8_patternPartsExist_253 ?_
        exact V_zret X hE dX8_patternPartsExist_254 (Or.inl rfl) hf
      · refine V_iconst X dX8_patternPartsExist_249 ?_
        refine V_goto X (tgt := 254) dX8_patternPartsExist_250 (by decide) ?_
        exact V_zret X hE dX8_patternPartsExist_254 (Or.inr rfl) hf
  refine ite_c hf (fun h15 hf => ?_) (fun h15 hf => ?_)
  · refine V_lookup X (off := 231) (tgt := 232) dX8_patternPartsExist_1 (by decide) (by exact off_neg h0 (off_neg h1 (off_neg h2 (off_neg h3 (off_neg h4 (off_neg h5 (off_neg h6 (off_neg h7 (off_neg h8 (off_neg h9 (off_neg h10 (off_neg h11 (off_neg h12 (off_neg h13 (off_neg h14 (off_pos h15)))))))))))))))) (by decide) ?_
    refine V_iload_n X dX8_patternPartsExist_232 rfl rfl ?_
    refine V_bipush X dX8_patternPartsExist_233 (by decide) ?_
    refine V_cSI X hf [vi a2, vi 26] _ 2 (fun _ h => m_X8_isBelow h) tw_678 tw_86 tw_676 tw_677 dX8_patternPartsExist_235 ⟨by decide +kernel, by decide +kernel, by decide +kernel⟩ ⟨rfl, rfl⟩ ⟨Nat.le_of_ble_eq_true rfl, Nat.le_of_ble_eq_true rfl⟩ rfl (Nat.le_of_ble_eq_true rfl) ⟨Nat.zero_le _, Nat.zero_le _⟩ (fun r14 w14 hf => ?_)
    obtain ⟨hz, hf⟩ := ite_n hf
    exact V_zret X hE dX8_patternPartsExist_238 hz hf
  refine ite_c hf (fun h16 hf => ?_) (fun h16 hf => ?_)
  · refine V_lookup X (off := 156) (tgt := 157) dX8_patternPartsExist_1 (by decide) (by exact off_neg h0 (off_neg h1 (off_neg h2 (off_neg h3 (off_neg h4 (off_neg h5 (off_neg h6 (off_neg h7 (off_neg h8 (off_neg h9 (off_neg h10 (off_neg h11 (off_neg h12 (off_neg h13 (off_neg h14 (off_neg h15 (off_pos h16))))))))))))))))) (by decide) ?_
    refine V_iload_n X dX8_patternPartsExist_157 rfl rfl ?_
    refine V_gload_n X dX8_patternPartsExist_158 rfl rfl ?_
    refine V_getr X ob_0 rfl rfl hin_X8 5 (Nat.le_of_ble_eq_true rfl) tw_406 rfl dX8_patternPartsExist_159 ?_
    refine V_getiN X ob_25 rfl rfl hin_X0 4 (Nat.le_of_ble_eq_true rfl) nw_6 rfl dX8_patternPartsExist_162 ?_
    refine V_cSI X hf [vi a2, vi (w 25 4)] _ 2 (fun _ h => m_X8_isBelow h) tw_678 tw_86 tw_676 tw_677 dX8_patternPartsExist_165 ⟨by decide +kernel, by decide +kernel, by decide +kernel⟩ ⟨rfl, rfl⟩ ⟨Nat.le_of_ble_eq_true rfl, Nat.le_of_ble_eq_true rfl⟩ rfl (Nat.le_of_ble_eq_true rfl) ⟨Nat.zero_le _, Nat.zero_le _⟩ (fun r15 w15 hf => ?_)
    refine V_if_eq X (tgt := 189) dX8_patternPartsExist_168 (by decide) hf (fun hf => ?_) (fun hf => ?_)
    · refine V_iconst X dX8_patternPartsExist_189 ?_
      exact V_zret X hE dX8_patternPartsExist_190 (Or.inl rfl) hf
    · refine V_iload_n X dX8_patternPartsExist_171 rfl rfl ?_
      refine V_gload_n X dX8_patternPartsExist_172 rfl rfl ?_
      refine V_getr X ob_0 rfl rfl hin_X8 5 (Nat.le_of_ble_eq_true rfl) tw_406 rfl dX8_patternPartsExist_173 ?_
      refine V_getiN X ob_25 rfl rfl hin_X0 4 (Nat.le_of_ble_eq_true rfl) nw_6 rfl dX8_patternPartsExist_176 ?_
      refine V_cSI X hf [vi a3, vi (w15 25 4)] _ 2 (fun _ h => m_X8_isBelow h) tw_678 tw_86 tw_676 tw_677 dX8_patternPartsExist_179 ⟨by decide +kernel, by decide +kernel, by decide +kernel⟩ ⟨rfl, rfl⟩ ⟨Nat.le_of_ble_eq_true rfl, Nat.le_of_ble_eq_true rfl⟩ rfl (Nat.le_of_ble_eq_true rfl) ⟨Nat.zero_le _, Nat.zero_le _⟩ (fun r16 w16 hf => ?_)
      refine V_if_eq X (tgt := 189) dX8_patternPartsExist_182 (by decide) hf (fun hf => ?_) (fun hf => ?_)
      · refine V_iconst X dX8_patternPartsExist_189 ?_
        exact V_zret X hE dX8_patternPartsExist_190 (Or.inl rfl) hf
      · refine V_iconst X dX8_patternPartsExist_185 ?_
        refine V_goto X (tgt := 190) dX8_patternPartsExist_186 (by decide) ?_
        exact V_zret X hE dX8_patternPartsExist_190 (Or.inr rfl) hf
  refine V_lookup X (off := 254) (tgt := 255) dX8_patternPartsExist_1 (by decide) (by exact off_neg h0 (off_neg h1 (off_neg h2 (off_neg h3 (off_neg h4 (off_neg h5 (off_neg h6 (off_neg h7 (off_neg h8 (off_neg h9 (off_neg h10 (off_neg h11 (off_neg h12 (off_neg h13 (off_neg h14 (off_neg h15 (off_neg h16 (rfl)))))))))))))))))) (by decide) ?_
  refine V_iconst X dX8_patternPartsExist_255 ?_
  exact V_zret X hE dX8_patternPartsExist_256 (Or.inr rfl) hf
abbrev rmX8_termPartsExist : Room := { frames := 1, cells := 0, slots := 0, locals := 21 }
set_option maxRecDepth 20000 in
theorem m_X8_termPartsExist {G : GG} {a1 : Int} {a2 : Int} {a3 : Int} {w : WS} {q : (Int × WS)}  (hf : f_X8_termPartsExist a1 a2 a3 w = some q) : MI G yX8_termPartsExist cX8_termPartsExist 4 (some .boolean) rmX8_termPartsExist [gr G 0, vi a1, vi a2, vi a3] w q := by
  refine MI_of (by decide +kernel) (Nat.le_of_ble_eq_true rfl) (fun E X hE => ?_)
  have X : Cx G E cX8_termPartsExist RX8 (some .boolean) rmX8_termPartsExist 4 := X
  unfold f_X8_termPartsExist at hf
  refine V_iload_n X dX8_termPartsExist_0 rfl rfl ?_
  refine ite_c hf (fun h0 hf => ?_) (fun h0 hf => ?_)
  · refine V_lookup X (off := 67) (tgt := 68) dX8_termPartsExist_1 (by decide) (by exact off_pos h0) (by decide) ?_
    refine V_iload_n X dX8_termPartsExist_68 rfl rfl ?_
    refine V_gload_n X dX8_termPartsExist_69 rfl rfl ?_
    refine V_getr X ob_0 rfl rfl hin_X8 6 (Nat.le_of_ble_eq_true rfl) tw_407 rfl dX8_termPartsExist_70 ?_
    refine V_getiN X ob_32 rfl rfl hin_X0 4 (Nat.le_of_ble_eq_true rfl) nw_6 rfl dX8_termPartsExist_73 ?_
    refine V_cSI X hf [vi a2, vi (w 32 4)] _ 2 (fun _ h => m_X8_isBelow h) tw_678 tw_86 tw_676 tw_677 dX8_termPartsExist_76 ⟨by decide +kernel, by decide +kernel, by decide +kernel⟩ ⟨rfl, rfl⟩ ⟨Nat.le_of_ble_eq_true rfl, Nat.le_of_ble_eq_true rfl⟩ rfl (Nat.le_of_ble_eq_true rfl) ⟨Nat.zero_le _, Nat.zero_le _⟩ (fun r1 w1 hf => ?_)
    obtain ⟨hz, hf⟩ := ite_n hf
    exact V_zret X hE dX8_termPartsExist_79 hz hf
  refine ite_c hf (fun h1 hf => ?_) (fun h1 hf => ?_)
  · refine V_lookup X (off := 67) (tgt := 68) dX8_termPartsExist_1 (by decide) (by exact off_neg h0 (off_pos h1)) (by decide) ?_
    refine V_iload_n X dX8_termPartsExist_68 rfl rfl ?_
    refine V_gload_n X dX8_termPartsExist_69 rfl rfl ?_
    refine V_getr X ob_0 rfl rfl hin_X8 6 (Nat.le_of_ble_eq_true rfl) tw_407 rfl dX8_termPartsExist_70 ?_
    refine V_getiN X ob_32 rfl rfl hin_X0 4 (Nat.le_of_ble_eq_true rfl) nw_6 rfl dX8_termPartsExist_73 ?_
    refine V_cSI X hf [vi a2, vi (w 32 4)] _ 2 (fun _ h => m_X8_isBelow h) tw_678 tw_86 tw_676 tw_677 dX8_termPartsExist_76 ⟨by decide +kernel, by decide +kernel, by decide +kernel⟩ ⟨rfl, rfl⟩ ⟨Nat.le_of_ble_eq_true rfl, Nat.le_of_ble_eq_true rfl⟩ rfl (Nat.le_of_ble_eq_true rfl) ⟨Nat.zero_le _, Nat.zero_le _⟩ (fun r2 w2 hf => ?_)
    obtain ⟨hz, hf⟩ := ite_n hf
    exact V_zret X hE dX8_termPartsExist_79 hz hf
  refine ite_c hf (fun h2 hf => ?_) (fun h2 hf => ?_)
  · refine V_lookup X (off := 51) (tgt := 52) dX8_termPartsExist_1 (by decide) (by exact off_neg h0 (off_neg h1 (off_pos h2))) (by decide) ?_
    refine V_iload_n X dX8_termPartsExist_52 rfl rfl ?_
    refine V_gload_n X dX8_termPartsExist_53 rfl rfl ?_
    refine V_geti X ob_0 rfl rfl hin_X8 2 (Nat.le_of_ble_eq_true rfl) tw_403 rfl dX8_termPartsExist_54 ?_
    refine V_cSI X hf [vi a2, vi (w 0 2)] _ 2 (fun _ h => m_X8_isBelow h) tw_678 tw_86 tw_676 tw_677 dX8_termPartsExist_57 ⟨by decide +kernel, by decide +kernel, by decide +kernel⟩ ⟨rfl, rfl⟩ ⟨Nat.le_of_ble_eq_true rfl, Nat.le_of_ble_eq_true rfl⟩ rfl (Nat.le_of_ble_eq_true rfl) ⟨Nat.zero_le _, Nat.zero_le _⟩ (fun r3 w3 hf => ?_)
    obtain ⟨hz, hf⟩ := ite_n hf
    exact V_zret X hE dX8_termPartsExist_60 hz hf
  refine ite_c hf (fun h3 hf => ?_) (fun h3 hf => ?_)
  · refine V_lookup X (off := 60) (tgt := 61) dX8_termPartsExist_1 (by decide) (by exact off_neg h0 (off_neg h1 (off_neg h2 (off_pos h3)))) (by decide) ?_
    refine V_iload_n X dX8_termPartsExist_61 rfl rfl ?_
    refine V_bipush X dX8_termPartsExist_62 (by decide) ?_
    refine V_cSI X hf [vi a2, vi 26] _ 2 (fun _ h => m_X8_isBelow h) tw_678 tw_86 tw_676 tw_677 dX8_termPartsExist_64 ⟨by decide +kernel, by decide +kernel, by decide +kernel⟩ ⟨rfl, rfl⟩ ⟨Nat.le_of_ble_eq_true rfl, Nat.le_of_ble_eq_true rfl⟩ rfl (Nat.le_of_ble_eq_true rfl) ⟨Nat.zero_le _, Nat.zero_le _⟩ (fun r4 w4 hf => ?_)
    obtain ⟨hz, hf⟩ := ite_n hf
    exact V_zret X hE dX8_termPartsExist_67 hz hf
  refine ite_c hf (fun h4 hf => ?_) (fun h4 hf => ?_)
  · refine V_lookup X (off := 67) (tgt := 68) dX8_termPartsExist_1 (by decide) (by exact off_neg h0 (off_neg h1 (off_neg h2 (off_neg h3 (off_pos h4))))) (by decide) ?_
    refine V_iload_n X dX8_termPartsExist_68 rfl rfl ?_
    refine V_gload_n X dX8_termPartsExist_69 rfl rfl ?_
    refine V_getr X ob_0 rfl rfl hin_X8 6 (Nat.le_of_ble_eq_true rfl) tw_407 rfl dX8_termPartsExist_70 ?_
    refine V_getiN X ob_32 rfl rfl hin_X0 4 (Nat.le_of_ble_eq_true rfl) nw_6 rfl dX8_termPartsExist_73 ?_
    refine V_cSI X hf [vi a2, vi (w 32 4)] _ 2 (fun _ h => m_X8_isBelow h) tw_678 tw_86 tw_676 tw_677 dX8_termPartsExist_76 ⟨by decide +kernel, by decide +kernel, by decide +kernel⟩ ⟨rfl, rfl⟩ ⟨Nat.le_of_ble_eq_true rfl, Nat.le_of_ble_eq_true rfl⟩ rfl (Nat.le_of_ble_eq_true rfl) ⟨Nat.zero_le _, Nat.zero_le _⟩ (fun r5 w5 hf => ?_)
    obtain ⟨hz, hf⟩ := ite_n hf
    exact V_zret X hE dX8_termPartsExist_79 hz hf
  refine V_lookup X (off := 79) (tgt := 80) dX8_termPartsExist_1 (by decide) (by exact off_neg h0 (off_neg h1 (off_neg h2 (off_neg h3 (off_neg h4 (rfl)))))) (by decide) ?_
  refine V_iload_n X dX8_termPartsExist_80 rfl rfl ?_
  refine V_gload_n X dX8_termPartsExist_81 rfl rfl ?_
  refine V_getr X ob_0 rfl rfl hin_X8 6 (Nat.le_of_ble_eq_true rfl) tw_407 rfl dX8_termPartsExist_82 ?_
  refine V_getiN X ob_32 rfl rfl hin_X0 4 (Nat.le_of_ble_eq_true rfl) nw_6 rfl dX8_termPartsExist_85 ?_
  refine V_cSI X hf [vi a2, vi (w 32 4)] _ 2 (fun _ h => m_X8_isBelow h) tw_678 tw_86 tw_676 tw_677 dX8_termPartsExist_88 ⟨by decide +kernel, by decide +kernel, by decide +kernel⟩ ⟨rfl, rfl⟩ ⟨Nat.le_of_ble_eq_true rfl, Nat.le_of_ble_eq_true rfl⟩ rfl (Nat.le_of_ble_eq_true rfl) ⟨Nat.zero_le _, Nat.zero_le _⟩ (fun r6 w6 hf => ?_)
  refine V_if_eq X (tgt := 112) dX8_termPartsExist_91 (by decide) hf (fun hf => ?_) (fun hf => ?_)
  · refine V_iconst X dX8_termPartsExist_112 ?_
    exact V_zret X hE dX8_termPartsExist_113 (Or.inl rfl) hf
  · refine V_iload_n X dX8_termPartsExist_94 rfl rfl ?_
    refine V_gload_n X dX8_termPartsExist_95 rfl rfl ?_
    refine V_getr X ob_0 rfl rfl hin_X8 6 (Nat.le_of_ble_eq_true rfl) tw_407 rfl dX8_termPartsExist_96 ?_
    refine V_getiN X ob_32 rfl rfl hin_X0 4 (Nat.le_of_ble_eq_true rfl) nw_6 rfl dX8_termPartsExist_99 ?_
    refine V_cSI X hf [vi a3, vi (w6 32 4)] _ 2 (fun _ h => m_X8_isBelow h) tw_678 tw_86 tw_676 tw_677 dX8_termPartsExist_102 ⟨by decide +kernel, by decide +kernel, by decide +kernel⟩ ⟨rfl, rfl⟩ ⟨Nat.le_of_ble_eq_true rfl, Nat.le_of_ble_eq_true rfl⟩ rfl (Nat.le_of_ble_eq_true rfl) ⟨Nat.zero_le _, Nat.zero_le _⟩ (fun r7 w7 hf => ?_)
    refine V_if_eq X (tgt := 112) dX8_termPartsExist_105 (by decide) hf (fun hf => ?_) (fun hf => ?_)
    · refine V_iconst X dX8_termPartsExist_112 ?_
      exact V_zret X hE dX8_termPartsExist_113 (Or.inl rfl) hf
    · refine V_iconst X dX8_termPartsExist_108 ?_
      refine V_goto X (tgt := 113) dX8_termPartsExist_109 (by decide) ?_
      exact V_zret X hE dX8_termPartsExist_113 (Or.inr rfl) hf
abbrev rmX8_findWays : Room := { frames := 4, cells := 0, slots := 0, locals := 97 }
set_option maxRecDepth 20000 in
theorem v_X8_findWays_30 {G : GG} {E : EE} (X : Cx G E cX8_findWays RX8 (some .int) rmX8_findWays 4) {q : (Int × WS)} (hE : EndI G E q)   : ∀ (n : Nat) (a2 : Int) (w : WS), f_X8_findWays_30   n a2 w = some q → VV G E 0 0 30 [(0, gr G 0), (2, vi a2)] [] w := by
  intro n
  induction n with
  | zero => intro a2 w hf; cases hf
  | succ n ih =>
    intro a2 w hf
    rw [f_X8_findWays_30_s] at hf
    refine V_iload_n X dX8_findWays_30 rfl rfl ?_
    refine V_sipush X dX8_findWays_31 (by decide) ?_
    refine V_icmp_ge X (tgt := 91) dX8_findWays_34 (by decide) hf (fun hf => ?_) (fun hf => ?_)
    · refine V_gload_n X dX8_findWays_37 rfl rfl ?_
      refine V_getr X ob_0 rfl rfl hin_X8 7 (Nat.le_of_ble_eq_true rfl) tw_408 rfl dX8_findWays_38 ?_
      refine V_cVI X hf [] _ 0 (fun _ h => m_X2_seek h) ob_39 rfl tw_1029 tw_90 tw_1222 tw_1027 tw_1028 dX8_findWays_41 ⟨by decide +kernel, by decide +kernel, by decide +kernel⟩ ⟨rfl, rfl⟩ ⟨Nat.le_of_ble_eq_true rfl, Nat.le_of_ble_eq_true rfl⟩ rfl (Nat.le_of_ble_eq_true rfl) ⟨Nat.zero_le _, Nat.zero_le _⟩ (fun r3 w3 hf => ?_)
      refine V_istore_n X dX8_findWays_44 rfl (by decide) ?_
      refine V_iload_n X dX8_findWays_45 rfl rfl ?_
      refine V_iconst X dX8_findWays_46 ?_
      refine V_icmp_ne X (tgt := 52) dX8_findWays_47 (by decide) hf (fun hf => ?_) (fun hf => ?_)
      · refine V_iconst X dX8_findWays_50 ?_
        exact V_iret X hE dX8_findWays_51 hf
      · refine V_iload_n X dX8_findWays_52 rfl rfl ?_
        refine V_iconst X dX8_findWays_53 ?_
        refine V_icmp_eq X (tgt := 59) dX8_findWays_54 (by decide) hf (fun hf => ?_) (fun hf => ?_)
        · refine V_gload_n X dX8_findWays_59 rfl rfl ?_
          refine V_getr X ob_0 rfl rfl hin_X8 11 (Nat.le_of_ble_eq_true rfl) tw_412 rfl dX8_findWays_60 ?_
          refine V_iload_n X dX8_findWays_63 rfl rfl ?_
          refine V_bipush X dX8_findWays_64 (by decide) ?_
          refine V_gload_n X dX8_findWays_66 rfl rfl ?_
          refine V_getr X ob_0 rfl rfl hin_X8 7 (Nat.le_of_ble_eq_true rfl) tw_408 rfl dX8_findWays_67 ?_
          refine V_getiN X ob_39 rfl rfl hin_X2 11 (Nat.le_of_ble_eq_true rfl) nw_8 rfl dX8_findWays_70 ?_
          refine V_imul X dX8_findWays_73 ?_
          refine V_gload_n X dX8_findWays_74 rfl rfl ?_
          refine V_getr X ob_0 rfl rfl hin_X8 7 (Nat.le_of_ble_eq_true rfl) tw_408 rfl dX8_findWays_75 ?_
          refine V_getiN X ob_39 rfl rfl hin_X2 14 (Nat.le_of_ble_eq_true rfl) nw_10 rfl dX8_findWays_78 ?_
          refine V_iadd X dX8_findWays_81 ?_
          refine V_cVV X hf [vi a2, vi ((100 * (w3 39 11)) + (w3 39 14))] _ 2 (fun _ h => m_X1_put is_83 h) ob_83 rfl tw_839 tw_89 tw_1269 tw_837 tw_838 dX8_findWays_82 ⟨by decide +kernel, by decide +kernel, by decide +kernel⟩ ⟨rfl, rfl⟩ ⟨Nat.le_of_ble_eq_true rfl, Nat.le_of_ble_eq_true rfl⟩ rfl (Nat.le_of_ble_eq_true rfl) ⟨Nat.zero_le _, Nat.zero_le _⟩ (fun r4 w4 hf => ?_)
          refine V_iinc X dX8_findWays_85 rfl (by decide) ?_
          refine V_goto X (tgt := 30) dX8_findWays_88 (by decide) ?_
          exact V_cut [0, 2] rfl (ih _ _ hf)
        · refine V_iload_n X dX8_findWays_57 rfl rfl ?_
          exact V_iret X hE dX8_findWays_58 hf
    · refine V_sipush X dX8_findWays_91 (by decide) ?_
      exact V_iret X hE dX8_findWays_94 hf
set_option maxRecDepth 20000 in
theorem m_X8_findWays {G : GG} {a1 : Int} {w : WS} {q : (Int × WS)}  (hf : f_X8_findWays a1 w = some q) : MI G yX8_findWays cX8_findWays 4 (some .int) rmX8_findWays [gr G 0, vi a1] w q := by
  refine MI_of (by decide +kernel) (Nat.le_of_ble_eq_true rfl) (fun E X hE => ?_)
  have X : Cx G E cX8_findWays RX8 (some .int) rmX8_findWays 4 := X
  unfold f_X8_findWays at hf
  refine V_gload_n X dX8_findWays_0 rfl rfl ?_
  refine V_getr X ob_0 rfl rfl hin_X8 4 (Nat.le_of_ble_eq_true rfl) tw_405 rfl dX8_findWays_1 ?_
  refine V_gload_n X dX8_findWays_4 rfl rfl ?_
  refine V_getr X ob_0 rfl rfl hin_X8 3 (Nat.le_of_ble_eq_true rfl) tw_404 rfl dX8_findWays_5 ?_
  refine V_cVV X hf [gr G 7] _ 1 (fun _ h => m_X6_copyAll is_10 is_7 h) ob_10 rfl tw_1219 tw_87 tw_1216 tw_1217 tw_1218 dX8_findWays_8 ⟨by decide +kernel, by decide +kernel, by decide +kernel⟩ ⟨rfl, rfl⟩ ⟨Nat.le_of_ble_eq_true rfl, Nat.le_of_ble_eq_true rfl⟩ rfl (Nat.le_of_ble_eq_true rfl) ⟨Nat.zero_le _, Nat.zero_le _⟩ (fun r1 w1 hf => ?_)
  refine V_gload_n X dX8_findWays_11 rfl rfl ?_
  refine V_getr X ob_0 rfl rfl hin_X8 7 (Nat.le_of_ble_eq_true rfl) tw_408 rfl dX8_findWays_12 ?_
  refine V_gload_n X dX8_findWays_15 rfl rfl ?_
  refine V_getr X ob_0 rfl rfl hin_X8 0 (Nat.le_of_ble_eq_true rfl) tw_401 rfl dX8_findWays_16 ?_
  refine V_iconst X dX8_findWays_19 ?_
  refine V_iload_n X dX8_findWays_20 rfl rfl ?_
  refine V_gload_n X dX8_findWays_21 rfl rfl ?_
  refine V_geti X ob_0 rfl rfl hin_X8 12 (Nat.le_of_ble_eq_true rfl) tw_413 rfl dX8_findWays_22 ?_
  refine V_cVV X hf [gr G 1, vi 0, vi a1, vi (w1 0 12)] _ 4 (fun _ h => m_X2_prepare is_1 h) ob_39 rfl tw_1023 tw_90 tw_1221 tw_1021 tw_1022 dX8_findWays_25 ⟨by decide +kernel, by decide +kernel, by decide +kernel⟩ ⟨rfl, rfl⟩ ⟨Nat.le_of_ble_eq_true rfl, Nat.le_of_ble_eq_true rfl⟩ rfl (Nat.le_of_ble_eq_true rfl) ⟨Nat.zero_le _, Nat.zero_le _⟩ (fun r2 w2 hf => ?_)
  refine V_iconst X dX8_findWays_28 ?_
  refine V_istore_n X dX8_findWays_29 rfl (by decide) ?_
  exact V_cut [0, 2] rfl (v_X8_findWays_30 X hE FU _ _ hf)
