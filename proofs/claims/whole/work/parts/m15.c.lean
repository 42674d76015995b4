abbrev rmX8_failShare : Room := { frames := 9, cells := 1, slots := 6, locals := 420 }
set_option maxRecDepth 20000 in
theorem m_X8_failShare {G : GG}  {w : WS} {q : (Nat × Int × WS)}  (hf : f_X8_failShare  w = some q) : MXF G yX8_failShare cX8_failShare 3 (some .float) rmX8_failShare [gr G 0] w q := by
  refine MXF_of (by decide +kernel) (Nat.le_of_ble_eq_true rfl) (fun E X hE => ?_)
  have X : CX G E cX8_failShare RX8 (some .float) rmX8_failShare 3 := X
  unfold f_X8_failShare at hf
  refine V_gload_n X.1 dX8_failShare_0 rfl rfl ?_
  refine V_xVV X hE hf [] _ 0 (fun _ h => m_X8_needRun h) ob_0 rfl tw_1156 tw_86 tw_1153 tw_1155 tw_34 dX8_failShare_1 ⟨by decide +kernel, by decide +kernel, by decide +kernel⟩ ⟨Nat.le_of_ble_eq_true rfl, Nat.le_of_ble_eq_true rfl⟩ rfl (Nat.le_of_ble_eq_true rfl) ⟨Nat.le_of_ble_eq_true rfl, Nat.le_of_ble_eq_true rfl⟩ ⟨Nat.le_of_ble_eq_true rfl, Nat.le_of_ble_eq_true rfl⟩ (fun r1 w1 hf => ?_)
  refine V_gload_n X.1 dX8_failShare_4 rfl rfl ?_
  refine V_getr X.1 ob_0 rfl rfl hin_X8 10 (Nat.le_of_ble_eq_true rfl) tw_411 rfl dX8_failShare_5 ?_
  refine V_getrN X.1 ob_76 rfl rfl hin_X7 8 (Nat.le_of_ble_eq_true rfl) nw_26 rfl dX8_failShare_8 ?_
  refine V_bipush X.1 dX8_failShare_11 (by decide) ?_
  refine V_cVI X.1 hf [vi 40] _ 1 (fun _ h => m_X1_sum is_81 h) ob_81 rfl tw_496 tw_89 tw_493 tw_494 tw_495 dX8_failShare_13 ⟨by decide +kernel, by decide +kernel, by decide +kernel⟩ ⟨rfl, rfl⟩ ⟨Nat.le_of_ble_eq_true rfl, Nat.le_of_ble_eq_true rfl⟩ rfl (Nat.le_of_ble_eq_true rfl) ⟨Nat.le_of_ble_eq_true rfl, Nat.le_of_ble_eq_true rfl⟩ (fun r2 w2 hf => ?_)
  refine V_istore_n X.1 dX8_failShare_16 rfl (by decide) ?_
  refine V_gload_n X.1 dX8_failShare_17 rfl rfl ?_
  refine V_getr X.1 ob_0 rfl rfl hin_X8 10 (Nat.le_of_ble_eq_true rfl) tw_411 rfl dX8_failShare_18 ?_
  refine V_getiN X.1 ob_76 rfl rfl hin_X7 13 (Nat.le_of_ble_eq_true rfl) nw_30 rfl dX8_failShare_21 ?_
  refine V_istore_n X.1 dX8_failShare_24 rfl (by decide) ?_
  refine V_iload_n X.1 dX8_failShare_25 rfl rfl ?_
  refine V_if_ne X.1 (tgt := 33) dX8_failShare_26 (by decide) hf (fun hf => ?_) (fun hf => ?_)
  · refine V_fconst0 X.1 dX8_failShare_29 ?_
    refine V_goto X.1 (tgt := 38) dX8_failShare_30 (by decide) ?_
    exact V_fretX X hE dX8_failShare_38 ⟨Nat.le_of_ble_eq_true rfl, Nat.le_of_ble_eq_true rfl⟩ hf
  · refine V_iload_n X.1 dX8_failShare_33 rfl rfl ?_
    refine V_i2f X.1 dX8_failShare_34 ?_
    refine V_iload_n X.1 dX8_failShare_35 rfl rfl ?_
    refine V_i2f X.1 dX8_failShare_36 ?_
    obtain ⟨hne, hf⟩ := ite_n hf
    refine V_fdiv X.1 dX8_failShare_37 hne ?_
    exact V_fretX X hE dX8_failShare_38 ⟨Nat.le_of_ble_eq_true rfl, Nat.le_of_ble_eq_true rfl⟩ hf
abbrev rmX8_meanSize : Room := { frames := 8, cells := 1, slots := 6, locals := 400 }
set_option maxRecDepth 20000 in
theorem v_X8_meanSize_6 {G : GG} {E : EE} (X : CX G E cX8_meanSize RX8 (some .double) rmX8_meanSize 5) {q : (Nat × Int × WS)} (hE : EndX G E (QXD G q) q rmX8_meanSize.cells rmX8_meanSize.slots)   : ∀ (n : Nat) (a1 a2 a3 : Int) (w : WS), f_X8_meanSize_6   n a1 a2 a3 w = some q → VV G E 0 0 6 [(0, gr G 0), (1, vi a1), (2, vi a2), (3, vi a3)] [] w := by
  intro n
  induction n with
  | zero => intro a1 a2 a3 w hf; cases hf
  | succ n ih =>
    intro a1 a2 a3 w hf
    rw [f_X8_meanSize_6_s] at hf
    refine V_iload_n X.1 dX8_meanSize_6 rfl rfl ?_
    refine V_bipush X.1 dX8_meanSize_7 (by decide) ?_
    refine V_icmp_ge X.1 (tgt := 46) dX8_meanSize_9 (by decide) hf (fun hf => ?_) (fun hf => ?_)
    · refine V_gload_n X.1 dX8_meanSize_12 rfl rfl ?_
      refine V_getr X.1 ob_0 rfl rfl hin_X8 3 (Nat.le_of_ble_eq_true rfl) tw_404 rfl dX8_meanSize_13 ?_
      refine V_iload_n X.1 dX8_meanSize_16 rfl rfl ?_
      refine V_cVI X.1 hf [vi a3] _ 1 (fun _ h => m_X6_length is_7 h) ob_7 rfl tw_466 tw_87 tw_463 tw_464 tw_465 dX8_meanSize_17 ⟨by decide +kernel, by decide +kernel, by decide +kernel⟩ ⟨rfl, rfl⟩ ⟨Nat.le_of_ble_eq_true rfl, Nat.le_of_ble_eq_true rfl⟩ rfl (Nat.le_of_ble_eq_true rfl) ⟨Nat.le_of_ble_eq_true rfl, Nat.le_of_ble_eq_true rfl⟩ (fun r1 w1 hf => ?_)
      refine V_istore X.1 dX8_meanSize_20 (by decide) ?_
      refine V_iload_n X.1 dX8_meanSize_22 rfl rfl ?_
      refine V_iload X.1 dX8_meanSize_23 rfl ?_
      refine V_iadd X.1 dX8_meanSize_25 ?_
      refine V_istore_n X.1 dX8_meanSize_26 rfl (by decide) ?_
      refine V_iload_n X.1 dX8_meanSize_27 rfl rfl ?_
      refine V_iload X.1 dX8_meanSize_28 rfl ?_
      refine V_if_le X.1 (tgt := 37) dX8_meanSize_30 (by decide) hf (fun hf => ?_) (fun hf => ?_)
      · refine V_iconst X.1 dX8_meanSize_33 ?_
        refine V_goto X.1 (tgt := 38) dX8_meanSize_34 (by decide) ?_
        refine V_iadd X.1 dX8_meanSize_38 ?_
        refine V_istore_n X.1 dX8_meanSize_39 rfl (by decide) ?_
        refine V_iinc X.1 dX8_meanSize_40 rfl (by decide) ?_
        refine V_goto X.1 (tgt := 6) dX8_meanSize_43 (by decide) ?_
        exact V_widen 0 0 ⟨Nat.le_of_ble_eq_true rfl, Nat.le_of_ble_eq_true rfl⟩ (by exact V_cut [0, 1, 2, 3] rfl (ih _ _ _ _ hf))
      · refine V_iconst X.1 dX8_meanSize_37 ?_
        refine V_iadd X.1 dX8_meanSize_38 ?_
        refine V_istore_n X.1 dX8_meanSize_39 rfl (by decide) ?_
        refine V_iinc X.1 dX8_meanSize_40 rfl (by decide) ?_
        refine V_goto X.1 (tgt := 6) dX8_meanSize_43 (by decide) ?_
        exact V_widen 0 0 ⟨Nat.le_of_ble_eq_true rfl, Nat.le_of_ble_eq_true rfl⟩ (by exact V_cut [0, 1, 2, 3] rfl (ih _ _ _ _ hf))
    · refine V_iload_n X.1 dX8_meanSize_46 rfl rfl ?_
      refine V_if_ne X.1 (tgt := 61) dX8_meanSize_47 (by decide) hf (fun hf => ?_) (fun hf => ?_)
      · exact V_throwW X hE 6 rfl (by decide) (by decide +kernel) tw_1223 tw_111 (List.mem_of_getElem? (i := 20) rfl) at_256 dX8_meanSize_50 dX8_meanSize_53 dX8_meanSize_54 dX8_meanSize_57 dX8_meanSize_60 ⟨Nat.le_of_ble_eq_true rfl, Nat.le_of_ble_eq_true rfl, Nat.le_of_ble_eq_true rfl, Nat.le_of_ble_eq_true rfl⟩ ⟨Nat.le_of_ble_eq_true rfl, Nat.le_of_ble_eq_true rfl⟩ hf
      · refine V_iload_n X.1 dX8_meanSize_61 rfl rfl ?_
        refine V_i2d X.1 dX8_meanSize_62 ?_
        refine V_iload_n X.1 dX8_meanSize_63 rfl rfl ?_
        refine V_i2d X.1 dX8_meanSize_64 ?_
        obtain ⟨hne, hf⟩ := ite_n hf
        refine V_ddiv X.1 dX8_meanSize_65 hne ?_
        exact V_dretX X hE dX8_meanSize_66 ⟨Nat.le_of_ble_eq_true rfl, Nat.le_of_ble_eq_true rfl⟩ hf
set_option maxRecDepth 20000 in
theorem m_X8_meanSize {G : GG}  {w : WS} {q : (Nat × Int × WS)}  (hf : f_X8_meanSize  w = some q) : MXD G yX8_meanSize cX8_meanSize 5 (some .double) rmX8_meanSize [gr G 0] w q := by
  refine MXD_of (by decide +kernel) (Nat.le_of_ble_eq_true rfl) (fun E X hE => ?_)
  have X : CX G E cX8_meanSize RX8 (some .double) rmX8_meanSize 5 := X
  unfold f_X8_meanSize at hf
  refine V_iconst X.1 dX8_meanSize_0 ?_
  refine V_istore_n X.1 dX8_meanSize_1 rfl (by decide) ?_
  refine V_iconst X.1 dX8_meanSize_2 ?_
  refine V_istore_n X.1 dX8_meanSize_3 rfl (by decide) ?_
  refine V_iconst X.1 dX8_meanSize_4 ?_
  refine V_istore_n X.1 dX8_meanSize_5 rfl (by decide) ?_
  exact V_widen 0 0 ⟨Nat.le_of_ble_eq_true rfl, Nat.le_of_ble_eq_true rfl⟩ (by exact V_cut [0, 1, 2, 3] rfl (v_X8_meanSize_6 X hE FU _ _ _ _ hf))
abbrev rmX9_failShare : Room := { frames := 2, cells := 0, slots := 0, locals := 42 }
set_option maxRecDepth 20000 in
theorem v_X9_failShare_18 {G : GG} {E : EE} (X : Cx G E cX9_failShare RX9 (some .float) rmX9_failShare 3) {q : (Int × WS)} (hE : EndF G E q)   : ∀ (n : Nat) (a1 a2 : Int) (w : WS), f_X9_failShare_18   n a1 a2 w = some q → VV G E 0 0 18 [(0, gr G 85), (1, vi a1), (2, vi a2)] [] w := by
  intro n
  induction n with
  | zero => intro a1 a2 w hf; cases hf
  | succ n ih =>
    intro a1 a2 w hf
    rw [f_X9_failShare_18_s] at hf
    refine V_iload_n X dX9_failShare_18 rfl rfl ?_
    refine V_bipush X dX9_failShare_19 (by decide) ?_
    refine V_icmp_ge X (tgt := 39) dX9_failShare_21 (by decide) hf (fun hf => ?_) (fun hf => ?_)
    · refine V_iload_n X dX9_failShare_24 rfl rfl ?_
      refine V_gload_n X dX9_failShare_25 rfl rfl ?_
      refine V_getr X ob_85 rfl rfl hin_X9 58 (Nat.le_of_ble_eq_true rfl) tw_1374 rfl dX9_failShare_26 ?_
      refine V_iload_n X dX9_failShare_29 rfl rfl ?_
      refine V_iald X ar_126 dX9_failShare_30 hf (fun hf => ?_)
      refine V_iadd X dX9_failShare_31 ?_
      refine V_istore_n X dX9_failShare_32 rfl (by decide) ?_
      refine V_iinc X dX9_failShare_33 rfl (by decide) ?_
      refine V_goto X (tgt := 18) dX9_failShare_36 (by decide) ?_
      exact V_cut [0, 1, 2] rfl (ih _ _ _ hf)
    · refine V_iload_n X dX9_failShare_39 rfl rfl ?_
      refine V_i2f X dX9_failShare_40 ?_
      refine V_gload_n X dX9_failShare_41 rfl rfl ?_
      refine V_geti X ob_85 rfl rfl hin_X9 60 (Nat.le_of_ble_eq_true rfl) tw_1376 rfl dX9_failShare_42 ?_
      refine V_i2f X dX9_failShare_45 ?_
      obtain ⟨hne, hf⟩ := ite_n hf
      refine V_fdiv X dX9_failShare_46 hne ?_
      exact V_fret X hE dX9_failShare_47 hf
set_option maxRecDepth 20000 in
theorem m_X9_failShare {G : GG}  {w : WS} {q : (Int × WS)}  (hf : f_X9_failShare  w = some q) : MF G yX9_failShare cX9_failShare 3 (some .float) rmX9_failShare [gr G 85] w q := by
  refine MF_of (by decide +kernel) (Nat.le_of_ble_eq_true rfl) (fun E X hE => ?_)
  have X : Cx G E cX9_failShare RX9 (some .float) rmX9_failShare 3 := X
  unfold f_X9_failShare at hf
  refine V_gload_n X dX9_failShare_0 rfl rfl ?_
  refine V_iconst X dX9_failShare_1 ?_
  refine V_puti X ob_85 rfl rfl hin_X9 0 (Nat.le_of_ble_eq_true rfl) tw_1316 tyX9 tyX9_ok nmX9 rfl (by decide +kernel) rfl dX9_failShare_2 ?_
  refine V_gload_n X dX9_failShare_5 rfl rfl ?_
  refine V_cVI X hf [] _ 0 (fun _ h => m_X9_noRun h) ob_85 rfl tw_1829 tw_95 tw_1826 tw_1828 tw_80 dX9_failShare_6 ⟨by decide +kernel, by decide +kernel, by decide +kernel⟩ ⟨rfl, rfl⟩ ⟨Nat.le_of_ble_eq_true rfl, Nat.le_of_ble_eq_true rfl⟩ rfl (Nat.le_of_ble_eq_true rfl) ⟨Nat.zero_le _, Nat.zero_le _⟩ (fun r1 w1 hf => ?_)
  refine V_if_eq X (tgt := 14) dX9_failShare_9 (by decide) hf (fun hf => ?_) (fun hf => ?_)
  · refine V_iconst X dX9_failShare_14 ?_
    refine V_istore_n X dX9_failShare_15 rfl (by decide) ?_
    refine V_iconst X dX9_failShare_16 ?_
    refine V_istore_n X dX9_failShare_17 rfl (by decide) ?_
    exact V_cut [0, 1, 2] rfl (v_X9_failShare_18 X hE FU _ _ _ hf)
  · refine V_fconst0 X dX9_failShare_12 ?_
    exact V_fret X hE dX9_failShare_13 hf
abbrev rmX9_meanSize : Room := { frames := 1, cells := 0, slots := 0, locals := 22 }
set_option maxRecDepth 20000 in
theorem v_X9_meanSize_59 {G : GG} {E : EE} (X : Cx G E cX9_meanSize RX9 (some .double) rmX9_meanSize 4) {q : (Int × WS)} (hE : EndD G E q)   {a1 a2 s0 : Int} {w : WS} (hf : f_X9_meanSize_59   a1 a2 s0 w = some q) : VV G E 0 0 59 [(1, vi a1), (2, vi a2)] [vi s0, gr G 85] w := by
  unfold f_X9_meanSize_59 at hf
  refine V_iconst X dX9_meanSize_59 ?_
  refine V_cVI X hf [vi s0, vi 1] _ 2 (fun _ h => m_X9_fails h) ob_85 rfl tw_1580 tw_95 tw_1577 tw_1579 tw_38 dX9_meanSize_60 ⟨by decide +kernel, by decide +kernel, by decide +kernel⟩ ⟨rfl, rfl⟩ ⟨Nat.le_of_ble_eq_true rfl, Nat.le_of_ble_eq_true rfl⟩ rfl (Nat.le_of_ble_eq_true rfl) ⟨Nat.zero_le _, Nat.zero_le _⟩ (fun r1 w1 hf => ?_)
  refine V_if_eq X (tgt := 70) dX9_meanSize_63 (by decide) hf (fun hf => ?_) (fun hf => ?_)
  · refine V_iload_n X dX9_meanSize_70 rfl rfl ?_
    refine V_i2d X dX9_meanSize_71 ?_
    refine V_iload_n X dX9_meanSize_72 rfl rfl ?_
    refine V_i2d X dX9_meanSize_73 ?_
    obtain ⟨hne, hf⟩ := ite_n hf
    refine V_ddiv X dX9_meanSize_74 hne ?_
    exact V_dret X hE dX9_meanSize_75 hf
  · refine V_dconst0 X dX9_meanSize_66 ?_
    refine V_goto X (tgt := 75) dX9_meanSize_67 (by decide) ?_
    exact V_dret X hE dX9_meanSize_75 hf
set_option maxRecDepth 20000 in
theorem v_X9_meanSize_11 {G : GG} {E : EE} (X : Cx G E cX9_meanSize RX9 (some .double) rmX9_meanSize 4) {q : (Int × WS)} (hE : EndD G E q)   : ∀ (n : Nat) (a1 a2 a3 : Int) (w : WS), f_X9_meanSize_11   n a1 a2 a3 w = some q → VV G E 0 0 11 [(0, gr G 85), (1, vi a1), (2, vi a2), (3, vi a3)] [] w := by
  intro n
  induction n with
  | zero => intro a1 a2 a3 w hf; cases hf
  | succ n ih =>
    intro a1 a2 a3 w hf
    rw [f_X9_meanSize_11_s] at hf
    refine V_iload_n X dX9_meanSize_11 rfl rfl ?_
    refine V_bipush X dX9_meanSize_12 (by decide) ?_
    refine V_icmp_ge X (tgt := 49) dX9_meanSize_14 (by decide) hf (fun hf => ?_) (fun hf => ?_)
    · refine V_iload_n X dX9_meanSize_17 rfl rfl ?_
      refine V_gload_n X dX9_meanSize_18 rfl rfl ?_
      refine V_getr X ob_85 rfl rfl hin_X9 7 (Nat.le_of_ble_eq_true rfl) tw_1323 rfl dX9_meanSize_19 ?_
      refine V_iload_n X dX9_meanSize_22 rfl rfl ?_
      refine V_iald X ar_90 dX9_meanSize_23 hf (fun hf => ?_)
      refine V_iadd X dX9_meanSize_24 ?_
      refine V_istore_n X dX9_meanSize_25 rfl (by decide) ?_
      refine V_iload_n X dX9_meanSize_26 rfl rfl ?_
      refine V_gload_n X dX9_meanSize_27 rfl rfl ?_
      refine V_getr X ob_85 rfl rfl hin_X9 7 (Nat.le_of_ble_eq_true rfl) tw_1323 rfl dX9_meanSize_28 ?_
      refine V_iload_n X dX9_meanSize_31 rfl rfl ?_
      refine V_iald X ar_90 dX9_meanSize_32 hf (fun hf => ?_)
      refine V_if_le X (tgt := 40) dX9_meanSize_33 (by decide) hf (fun hf => ?_) (fun hf => ?_)
      · refine V_iconst X dX9_meanSize_36 ?_
        refine V_goto X (tgt := 41) dX9_meanSize_37 (by decide) ?_
        refine V_iadd X dX9_meanSize_41 ?_
        refine V_istore_n X dX9_meanSize_42 rfl (by decide) ?_
        refine V_iinc X dX9_meanSize_43 rfl (by decide) ?_
        refine V_goto X (tgt := 11) dX9_meanSize_46 (by decide) ?_
        exact V_cut [0, 1, 2, 3] rfl (ih _ _ _ _ hf)
      · refine V_iconst X dX9_meanSize_40 ?_
        refine V_iadd X dX9_meanSize_41 ?_
        refine V_istore_n X dX9_meanSize_42 rfl (by decide) ?_
        refine V_iinc X dX9_meanSize_43 rfl (by decide) ?_
        refine V_goto X (tgt := 11) dX9_meanSize_46 (by decide) ?_
        exact V_cut [0, 1, 2, 3] rfl (ih _ _ _ _ hf)
    · refine V_gload_n X dX9_meanSize_49 rfl rfl ?_
      refine V_iload_n X dX9_meanSize_50 rfl rfl ?_
      refine V_if_ne X (tgt := 58) dX9_meanSize_51 (by decide) hf (fun hf => ?_) (fun hf => ?_)
      · refine V_iconst X dX9_meanSize_54 ?_
        refine V_goto X (tgt := 59) dX9_meanSize_55 (by decide) ?_
        exact V_cut [1, 2] rfl (v_X9_meanSize_59 X hE hf)
      · refine V_iconst X dX9_meanSize_58 ?_
        exact V_cut [1, 2] rfl (v_X9_meanSize_59 X hE hf)
set_option maxRecDepth 20000 in
theorem m_X9_meanSize {G : GG}  {w : WS} {q : (Int × WS)}  (hf : f_X9_meanSize  w = some q) : MD G yX9_meanSize cX9_meanSize 4 (some .double) rmX9_meanSize [gr G 85] w q := by
  refine MD_of (by decide +kernel) (Nat.le_of_ble_eq_true rfl) (fun E X hE => ?_)
  have X : Cx G E cX9_meanSize RX9 (some .double) rmX9_meanSize 4 := X
  unfold f_X9_meanSize at hf
  refine V_gload_n X dX9_meanSize_0 rfl rfl ?_
  refine V_iconst X dX9_meanSize_1 ?_
  refine V_puti X ob_85 rfl rfl hin_X9 0 (Nat.le_of_ble_eq_true rfl) tw_1316 tyX9 tyX9_ok nmX9 rfl (by decide +kernel) rfl dX9_meanSize_2 ?_
  refine V_iconst X dX9_meanSize_5 ?_
  refine V_istore_n X dX9_meanSize_6 rfl (by decide) ?_
  refine V_iconst X dX9_meanSize_7 ?_
  refine V_istore_n X dX9_meanSize_8 rfl (by decide) ?_
  refine V_iconst X dX9_meanSize_9 ?_
  refine V_istore_n X dX9_meanSize_10 rfl (by decide) ?_
  exact V_cut [0, 1, 2, 3] rfl (v_X9_meanSize_11 X hE FU _ _ _ _ hf)
abbrev rmL_failShare : Room := { frames := 10, cells := 1, slots := 6, locals := 442 }
set_option maxRecDepth 20000 in
theorem m_L_failShare {G : GG}  {w : WS} {q : (Int × WS)} (hf : f_L_failShare  w = some q) : MW G yL_failShare cL_failShare 3 (some .int) [(0, 8, 11, 15)] rmL_failShare [gr G 0, gr G 136] w q := by
  refine MW_of (by decide +kernel) (Nat.le_of_ble_eq_true rfl) (fun E X hE => ?_)
  have X : CW G E cL_failShare RL (some .int) rmL_failShare 3 [(0, 8, 11, 15)] := X
  unfold f_L_failShare at hf
  refine V_gload_n X.1 dL_failShare_0 rfl rfl ?_
  refine V_iconst X.1 dL_failShare_1 ?_
  refine V_gload_n X.1 dL_failShare_2 rfl rfl ?_
  refine V_wVF X hf [] _ 0 (fun _ h => m_X8_failShare h) ob_0 rfl tw_1301 tw_86 tw_1298 tw_1299 tw_1300 dL_failShare_3 ⟨by decide +kernel, by decide +kernel, by decide +kernel⟩ ⟨Nat.le_of_ble_eq_true rfl, Nat.le_of_ble_eq_true rfl⟩ rfl (Nat.le_of_ble_eq_true rfl) ⟨Nat.le_of_ble_eq_true rfl, Nat.le_of_ble_eq_true rfl⟩ (fun t w2 ht hf => ?_) (fun r1 w1 hf => ?_)
  · refine ite_c hf (fun h hf => ?_) (fun _ hf => ?_)
    · subst h
      refine ⟨[], [], (0, 8, 11, 15), rfl, (fun z hz => by cases hz), by decide, by decide, by decide, tw_505, nw_38, fun a9 => ?_⟩
      refine V_astore_n X.1 dL_failShare_11 rfl (by decide) ?_
      refine V_iconst X.1 dL_failShare_12 ?_
      exact V_iretW X hE dL_failShare_13 ⟨Nat.le_of_ble_eq_true rfl, Nat.le_of_ble_eq_true rfl⟩ hf
    cases hf
  · obtain ⟨hne, hf⟩ := ite_n hf
    refine V_f2d X.1 dL_failShare_6 hne ?_
    refine V_dast X.1 ar_136 dL_failShare_7 hf (fun hf => ?_)
    refine V_goto X.1 (tgt := 14) dL_failShare_8 (by decide) ?_
    refine V_iconst X.1 dL_failShare_14 ?_
    exact V_iretW X hE dL_failShare_15 ⟨Nat.le_of_ble_eq_true rfl, Nat.le_of_ble_eq_true rfl⟩ hf
abbrev rmL_meanSize : Room := { frames := 9, cells := 1, slots := 6, locals := 424 }
set_option maxRecDepth 20000 in
theorem m_L_meanSize {G : GG}  {w : WS} {q : (Int × WS)} (hf : f_L_meanSize  w = some q) : MW G yL_meanSize cL_meanSize 3 (some .int) [(0, 7, 10, 85)] rmL_meanSize [gr G 0, gr G 136] w q := by
  refine MW_of (by decide +kernel) (Nat.le_of_ble_eq_true rfl) (fun E X hE => ?_)
  have X : CW G E cL_meanSize RL (some .int) rmL_meanSize 3 [(0, 7, 10, 85)] := X
  unfold f_L_meanSize at hf
  refine V_gload_n X.1 dL_meanSize_0 rfl rfl ?_
  refine V_iconst X.1 dL_meanSize_1 ?_
  refine V_gload_n X.1 dL_meanSize_2 rfl rfl ?_
  refine V_wVD X hf [] _ 0 (fun _ h => m_X8_meanSize h) ob_0 rfl tw_1308 tw_86 tw_1305 tw_1306 tw_1307 dL_meanSize_3 ⟨by decide +kernel, by decide +kernel, by decide +kernel⟩ ⟨Nat.le_of_ble_eq_true rfl, Nat.le_of_ble_eq_true rfl⟩ rfl (Nat.le_of_ble_eq_true rfl) ⟨Nat.le_of_ble_eq_true rfl, Nat.le_of_ble_eq_true rfl⟩ (fun t w2 ht hf => ?_) (fun r1 w1 hf => ?_)
  · refine ite_c hf (fun h hf => ?_) (fun _ hf => ?_)
    · subst h
      refine ⟨[], [], (0, 7, 10, 85), rfl, (fun z hz => by cases hz), by decide, by decide, by decide, tw_1198, nw_44, fun a9 => ?_⟩
      refine V_astore_n X.1 dL_meanSize_10 rfl (by decide) ?_
      refine V_iconst X.1 dL_meanSize_11 ?_
      exact V_iretW X hE dL_meanSize_12 ⟨Nat.le_of_ble_eq_true rfl, Nat.le_of_ble_eq_true rfl⟩ hf
    cases hf
  · refine V_dast X.1 ar_136 dL_meanSize_6 hf (fun hf => ?_)
    refine V_goto X.1 (tgt := 13) dL_meanSize_7 (by decide) ?_
    refine V_iconst X.1 dL_meanSize_13 ?_
    exact V_iretW X hE dL_meanSize_14 ⟨Nat.le_of_ble_eq_true rfl, Nat.le_of_ble_eq_true rfl⟩ hf
