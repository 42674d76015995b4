abbrev rmX1_get : Room := { frames := 0, cells := 0, slots := 0, locals := 0 }
set_option maxRecDepth 20000 in
theorem m_X1_get {G : GG} {i : Nat} {a1 : Int} {w : WS} {q : (Int × WS)} (hi : isX1 i) (hf : f_X1_get i a1 w = some q) : MI G yX1_get cX1_get 2 (some .int) rmX1_get [gr G i, vi a1] w q := by
  refine MI_of (by decide +kernel) (Nat.le_of_ble_eq_true rfl) (fun E X hE => ?_)
  have X : Cx G E cX1_get RX1 (some .int) rmX1_get 2 := X
  unfold f_X1_get at hf
  refine V_iload_n X dX1_get_0 rfl rfl ?_
  refine V_if_lt X (tgt := 22) dX1_get_1 (by decide) hf (fun hf => ?_) (fun hf => ?_)
  · refine V_iconst X dX1_get_22 ?_
    exact V_iret X hE dX1_get_23 hf
  · refine V_iload_n X dX1_get_4 rfl rfl ?_
    refine V_gload_n X dX1_get_5 rfl rfl ?_
    refine V_getr X (ob_X1 hi) rfl rfl hin_X1 0 (Nat.le_of_ble_eq_true rfl) tw_149 (rr_X1_0 hi) dX1_get_6 ?_
    refine V_alen X (ar_X1_1 hi) (by decide) dX1_get_9 ?_
    refine V_icmp_ge X (tgt := 22) dX1_get_10 (by decide) hf (fun hf => ?_) (fun hf => ?_)
    · refine V_gload_n X dX1_get_13 rfl rfl ?_
      refine V_getr X (ob_X1 hi) rfl rfl hin_X1 0 (Nat.le_of_ble_eq_true rfl) tw_149 (rr_X1_0 hi) dX1_get_14 ?_
      refine V_iload_n X dX1_get_17 rfl rfl ?_
      refine V_iald X (ar_X1_1 hi) dX1_get_18 hf (fun hf => ?_)
      refine V_goto X (tgt := 23) dX1_get_19 (by decide) ?_
      exact V_iret X hE dX1_get_23 hf
    · refine V_iconst X dX1_get_22 ?_
      exact V_iret X hE dX1_get_23 hf
abbrev rmX1_sum : Room := { frames := 1, cells := 0, slots := 0, locals := 21 }
set_option maxRecDepth 20000 in
theorem v_X1_sum_4 {G : GG} {E : EE} (X : Cx G E cX1_sum RX1 (some .int) rmX1_sum 4) {q : (Int × WS)} (hE : EndI G E q) {i : Nat} (hi : isX1 i) : ∀ (n : Nat) (a1 a2 a3 : Int) (w : WS), f_X1_sum_4 i  n a1 a2 a3 w = some q → VV G E 0 0 4 [(0, gr G i), (1, vi a1), (2, vi a2), (3, vi a3)] [] w := by
  intro n
  induction n with
  | zero => intro a1 a2 a3 w hf; cases hf
  | succ n ih =>
    intro a1 a2 a3 w hf
    rw [f_X1_sum_4_s] at hf
    refine V_iload_n X dX1_sum_4 rfl rfl ?_
    refine V_iload_n X dX1_sum_5 rfl rfl ?_
    refine V_icmp_ge X (tgt := 23) dX1_sum_6 (by decide) hf (fun hf => ?_) (fun hf => ?_)
    · refine V_iload_n X dX1_sum_9 rfl rfl ?_
      refine V_gload_n X dX1_sum_10 rfl rfl ?_
      refine V_iload_n X dX1_sum_11 rfl rfl ?_
      refine V_cVI X hf [vi a3] _ 1 (fun _ h => m_X1_get hi h) (ob_X1 hi) rfl tw_500 tw_89 tw_497 tw_498 tw_499 dX1_sum_12 ⟨by decide +kernel, by decide +kernel, by decide +kernel⟩ ⟨rfl, rfl⟩ ⟨Nat.le_of_ble_eq_true rfl, Nat.le_of_ble_eq_true rfl⟩ rfl (Nat.le_of_ble_eq_true rfl) ⟨Nat.zero_le _, Nat.zero_le _⟩ (fun r1 w1 hf => ?_)
      refine V_iadd X dX1_sum_15 ?_
      refine V_istore_n X dX1_sum_16 rfl (by decide) ?_
      refine V_iinc X dX1_sum_17 rfl (by decide) ?_
      refine V_goto X (tgt := 4) dX1_sum_20 (by decide) ?_
      exact V_cut [0, 1, 2, 3] rfl (ih _ _ _ _ hf)
    · refine V_iload_n X dX1_sum_23 rfl rfl ?_
      exact V_iret X hE dX1_sum_24 hf
set_option maxRecDepth 20000 in
theorem m_X1_sum {G : GG} {i : Nat} {a1 : Int} {w : WS} {q : (Int × WS)} (hi : isX1 i) (hf : f_X1_sum i a1 w = some q) : MI G yX1_sum cX1_sum 4 (some .int) rmX1_sum [gr G i, vi a1] w q := by
  refine MI_of (by decide +kernel) (Nat.le_of_ble_eq_true rfl) (fun E X hE => ?_)
  have X : Cx G E cX1_sum RX1 (some .int) rmX1_sum 4 := X
  unfold f_X1_sum at hf
  refine V_iconst X dX1_sum_0 ?_
  refine V_istore_n X dX1_sum_1 rfl (by decide) ?_
  refine V_iconst X dX1_sum_2 ?_
  refine V_istore_n X dX1_sum_3 rfl (by decide) ?_
  exact V_cut [0, 1, 2, 3] rfl (v_X1_sum_4 X hE hi FU _ _ _ _ hf)
abbrev rmX1_put : Room := { frames := 0, cells := 0, slots := 0, locals := 0 }
set_option maxRecDepth 20000 in
theorem m_X1_put {G : GG} {i : Nat} {a1 : Int} {a2 : Int} {w : WS} {q : (Int × WS)} (hi : isX1 i) (hf : f_X1_put i a1 a2 w = some q) : MV G yX1_put cX1_put 3 none rmX1_put [gr G i, vi a1, vi a2] w q := by
  refine MV_of (by decide +kernel) (Nat.le_of_ble_eq_true rfl) (fun E X hE => ?_)
  have X : Cx G E cX1_put RX1 none rmX1_put 3 := X
  unfold f_X1_put at hf
  refine V_iload_n X dX1_put_0 rfl rfl ?_
  refine V_if_lt X (tgt := 20) dX1_put_1 (by decide) hf (fun hf => ?_) (fun hf => ?_)
  · exact V_vret X hE dX1_put_20 hf
  · refine V_iload_n X dX1_put_4 rfl rfl ?_
    refine V_gload_n X dX1_put_5 rfl rfl ?_
    refine V_getr X (ob_X1 hi) rfl rfl hin_X1 0 (Nat.le_of_ble_eq_true rfl) tw_149 (rr_X1_0 hi) dX1_put_6 ?_
    refine V_alen X (ar_X1_1 hi) (by decide) dX1_put_9 ?_
    refine V_icmp_ge X (tgt := 20) dX1_put_10 (by decide) hf (fun hf => ?_) (fun hf => ?_)
    · refine V_gload_n X dX1_put_13 rfl rfl ?_
      refine V_getr X (ob_X1 hi) rfl rfl hin_X1 0 (Nat.le_of_ble_eq_true rfl) tw_149 (rr_X1_0 hi) dX1_put_14 ?_
      refine V_iload_n X dX1_put_17 rfl rfl ?_
      refine V_iload_n X dX1_put_18 rfl rfl ?_
      refine V_iast X (ar_X1_1 hi) dX1_put_19 hf (fun hf => ?_)
      exact V_vret X hE dX1_put_20 hf
    · exact V_vret X hE dX1_put_20 hf
abbrev rmX1_increase : Room := { frames := 1, cells := 0, slots := 0, locals := 22 }
set_option maxRecDepth 20000 in
theorem m_X1_increase {G : GG} {i : Nat} {a1 : Int} {w : WS} {q : (Int × WS)} (hi : isX1 i) (hf : f_X1_increase i a1 w = some q) : MV G yX1_increase cX1_increase 2 none rmX1_increase [gr G i, vi a1] w q := by
  refine MV_of (by decide +kernel) (Nat.le_of_ble_eq_true rfl) (fun E X hE => ?_)
  have X : Cx G E cX1_increase RX1 none rmX1_increase 2 := X
  unfold f_X1_increase at hf
  refine V_gload_n X dX1_increase_0 rfl rfl ?_
  refine V_iload_n X dX1_increase_1 rfl rfl ?_
  refine V_gload_n X dX1_increase_2 rfl rfl ?_
  refine V_iload_n X dX1_increase_3 rfl rfl ?_
  refine V_cVI X hf [vi a1] _ 1 (fun _ h => m_X1_get hi h) (ob_X1 hi) rfl tw_500 tw_89 tw_497 tw_498 tw_499 dX1_increase_4 ⟨by decide +kernel, by decide +kernel, by decide +kernel⟩ ⟨rfl, rfl⟩ ⟨Nat.le_of_ble_eq_true rfl, Nat.le_of_ble_eq_true rfl⟩ rfl (Nat.le_of_ble_eq_true rfl) ⟨Nat.zero_le _, Nat.zero_le _⟩ (fun r1 w1 hf => ?_)
  refine V_iconst X dX1_increase_7 ?_
  refine V_iadd X dX1_increase_8 ?_
  refine V_cVV X hf [vi a1, vi (r1 + 1)] _ 2 (fun _ h => m_X1_put hi h) (ob_X1 hi) rfl tw_839 tw_89 tw_943 tw_837 tw_838 dX1_increase_9 ⟨by decide +kernel, by decide +kernel, by decide +kernel⟩ ⟨rfl, rfl⟩ ⟨Nat.le_of_ble_eq_true rfl, Nat.le_of_ble_eq_true rfl⟩ rfl (Nat.le_of_ble_eq_true rfl) ⟨Nat.zero_le _, Nat.zero_le _⟩ (fun r2 w2 hf => ?_)
  exact V_vret X hE dX1_increase_12 hf
abbrev rmX1_clearAll : Room := { frames := 0, cells := 0, slots := 0, locals := 0 }
set_option maxRecDepth 20000 in
theorem v_X1_clearAll_2 {G : GG} {E : EE} (X : Cx G E cX1_clearAll RX1 none rmX1_clearAll 2) {q : (Int × WS)} (hE : EndV G E q) {i : Nat} (hi : isX1 i) : ∀ (n : Nat) (a1 : Int) (w : WS), f_X1_clearAll_2 i  n a1 w = some q → VV G E 0 0 2 [(0, gr G i), (1, vi a1)] [] w := by
  intro n
  induction n with
  | zero => intro a1 w hf; cases hf
  | succ n ih =>
    intro a1 w hf
    rw [f_X1_clearAll_2_s] at hf
    refine V_iload_n X dX1_clearAll_2 rfl rfl ?_
    refine V_gload_n X dX1_clearAll_3 rfl rfl ?_
    refine V_getr X (ob_X1 hi) rfl rfl hin_X1 0 (Nat.le_of_ble_eq_true rfl) tw_149 (rr_X1_0 hi) dX1_clearAll_4 ?_
    refine V_alen X (ar_X1_1 hi) (by decide) dX1_clearAll_7 ?_
    refine V_icmp_ge X (tgt := 24) dX1_clearAll_8 (by decide) hf (fun hf => ?_) (fun hf => ?_)
    · refine V_gload_n X dX1_clearAll_11 rfl rfl ?_
      refine V_getr X (ob_X1 hi) rfl rfl hin_X1 0 (Nat.le_of_ble_eq_true rfl) tw_149 (rr_X1_0 hi) dX1_clearAll_12 ?_
      refine V_iload_n X dX1_clearAll_15 rfl rfl ?_
      refine V_iconst X dX1_clearAll_16 ?_
      refine V_iast X (ar_X1_1 hi) dX1_clearAll_17 hf (fun hf => ?_)
      refine V_iinc X dX1_clearAll_18 rfl (by decide) ?_
      refine V_goto X (tgt := 2) dX1_clearAll_21 (by decide) ?_
      exact V_cut [0, 1] rfl (ih _ _ hf)
    · exact V_vret X hE dX1_clearAll_24 hf
set_option maxRecDepth 20000 in
theorem m_X1_clearAll {G : GG} {i : Nat} {w : WS} {q : (Int × WS)} (hi : isX1 i) (hf : f_X1_clearAll i w = some q) : MV G yX1_clearAll cX1_clearAll 2 none rmX1_clearAll [gr G i] w q := by
  refine MV_of (by decide +kernel) (Nat.le_of_ble_eq_true rfl) (fun E X hE => ?_)
  have X : Cx G E cX1_clearAll RX1 none rmX1_clearAll 2 := X
  unfold f_X1_clearAll at hf
  refine V_iconst X dX1_clearAll_0 ?_
  refine V_istore_n X dX1_clearAll_1 rfl (by decide) ?_
  exact V_cut [0, 1] rfl (v_X1_clearAll_2 X hE hi FU _ _ hf)
abbrev rmX3_push : Room := { frames := 0, cells := 0, slots := 0, locals := 0 }
set_option maxRecDepth 20000 in
theorem m_X3_push {G : GG} {i : Nat} {a1 : Int} {a2 : Int} {a3 : Int} {w : WS} {q : (Int × WS)} (hi : isX3 i) (hf : f_X3_push i a1 a2 a3 w = some q) : MV G yX3_push cX3_push 4 none rmX3_push [gr G i, vi a1, vi a2, vi a3] w q := by
  refine MV_of (by decide +kernel) (Nat.le_of_ble_eq_true rfl) (fun E X hE => ?_)
  have X : Cx G E cX3_push RX3 none rmX3_push 4 := X
  unfold f_X3_push at hf
  refine V_gload_n X dX3_push_0 rfl rfl ?_
  refine V_geti X (ob_X3 hi) rfl rfl hin_X3 3 (Nat.le_of_ble_eq_true rfl) tw_193 (ri_X3_3 hi) dX3_push_1 ?_
  refine V_if_lt X (tgt := 83) dX3_push_4 (by decide) hf (fun hf => ?_) (fun hf => ?_)
  · exact V_vret X hE dX3_push_83 hf
  · refine V_gload_n X dX3_push_7 rfl rfl ?_
    refine V_geti X (ob_X3 hi) rfl rfl hin_X3 3 (Nat.le_of_ble_eq_true rfl) tw_193 (ri_X3_3 hi) dX3_push_8 ?_
    refine V_gload_n X dX3_push_11 rfl rfl ?_
    refine V_getr X (ob_X3 hi) rfl rfl hin_X3 0 (Nat.le_of_ble_eq_true rfl) tw_190 (rr_X3_0 hi) dX3_push_12 ?_
    refine V_alen X (ar_X3_1 hi) (by decide) dX3_push_15 ?_
    refine V_icmp_ge X (tgt := 83) dX3_push_16 (by decide) hf (fun hf => ?_) (fun hf => ?_)
    · refine V_gload_n X dX3_push_19 rfl rfl ?_
      refine V_geti X (ob_X3 hi) rfl rfl hin_X3 3 (Nat.le_of_ble_eq_true rfl) tw_193 (ri_X3_3 hi) dX3_push_20 ?_
      refine V_gload_n X dX3_push_23 rfl rfl ?_
      refine V_getr X (ob_X3 hi) rfl rfl hin_X3 1 (Nat.le_of_ble_eq_true rfl) tw_191 (rr_X3_1 hi) dX3_push_24 ?_
      refine V_alen X (ar_X3_2 hi) (by decide) dX3_push_27 ?_
      refine V_icmp_ge X (tgt := 83) dX3_push_28 (by decide) hf (fun hf => ?_) (fun hf => ?_)
      · refine V_gload_n X dX3_push_31 rfl rfl ?_
        refine V_geti X (ob_X3 hi) rfl rfl hin_X3 3 (Nat.le_of_ble_eq_true rfl) tw_193 (ri_X3_3 hi) dX3_push_32 ?_
        refine V_gload_n X dX3_push_35 rfl rfl ?_
        refine V_getr X (ob_X3 hi) rfl rfl hin_X3 2 (Nat.le_of_ble_eq_true rfl) tw_192 (rr_X3_2 hi) dX3_push_36 ?_
        refine V_alen X (ar_X3_3 hi) (by decide) dX3_push_39 ?_
        refine V_icmp_ge X (tgt := 83) dX3_push_40 (by decide) hf (fun hf => ?_) (fun hf => ?_)
        · refine V_gload_n X dX3_push_43 rfl rfl ?_
          refine V_getr X (ob_X3 hi) rfl rfl hin_X3 0 (Nat.le_of_ble_eq_true rfl) tw_190 (rr_X3_0 hi) dX3_push_44 ?_
          refine V_gload_n X dX3_push_47 rfl rfl ?_
          refine V_geti X (ob_X3 hi) rfl rfl hin_X3 3 (Nat.le_of_ble_eq_true rfl) tw_193 (ri_X3_3 hi) dX3_push_48 ?_
          refine V_iload_n X dX3_push_51 rfl rfl ?_
          refine V_iast X (ar_X3_1 hi) dX3_push_52 hf (fun hf => ?_)
          refine V_gload_n X dX3_push_53 rfl rfl ?_
          refine V_getr X (ob_X3 hi) rfl rfl hin_X3 1 (Nat.le_of_ble_eq_true rfl) tw_191 (rr_X3_1 hi) dX3_push_54 ?_
          refine V_gload_n X dX3_push_57 rfl rfl ?_
          refine V_geti X (ob_X3 hi) rfl rfl hin_X3 3 (Nat.le_of_ble_eq_true rfl) tw_193 (ri_X3_3 hi) dX3_push_58 ?_
          refine V_iload_n X dX3_push_61 rfl rfl ?_
          refine V_iast X (ar_X3_2 hi) dX3_push_62 hf (fun hf => ?_)
          refine V_gload_n X dX3_push_63 rfl rfl ?_
          refine V_getr X (ob_X3 hi) rfl rfl hin_X3 2 (Nat.le_of_ble_eq_true rfl) tw_192 (rr_X3_2 hi) dX3_push_64 ?_
          refine V_gload_n X dX3_push_67 rfl rfl ?_
          refine V_geti X (ob_X3 hi) rfl rfl hin_X3 3 (Nat.le_of_ble_eq_true rfl) tw_193 (ri_X3_3 hi) dX3_push_68 ?_
          refine V_iload_n X dX3_push_71 rfl rfl ?_
          refine V_iast X (ar_X3_3 hi) dX3_push_72 hf (fun hf => ?_)
          refine V_gload_n X dX3_push_73 rfl rfl ?_
          refine V_dup X dX3_push_74 rfl ?_
          refine V_geti X (ob_X3 hi) rfl rfl hin_X3 3 (Nat.le_of_ble_eq_true rfl) tw_193 (ri_X3_3 hi) dX3_push_75 ?_
          refine V_iconst X dX3_push_78 ?_
          refine V_iadd X dX3_push_79 ?_
          refine V_puti X (ob_X3 hi) rfl rfl hin_X3 3 (Nat.le_of_ble_eq_true rfl) tw_193 tyX3 tyX3_ok nmX3 rfl (by decide +kernel) (ri_X3_3 hi) dX3_push_80 ?_
          exact V_vret X hE dX3_push_83 hf
        · exact V_vret X hE dX3_push_83 hf
      · exact V_vret X hE dX3_push_83 hf
    · exact V_vret X hE dX3_push_83 hf
abbrev rmX3_first : Room := { frames := 0, cells := 0, slots := 0, locals := 0 }
set_option maxRecDepth 20000 in
theorem m_X3_first {G : GG} {i : Nat} {a1 : Int} {w : WS} {q : (Int × WS)} (hi : isX3 i) (hf : f_X3_first i a1 w = some q) : MI G yX3_first cX3_first 2 (some .int) rmX3_first [gr G i, vi a1] w q := by
  refine MI_of (by decide +kernel) (Nat.le_of_ble_eq_true rfl) (fun E X hE => ?_)
  have X : Cx G E cX3_first RX3 (some .int) rmX3_first 2 := X
  unfold f_X3_first at hf
  refine V_iload_n X dX3_first_0 rfl rfl ?_
  refine V_if_lt X (tgt := 22) dX3_first_1 (by decide) hf (fun hf => ?_) (fun hf => ?_)
  · refine V_iconst X dX3_first_22 ?_
    exact V_iret X hE dX3_first_23 hf
  · refine V_iload_n X dX3_first_4 rfl rfl ?_
    refine V_gload_n X dX3_first_5 rfl rfl ?_
    refine V_getr X (ob_X3 hi) rfl rfl hin_X3 0 (Nat.le_of_ble_eq_true rfl) tw_190 (rr_X3_0 hi) dX3_first_6 ?_
    refine V_alen X (ar_X3_1 hi) (by decide) dX3_first_9 ?_
    refine V_icmp_ge X (tgt := 22) dX3_first_10 (by decide) hf (fun hf => ?_) (fun hf => ?_)
    · refine V_gload_n X dX3_first_13 rfl rfl ?_
      refine V_getr X (ob_X3 hi) rfl rfl hin_X3 0 (Nat.le_of_ble_eq_true rfl) tw_190 (rr_X3_0 hi) dX3_first_14 ?_
      refine V_iload_n X dX3_first_17 rfl rfl ?_
      refine V_iald X (ar_X3_1 hi) dX3_first_18 hf (fun hf => ?_)
      refine V_goto X (tgt := 23) dX3_first_19 (by decide) ?_
      exact V_iret X hE dX3_first_23 hf
    · refine V_iconst X dX3_first_22 ?_
      exact V_iret X hE dX3_first_23 hf
abbrev rmX3_second : Room := { frames := 0, cells := 0, slots := 0, locals := 0 }
set_option maxRecDepth 20000 in
theorem m_X3_second {G : GG} {i : Nat} {a1 : Int} {w : WS} {q : (Int × WS)} (hi : isX3 i) (hf : f_X3_second i a1 w = some q) : MI G yX3_second cX3_second 2 (some .int) rmX3_second [gr G i, vi a1] w q := by
  refine MI_of (by decide +kernel) (Nat.le_of_ble_eq_true rfl) (fun E X hE => ?_)
  have X : Cx G E cX3_second RX3 (some .int) rmX3_second 2 := X
  unfold f_X3_second at hf
  refine V_iload_n X dX3_second_0 rfl rfl ?_
  refine V_if_lt X (tgt := 22) dX3_second_1 (by decide) hf (fun hf => ?_) (fun hf => ?_)
  · refine V_iconst X dX3_second_22 ?_
    exact V_iret X hE dX3_second_23 hf
  · refine V_iload_n X dX3_second_4 rfl rfl ?_
    refine V_gload_n X dX3_second_5 rfl rfl ?_
    refine V_getr X (ob_X3 hi) rfl rfl hin_X3 1 (Nat.le_of_ble_eq_true rfl) tw_191 (rr_X3_1 hi) dX3_second_6 ?_
    refine V_alen X (ar_X3_2 hi) (by decide) dX3_second_9 ?_
    refine V_icmp_ge X (tgt := 22) dX3_second_10 (by decide) hf (fun hf => ?_) (fun hf => ?_)
    · refine V_gload_n X dX3_second_13 rfl rfl ?_
      refine V_getr X (ob_X3 hi) rfl rfl hin_X3 1 (Nat.le_of_ble_eq_true rfl) tw_191 (rr_X3_1 hi) dX3_second_14 ?_
      refine V_iload_n X dX3_second_17 rfl rfl ?_
      refine V_iald X (ar_X3_2 hi) dX3_second_18 hf (fun hf => ?_)
      refine V_goto X (tgt := 23) dX3_second_19 (by decide) ?_
      exact V_iret X hE dX3_second_23 hf
    · refine V_iconst X dX3_second_22 ?_
      exact V_iret X hE dX3_second_23 hf
abbrev rmX3_third : Room := { frames := 0, cells := 0, slots := 0, locals := 0 }
set_option maxRecDepth 20000 in
theorem m_X3_third {G : GG} {i : Nat} {a1 : Int} {w : WS} {q : (Int × WS)} (hi : isX3 i) (hf : f_X3_third i a1 w = some q) : MI G yX3_third cX3_third 2 (some .int) rmX3_third [gr G i, vi a1] w q := by
  refine MI_of (by decide +kernel) (Nat.le_of_ble_eq_true rfl) (fun E X hE => ?_)
  have X : Cx G E cX3_third RX3 (some .int) rmX3_third 2 := X
  unfold f_X3_third at hf
  refine V_iload_n X dX3_third_0 rfl rfl ?_
  refine V_if_lt X (tgt := 22) dX3_third_1 (by decide) hf (fun hf => ?_) (fun hf => ?_)
  · refine V_iconst X dX3_third_22 ?_
    exact V_iret X hE dX3_third_23 hf
  · refine V_iload_n X dX3_third_4 rfl rfl ?_
    refine V_gload_n X dX3_third_5 rfl rfl ?_
    refine V_getr X (ob_X3 hi) rfl rfl hin_X3 2 (Nat.le_of_ble_eq_true rfl) tw_192 (rr_X3_2 hi) dX3_third_6 ?_
    refine V_alen X (ar_X3_3 hi) (by decide) dX3_third_9 ?_
    refine V_icmp_ge X (tgt := 22) dX3_third_10 (by decide) hf (fun hf => ?_) (fun hf => ?_)
    · refine V_gload_n X dX3_third_13 rfl rfl ?_
      refine V_getr X (ob_X3 hi) rfl rfl hin_X3 2 (Nat.le_of_ble_eq_true rfl) tw_192 (rr_X3_2 hi) dX3_third_14 ?_
      refine V_iload_n X dX3_third_17 rfl rfl ?_
      refine V_iald X (ar_X3_3 hi) dX3_third_18 hf (fun hf => ?_)
      refine V_goto X (tgt := 23) dX3_third_19 (by decide) ?_
      exact V_iret X hE dX3_third_23 hf
    · refine V_iconst X dX3_third_22 ?_
      exact V_iret X hE dX3_third_23 hf
abbrev rmX6_length : Room := { frames := 0, cells := 0, slots := 0, locals := 0 }
set_option maxRecDepth 20000 in
theorem m_X6_length {G : GG} {i : Nat} {a1 : Int} {w : WS} {q : (Int × WS)} (hi : isX6 i) (hf : f_X6_length i a1 w = some q) : MI G yX6_length cX6_length 2 (some .int) rmX6_length [gr G i, vi a1] w q := by
  refine MI_of (by decide +kernel) (Nat.le_of_ble_eq_true rfl) (fun E X hE => ?_)
  have X : Cx G E cX6_length RX6 (some .int) rmX6_length 2 := X
  unfold f_X6_length at hf
  refine V_iload_n X dX6_length_0 rfl rfl ?_
  refine V_if_lt X (tgt := 22) dX6_length_1 (by decide) hf (fun hf => ?_) (fun hf => ?_)
  · refine V_iconst X dX6_length_22 ?_
    exact V_iret X hE dX6_length_23 hf
  · refine V_iload_n X dX6_length_4 rfl rfl ?_
    refine V_gload_n X dX6_length_5 rfl rfl ?_
    refine V_getr X (ob_X6 hi) rfl rfl hin_X6 2 (Nat.le_of_ble_eq_true rfl) tw_128 (rr_X6_2 hi) dX6_length_6 ?_
    refine V_alen X (ar_X6_2 hi) (by decide) dX6_length_9 ?_
    refine V_icmp_ge X (tgt := 22) dX6_length_10 (by decide) hf (fun hf => ?_) (fun hf => ?_)
    · refine V_gload_n X dX6_length_13 rfl rfl ?_
      refine V_getr X (ob_X6 hi) rfl rfl hin_X6 2 (Nat.le_of_ble_eq_true rfl) tw_128 (rr_X6_2 hi) dX6_length_14 ?_
      refine V_iload_n X dX6_length_17 rfl rfl ?_
      refine V_iald X (ar_X6_2 hi) dX6_length_18 hf (fun hf => ?_)
      refine V_goto X (tgt := 23) dX6_length_19 (by decide) ?_
      exact V_iret X hE dX6_length_23 hf
    · refine V_iconst X dX6_length_22 ?_
      exact V_iret X hE dX6_length_23 hf
abbrev rmX6_clear : Room := { frames := 0, cells := 0, slots := 0, locals := 0 }
set_option maxRecDepth 20000 in
theorem m_X6_clear {G : GG} {i : Nat} {a1 : Int} {w : WS} {q : (Int × WS)} (hi : isX6 i) (hf : f_X6_clear i a1 w = some q) : MV G yX6_clear cX6_clear 2 none rmX6_clear [gr G i, vi a1] w q := by
  refine MV_of (by decide +kernel) (Nat.le_of_ble_eq_true rfl) (fun E X hE => ?_)
  have X : Cx G E cX6_clear RX6 none rmX6_clear 2 := X
  unfold f_X6_clear at hf
  refine V_iload_n X dX6_clear_0 rfl rfl ?_
  refine V_if_lt X (tgt := 20) dX6_clear_1 (by decide) hf (fun hf => ?_) (fun hf => ?_)
  · exact V_vret X hE dX6_clear_20 hf
  · refine V_iload_n X dX6_clear_4 rfl rfl ?_
    refine V_gload_n X dX6_clear_5 rfl rfl ?_
    refine V_getr X (ob_X6 hi) rfl rfl hin_X6 2 (Nat.le_of_ble_eq_true rfl) tw_128 (rr_X6_2 hi) dX6_clear_6 ?_
    refine V_alen X (ar_X6_2 hi) (by decide) dX6_clear_9 ?_
    refine V_icmp_ge X (tgt := 20) dX6_clear_10 (by decide) hf (fun hf => ?_) (fun hf => ?_)
    · refine V_gload_n X dX6_clear_13 rfl rfl ?_
      refine V_getr X (ob_X6 hi) rfl rfl hin_X6 2 (Nat.le_of_ble_eq_true rfl) tw_128 (rr_X6_2 hi) dX6_clear_14 ?_
      refine V_iload_n X dX6_clear_17 rfl rfl ?_
      refine V_iconst X dX6_clear_18 ?_
      refine V_iast X (ar_X6_2 hi) dX6_clear_19 hf (fun hf => ?_)
      exact V_vret X hE dX6_clear_20 hf
    · exact V_vret X hE dX6_clear_20 hf
abbrev rmX6_sign : Room := { frames := 0, cells := 0, slots := 0, locals := 0 }
set_option maxRecDepth 20000 in
theorem m_X6_sign {G : GG} {i : Nat} {a1 : Int} {a2 : Int} {w : WS} {q : (Int × WS)} (hi : isX6 i) (hf : f_X6_sign i a1 a2 w = some q) : MI G yX6_sign cX6_sign 4 (some .int) rmX6_sign [gr G i, vi a1, vi a2] w q := by
  refine MI_of (by decide +kernel) (Nat.le_of_ble_eq_true rfl) (fun E X hE => ?_)
  have X : Cx G E cX6_sign RX6 (some .int) rmX6_sign 4 := X
  unfold f_X6_sign at hf
  refine V_iload_n X dX6_sign_0 rfl rfl ?_
  refine V_if_lt X (tgt := 27) dX6_sign_1 (by decide) hf (fun hf => ?_) (fun hf => ?_)
  · refine V_iconst X dX6_sign_27 ?_
    exact V_iret X hE dX6_sign_28 hf
  · refine V_iload_n X dX6_sign_4 rfl rfl ?_
    refine V_gload_n X dX6_sign_5 rfl rfl ?_
    refine V_getr X (ob_X6 hi) rfl rfl hin_X6 2 (Nat.le_of_ble_eq_true rfl) tw_128 (rr_X6_2 hi) dX6_sign_6 ?_
    refine V_alen X (ar_X6_2 hi) (by decide) dX6_sign_9 ?_
    refine V_icmp_ge X (tgt := 27) dX6_sign_10 (by decide) hf (fun hf => ?_) (fun hf => ?_)
    · refine V_iload_n X dX6_sign_13 rfl rfl ?_
      refine V_if_lt X (tgt := 27) dX6_sign_14 (by decide) hf (fun hf => ?_) (fun hf => ?_)
      · refine V_iconst X dX6_sign_27 ?_
        exact V_iret X hE dX6_sign_28 hf
      · refine V_iload_n X dX6_sign_17 rfl rfl ?_
        refine V_gload_n X dX6_sign_18 rfl rfl ?_
        refine V_getr X (ob_X6 hi) rfl rfl hin_X6 2 (Nat.le_of_ble_eq_true rfl) tw_128 (rr_X6_2 hi) dX6_sign_19 ?_
        refine V_iload_n X dX6_sign_22 rfl rfl ?_
        refine V_iald X (ar_X6_2 hi) dX6_sign_23 hf (fun hf => ?_)
        refine V_icmp_lt X (tgt := 29) dX6_sign_24 (by decide) hf (fun hf => ?_) (fun hf => ?_)
        · refine V_iload_n X dX6_sign_29 rfl rfl ?_
          refine V_gload_n X dX6_sign_30 rfl rfl ?_
          refine V_getc X (ob_X6 hi) rfl rfl hin_X6 0 (Nat.le_of_ble_eq_true rfl) tw_126 (rc_X6_0 hi) dX6_sign_31 ?_
          refine V_imul X dX6_sign_34 ?_
          refine V_iload_n X dX6_sign_35 rfl rfl ?_
          refine V_iadd X dX6_sign_36 ?_
          refine V_istore_n X dX6_sign_37 rfl (by decide) ?_
          refine V_iload_n X dX6_sign_38 rfl rfl ?_
          refine V_if_lt X (tgt := 60) dX6_sign_39 (by decide) hf (fun hf => ?_) (fun hf => ?_)
          · refine V_iconst X dX6_sign_60 ?_
            exact V_iret X hE dX6_sign_61 hf
          · refine V_iload_n X dX6_sign_42 rfl rfl ?_
            refine V_gload_n X dX6_sign_43 rfl rfl ?_
            refine V_getr X (ob_X6 hi) rfl rfl hin_X6 1 (Nat.le_of_ble_eq_true rfl) tw_127 (rr_X6_1 hi) dX6_sign_44 ?_
            refine V_alen X (ar_X6_1 hi) (by decide) dX6_sign_47 ?_
            refine V_icmp_ge X (tgt := 60) dX6_sign_48 (by decide) hf (fun hf => ?_) (fun hf => ?_)
            · refine V_gload_n X dX6_sign_51 rfl rfl ?_
              refine V_getr X (ob_X6 hi) rfl rfl hin_X6 1 (Nat.le_of_ble_eq_true rfl) tw_127 (rr_X6_1 hi) dX6_sign_52 ?_
              refine V_iload_n X dX6_sign_55 rfl rfl ?_
              refine V_iald X (ar_X6_1 hi) dX6_sign_56 hf (fun hf => ?_)
              refine V_goto X (tgt := 61) dX6_sign_57 (by decide) ?_
              exact V_iret X hE dX6_sign_61 hf
            · refine V_iconst X dX6_sign_60 ?_
              exact V_iret X hE dX6_sign_61 hf
        · refine V_iconst X dX6_sign_27 ?_
          exact V_iret X hE dX6_sign_28 hf
    · refine V_iconst X dX6_sign_27 ?_
      exact V_iret X hE dX6_sign_28 hf
abbrev rmX6_append : Room := { frames := 0, cells := 0, slots := 0, locals := 0 }
set_option maxRecDepth 20000 in
theorem v_X6_append_72 {G : GG} {E : EE} (X : Cx G E cX6_append RX6 (some .boolean) rmX6_append 12) {q : (Int × WS)} (hE : EndI G E q) {i : Nat} {j : Nat} (hi : isX6 i) (hj : isX6 j) : ∀ (n : Nat) (a1 a6 a7 a8 a9 : Int) (w : WS), f_X6_append_72 i j  n a1 a6 a7 a8 a9 w = some q → VV G E 0 0 72 [(0, gr G i), (1, vi a1), (2, gr G j), (6, vi a6), (7, vi a7), (8, vi a8), (9, vi a9)] [] w := by
  intro n
  induction n with
  | zero => intro a1 a6 a7 a8 a9 w hf; cases hf
  | succ n ih =>
    intro a1 a6 a7 a8 a9 w hf
    rw [f_X6_append_72_s] at hf
    refine V_iload X dX6_append_72 rfl ?_
    refine V_iload X dX6_append_74 rfl ?_
    refine V_icmp_ge X (tgt := 145) dX6_append_76 (by decide) hf (fun hf => ?_) (fun hf => ?_)
    · refine V_iload X dX6_append_79 rfl ?_
      refine V_iload X dX6_append_81 rfl ?_
      refine V_iadd X dX6_append_83 ?_
      refine V_istore X dX6_append_84 (by decide) ?_
      refine V_iload X dX6_append_86 rfl ?_
      refine V_iload X dX6_append_88 rfl ?_
      refine V_iadd X dX6_append_90 ?_
      refine V_istore X dX6_append_91 (by decide) ?_
      refine V_iload X dX6_append_93 rfl ?_
      refine V_if_lt X (tgt := 123) dX6_append_95 (by decide) hf (fun hf => ?_) (fun hf => ?_)
      · refine V_iconst X dX6_append_123 ?_
        exact V_zret X hE dX6_append_124 (Or.inl rfl) hf
      · refine V_iload X dX6_append_98 rfl ?_
        refine V_gload_n X dX6_append_100 rfl rfl ?_
        refine V_getr X (ob_X6 hi) rfl rfl hin_X6 1 (Nat.le_of_ble_eq_true rfl) tw_127 (rr_X6_1 hi) dX6_append_101 ?_
        refine V_alen X (ar_X6_1 hi) (by decide) dX6_append_104 ?_
        refine V_icmp_ge X (tgt := 123) dX6_append_105 (by decide) hf (fun hf => ?_) (fun hf => ?_)
        · refine V_iload X dX6_append_108 rfl ?_
          refine V_if_lt X (tgt := 123) dX6_append_110 (by decide) hf (fun hf => ?_) (fun hf => ?_)
          · refine V_iconst X dX6_append_123 ?_
            exact V_zret X hE dX6_append_124 (Or.inl rfl) hf
          · refine V_iload X dX6_append_113 rfl ?_
            refine V_gload_n X dX6_append_115 rfl rfl ?_
            refine V_getr X (ob_X6 hj) rfl rfl hin_X6 1 (Nat.le_of_ble_eq_true rfl) tw_127 (rr_X6_1 hj) dX6_append_116 ?_
            refine V_alen X (ar_X6_1 hj) (by decide) dX6_append_119 ?_
            refine V_icmp_lt X (tgt := 125) dX6_append_120 (by decide) hf (fun hf => ?_) (fun hf => ?_)
            · refine V_gload_n X dX6_append_125 rfl rfl ?_
              refine V_getr X (ob_X6 hi) rfl rfl hin_X6 1 (Nat.le_of_ble_eq_true rfl) tw_127 (rr_X6_1 hi) dX6_append_126 ?_
              refine V_iload X dX6_append_129 rfl ?_
              refine V_gload_n X dX6_append_131 rfl rfl ?_
              refine V_getr X (ob_X6 hj) rfl rfl hin_X6 1 (Nat.le_of_ble_eq_true rfl) tw_127 (rr_X6_1 hj) dX6_append_132 ?_
              refine V_iload X dX6_append_135 rfl ?_
              refine V_iald X (ar_X6_1 hj) dX6_append_137 hf (fun hf => ?_)
              refine V_iast X (ar_X6_1 hi) dX6_append_138 hf (fun hf => ?_)
              refine V_iinc X dX6_append_139 rfl (by decide) ?_
              refine V_goto X (tgt := 72) dX6_append_142 (by decide) ?_
              exact V_cut [0, 1, 2, 6, 7, 8, 9] rfl (ih _ _ _ _ _ _ hf)
            · refine V_iconst X dX6_append_123 ?_
              exact V_zret X hE dX6_append_124 (Or.inl rfl) hf
        · refine V_iconst X dX6_append_123 ?_
          exact V_zret X hE dX6_append_124 (Or.inl rfl) hf
    · refine V_gload_n X dX6_append_145 rfl rfl ?_
      refine V_getr X (ob_X6 hi) rfl rfl hin_X6 2 (Nat.le_of_ble_eq_true rfl) tw_128 (rr_X6_2 hi) dX6_append_146 ?_
      refine V_iload_n X dX6_append_149 rfl rfl ?_
      refine V_dup2 X dX6_append_150 rfl rfl ?_
      refine V_iald X (ar_X6_2 hi) dX6_append_151 hf (fun hf => ?_)
      refine V_iload X dX6_append_152 rfl ?_
      refine V_iadd X dX6_append_154 ?_
      refine V_iast X (ar_X6_2 hi) dX6_append_155 hf (fun hf => ?_)
      refine V_iconst X dX6_append_156 ?_
      exact V_zret X hE dX6_append_157 (Or.inr rfl) hf
set_option maxRecDepth 20000 in
theorem m_X6_append {G : GG} {i : Nat} {a1 : Int} {j : Nat} {a3 : Int} {a4 : Int} {a5 : Int} {w : WS} {q : (Int × WS)} (hi : isX6 i) (hj : isX6 j) (hf : f_X6_append i a1 j a3 a4 a5 w = some q) : MI G yX6_append cX6_append 12 (some .boolean) rmX6_append [gr G i, vi a1, gr G j, vi a3, vi a4, vi a5] w q := by
  refine MI_of (by decide +kernel) (Nat.le_of_ble_eq_true rfl) (fun E X hE => ?_)
  have X : Cx G E cX6_append RX6 (some .boolean) rmX6_append 12 := X
  unfold f_X6_append at hf
  refine V_iload X dX6_append_0 rfl ?_
  refine V_iload X dX6_append_2 rfl ?_
  refine V_isub X dX6_append_4 ?_
  refine V_istore X dX6_append_5 (by decide) ?_
  refine V_iload_n X dX6_append_7 rfl rfl ?_
  refine V_if_lt X (tgt := 41) dX6_append_8 (by decide) hf (fun hf => ?_) (fun hf => ?_)
  · refine V_iconst X dX6_append_41 ?_
    exact V_zret X hE dX6_append_42 (Or.inl rfl) hf
  · refine V_iload_n X dX6_append_11 rfl rfl ?_
    refine V_gload_n X dX6_append_12 rfl rfl ?_
    refine V_getr X (ob_X6 hi) rfl rfl hin_X6 2 (Nat.le_of_ble_eq_true rfl) tw_128 (rr_X6_2 hi) dX6_append_13 ?_
    refine V_alen X (ar_X6_2 hi) (by decide) dX6_append_16 ?_
    refine V_icmp_ge X (tgt := 41) dX6_append_17 (by decide) hf (fun hf => ?_) (fun hf => ?_)
    · refine V_iload X dX6_append_20 rfl ?_
      refine V_if_lt X (tgt := 41) dX6_append_22 (by decide) hf (fun hf => ?_) (fun hf => ?_)
      · refine V_iconst X dX6_append_41 ?_
        exact V_zret X hE dX6_append_42 (Or.inl rfl) hf
      · refine V_iload X dX6_append_25 rfl ?_
        refine V_gload_n X dX6_append_27 rfl rfl ?_
        refine V_getc X (ob_X6 hi) rfl rfl hin_X6 0 (Nat.le_of_ble_eq_true rfl) tw_126 (rc_X6_0 hi) dX6_append_28 ?_
        refine V_gload_n X dX6_append_31 rfl rfl ?_
        refine V_getr X (ob_X6 hi) rfl rfl hin_X6 2 (Nat.le_of_ble_eq_true rfl) tw_128 (rr_X6_2 hi) dX6_append_32 ?_
        refine V_iload_n X dX6_append_35 rfl rfl ?_
        refine V_iald X (ar_X6_2 hi) dX6_append_36 hf (fun hf => ?_)
        refine V_isub X dX6_append_37 ?_
        refine V_icmp_le X (tgt := 43) dX6_append_38 (by decide) hf (fun hf => ?_) (fun hf => ?_)
        · refine V_iconst X dX6_append_41 ?_
          exact V_zret X hE dX6_append_42 (Or.inl rfl) hf
        · refine V_iload_n X dX6_append_43 rfl rfl ?_
          refine V_gload_n X dX6_append_44 rfl rfl ?_
          refine V_getc X (ob_X6 hi) rfl rfl hin_X6 0 (Nat.le_of_ble_eq_true rfl) tw_126 (rc_X6_0 hi) dX6_append_45 ?_
          refine V_imul X dX6_append_48 ?_
          refine V_gload_n X dX6_append_49 rfl rfl ?_
          refine V_getr X (ob_X6 hi) rfl rfl hin_X6 2 (Nat.le_of_ble_eq_true rfl) tw_128 (rr_X6_2 hi) dX6_append_50 ?_
          refine V_iload_n X dX6_append_53 rfl rfl ?_
          refine V_iald X (ar_X6_2 hi) dX6_append_54 hf (fun hf => ?_)
          refine V_iadd X dX6_append_55 ?_
          refine V_istore X dX6_append_56 (by decide) ?_
          refine V_iload_n X dX6_append_58 rfl rfl ?_
          refine V_gload_n X dX6_append_59 rfl rfl ?_
          refine V_getc X (ob_X6 hj) rfl rfl hin_X6 0 (Nat.le_of_ble_eq_true rfl) tw_126 (rc_X6_0 hj) dX6_append_60 ?_
          refine V_imul X dX6_append_63 ?_
          refine V_iload X dX6_append_64 rfl ?_
          refine V_iadd X dX6_append_66 ?_
          refine V_istore X dX6_append_67 (by decide) ?_
          refine V_iconst X dX6_append_69 ?_
          refine V_istore X dX6_append_70 (by decide) ?_
          exact V_cut [0, 1, 2, 6, 7, 8, 9] rfl (v_X6_append_72 X hE hi hj FU _ _ _ _ _ _ hf)
    · refine V_iconst X dX6_append_41 ?_
      exact V_zret X hE dX6_append_42 (Or.inl rfl) hf
abbrev rmX6_copy : Room := { frames := 1, cells := 0, slots := 0, locals := 31 }
set_option maxRecDepth 20000 in
theorem m_X6_copy {G : GG} {i : Nat} {a1 : Int} {j : Nat} {a3 : Int} {w : WS} {q : (Int × WS)} (hi : isX6 i) (hj : isX6 j) (hf : f_X6_copy i a1 j a3 w = some q) : MV G yX6_copy cX6_copy 4 none rmX6_copy [gr G i, vi a1, gr G j, vi a3] w q := by
  refine MV_of (by decide +kernel) (Nat.le_of_ble_eq_true rfl) (fun E X hE => ?_)
  have X : Cx G E cX6_copy RX6 none rmX6_copy 4 := X
  unfold f_X6_copy at hf
  refine V_gload_n X dX6_copy_0 rfl rfl ?_
  refine V_iload_n X dX6_copy_1 rfl rfl ?_
  refine V_cVV X hf [vi a1] _ 1 (fun _ h => m_X6_clear hi h) (ob_X6 hi) rfl tw_470 tw_87 tw_636 tw_468 tw_469 dX6_copy_2 ⟨by decide +kernel, by decide +kernel, by decide +kernel⟩ ⟨rfl, rfl⟩ ⟨Nat.le_of_ble_eq_true rfl, Nat.le_of_ble_eq_true rfl⟩ rfl (Nat.le_of_ble_eq_true rfl) ⟨Nat.zero_le _, Nat.zero_le _⟩ (fun r1 w1 hf => ?_)
  refine V_gload_n X dX6_copy_5 rfl rfl ?_
  refine V_iload_n X dX6_copy_6 rfl rfl ?_
  refine V_gload_n X dX6_copy_7 rfl rfl ?_
  refine V_iload_n X dX6_copy_8 rfl rfl ?_
  refine V_iconst X dX6_copy_9 ?_
  refine V_gload_n X dX6_copy_10 rfl rfl ?_
  refine V_iload_n X dX6_copy_11 rfl rfl ?_
  refine V_cVI X hf [vi a3] _ 1 (fun _ h => m_X6_length hj h) (ob_X6 hj) rfl tw_466 tw_87 tw_637 tw_464 tw_465 dX6_copy_12 ⟨by decide +kernel, by decide +kernel, by decide +kernel⟩ ⟨rfl, rfl⟩ ⟨Nat.le_of_ble_eq_true rfl, Nat.le_of_ble_eq_true rfl⟩ rfl (Nat.le_of_ble_eq_true rfl) ⟨Nat.zero_le _, Nat.zero_le _⟩ (fun r2 w2 hf => ?_)
  refine V_cVI X hf [vi a1, gr G j, vi a3, vi 0, vi r2] _ 5 (fun _ h => m_X6_append hi hj h) (ob_X6 hi) rfl tw_641 tw_87 tw_638 tw_639 tw_640 dX6_copy_15 ⟨by decide +kernel, by decide +kernel, by decide +kernel⟩ ⟨rfl, rfl⟩ ⟨Nat.le_of_ble_eq_true rfl, Nat.le_of_ble_eq_true rfl⟩ rfl (Nat.le_of_ble_eq_true rfl) ⟨Nat.zero_le _, Nat.zero_le _⟩ (fun r3 w3 hf => ?_)
  refine V_pop X dX6_copy_18 rfl ?_
  exact V_vret X hE dX6_copy_19 hf
abbrev rmX6_copyAll : Room := { frames := 2, cells := 0, slots := 0, locals := 54 }
set_option maxRecDepth 20000 in
theorem v_X6_copyAll_2 {G : GG} {E : EE} (X : Cx G E cX6_copyAll RX6 none rmX6_copyAll 3) {q : (Int × WS)} (hE : EndV G E q) {i : Nat} {j : Nat} (hi : isX6 i) (hj : isX6 j) : ∀ (n : Nat) (a2 : Int) (w : WS), f_X6_copyAll_2 i j  n a2 w = some q → VV G E 0 0 2 [(0, gr G i), (1, gr G j), (2, vi a2)] [] w := by
  intro n
  induction n with
  | zero => intro a2 w hf; cases hf
  | succ n ih =>
    intro a2 w hf
    rw [f_X6_copyAll_2_s] at hf
    refine V_iload_n X dX6_copyAll_2 rfl rfl ?_
    refine V_gload_n X dX6_copyAll_3 rfl rfl ?_
    refine V_getr X (ob_X6 hi) rfl rfl hin_X6 2 (Nat.le_of_ble_eq_true rfl) tw_128 (rr_X6_2 hi) dX6_copyAll_4 ?_
    refine V_alen X (ar_X6_2 hi) (by decide) dX6_copyAll_7 ?_
    refine V_icmp_ge X (tgt := 24) dX6_copyAll_8 (by decide) hf (fun hf => ?_) (fun hf => ?_)
    · refine V_gload_n X dX6_copyAll_11 rfl rfl ?_
      refine V_iload_n X dX6_copyAll_12 rfl rfl ?_
      refine V_gload_n X dX6_copyAll_13 rfl rfl ?_
      refine V_iload_n X dX6_copyAll_14 rfl rfl ?_
      refine V_cVV X hf [vi a2, gr G j, vi a2] _ 3 (fun _ h => m_X6_copy hi hj h) (ob_X6 hi) rfl tw_635 tw_87 tw_1220 tw_633 tw_634 dX6_copyAll_15 ⟨by decide +kernel, by decide +kernel, by decide +kernel⟩ ⟨rfl, rfl⟩ ⟨Nat.le_of_ble_eq_true rfl, Nat.le_of_ble_eq_true rfl⟩ rfl (Nat.le_of_ble_eq_true rfl) ⟨Nat.zero_le _, Nat.zero_le _⟩ (fun r1 w1 hf => ?_)
      refine V_iinc X dX6_copyAll_18 rfl (by decide) ?_
      refine V_goto X (tgt := 2) dX6_copyAll_21 (by decide) ?_
      exact V_cut [0, 1, 2] rfl (ih _ _ hf)
    · exact V_vret X hE dX6_copyAll_24 hf
set_option maxRecDepth 20000 in
theorem m_X6_copyAll {G : GG} {i : Nat} {j : Nat} {w : WS} {q : (Int × WS)} (hi : isX6 i) (hj : isX6 j) (hf : f_X6_copyAll i j w = some q) : MV G yX6_copyAll cX6_copyAll 3 none rmX6_copyAll [gr G i, gr G j] w q := by
  refine MV_of (by decide +kernel) (Nat.le_of_ble_eq_true rfl) (fun E X hE => ?_)
  have X : Cx G E cX6_copyAll RX6 none rmX6_copyAll 3 := X
  unfold f_X6_copyAll at hf
  refine V_iconst X dX6_copyAll_0 ?_
  refine V_istore_n X dX6_copyAll_1 rfl (by decide) ?_
  exact V_cut [0, 1, 2] rfl (v_X6_copyAll_2 X hE hi hj FU _ _ hf)
abbrev rmX6_add : Room := { frames := 0, cells := 0, slots := 0, locals := 0 }
set_option maxRecDepth 20000 in
theorem m_X6_add {G : GG} {i : Nat} {a1 : Int} {a2 : Int} {w : WS} {q : (Int × WS)} (hi : isX6 i) (hf : f_X6_add i a1 a2 w = some q) : MI G yX6_add cX6_add 4 (some .boolean) rmX6_add [gr G i, vi a1, vi a2] w q := by
  refine MI_of (by decide +kernel) (Nat.le_of_ble_eq_true rfl) (fun E X hE => ?_)
  have X : Cx G E cX6_add RX6 (some .boolean) rmX6_add 4 := X
  unfold f_X6_add at hf
  refine V_iload_n X dX6_add_0 rfl rfl ?_
  refine V_if_lt X (tgt := 26) dX6_add_1 (by decide) hf (fun hf => ?_) (fun hf => ?_)
  · refine V_iconst X dX6_add_26 ?_
    exact V_zret X hE dX6_add_27 (Or.inl rfl) hf
  · refine V_iload_n X dX6_add_4 rfl rfl ?_
    refine V_gload_n X dX6_add_5 rfl rfl ?_
    refine V_getr X (ob_X6 hi) rfl rfl hin_X6 2 (Nat.le_of_ble_eq_true rfl) tw_128 (rr_X6_2 hi) dX6_add_6 ?_
    refine V_alen X (ar_X6_2 hi) (by decide) dX6_add_9 ?_
    refine V_icmp_ge X (tgt := 26) dX6_add_10 (by decide) hf (fun hf => ?_) (fun hf => ?_)
    · refine V_gload_n X dX6_add_13 rfl rfl ?_
      refine V_getr X (ob_X6 hi) rfl rfl hin_X6 2 (Nat.le_of_ble_eq_true rfl) tw_128 (rr_X6_2 hi) dX6_add_14 ?_
      refine V_iload_n X dX6_add_17 rfl rfl ?_
      refine V_iald X (ar_X6_2 hi) dX6_add_18 hf (fun hf => ?_)
      refine V_gload_n X dX6_add_19 rfl rfl ?_
      refine V_getc X (ob_X6 hi) rfl rfl hin_X6 0 (Nat.le_of_ble_eq_true rfl) tw_126 (rc_X6_0 hi) dX6_add_20 ?_
      refine V_icmp_lt X (tgt := 28) dX6_add_23 (by decide) hf (fun hf => ?_) (fun hf => ?_)
      · refine V_iload_n X dX6_add_28 rfl rfl ?_
        refine V_gload_n X dX6_add_29 rfl rfl ?_
        refine V_getc X (ob_X6 hi) rfl rfl hin_X6 0 (Nat.le_of_ble_eq_true rfl) tw_126 (rc_X6_0 hi) dX6_add_30 ?_
        refine V_imul X dX6_add_33 ?_
        refine V_gload_n X dX6_add_34 rfl rfl ?_
        refine V_getr X (ob_X6 hi) rfl rfl hin_X6 2 (Nat.le_of_ble_eq_true rfl) tw_128 (rr_X6_2 hi) dX6_add_35 ?_
        refine V_iload_n X dX6_add_38 rfl rfl ?_
        refine V_iald X (ar_X6_2 hi) dX6_add_39 hf (fun hf => ?_)
        refine V_iadd X dX6_add_40 ?_
        refine V_istore_n X dX6_add_41 rfl (by decide) ?_
        refine V_iload_n X dX6_add_42 rfl rfl ?_
        refine V_if_lt X (tgt := 55) dX6_add_43 (by decide) hf (fun hf => ?_) (fun hf => ?_)
        · refine V_iconst X dX6_add_55 ?_
          exact V_zret X hE dX6_add_56 (Or.inl rfl) hf
        · refine V_iload_n X dX6_add_46 rfl rfl ?_
          refine V_gload_n X dX6_add_47 rfl rfl ?_
          refine V_getr X (ob_X6 hi) rfl rfl hin_X6 1 (Nat.le_of_ble_eq_true rfl) tw_127 (rr_X6_1 hi) dX6_add_48 ?_
          refine V_alen X (ar_X6_1 hi) (by decide) dX6_add_51 ?_
          refine V_icmp_lt X (tgt := 57) dX6_add_52 (by decide) hf (fun hf => ?_) (fun hf => ?_)
          · refine V_gload_n X dX6_add_57 rfl rfl ?_
            refine V_getr X (ob_X6 hi) rfl rfl hin_X6 1 (Nat.le_of_ble_eq_true rfl) tw_127 (rr_X6_1 hi) dX6_add_58 ?_
            refine V_iload_n X dX6_add_61 rfl rfl ?_
            refine V_iload_n X dX6_add_62 rfl rfl ?_
            refine V_iast X (ar_X6_1 hi) dX6_add_63 hf (fun hf => ?_)
            refine V_gload_n X dX6_add_64 rfl rfl ?_
            refine V_getr X (ob_X6 hi) rfl rfl hin_X6 2 (Nat.le_of_ble_eq_true rfl) tw_128 (rr_X6_2 hi) dX6_add_65 ?_
            refine V_iload_n X dX6_add_68 rfl rfl ?_
            refine V_dup2 X dX6_add_69 rfl rfl ?_
            refine V_iald X (ar_X6_2 hi) dX6_add_70 hf (fun hf => ?_)
            refine V_iconst X dX6_add_71 ?_
            refine V_iadd X dX6_add_72 ?_
            refine V_iast X (ar_X6_2 hi) dX6_add_73 hf (fun hf => ?_)
            refine V_iconst X dX6_add_74 ?_
            exact V_zret X hE dX6_add_75 (Or.inr rfl) hf
          · refine V_iconst X dX6_add_55 ?_
            exact V_zret X hE dX6_add_56 (Or.inl rfl) hf
      · refine V_iconst X dX6_add_26 ?_
        exact V_zret X hE dX6_add_27 (Or.inl rfl) hf
    · refine V_iconst X dX6_add_26 ?_
      exact V_zret X hE dX6_add_27 (Or.inl rfl) hf
abbrev rmX6_writeNumber : Room := { frames := 1, cells := 0, slots := 0, locals := 23 }
set_option maxRecDepth 20000 in
theorem v_X6_writeNumber_100 {G : GG} {E : EE} (X : Cx G E cX6_writeNumber RX6 none rmX6_writeNumber 10) {q : (Int × WS)} (hE : EndV G E q) {i : Nat} (hi : isX6 i) {k41 : Int → Int → Int → Int → WS → Option (Int × WS)} (hk41 : ∀ (a1 a4 a6 a7 : Int) (w : WS), k41 a1 a4 a6 a7 w = some q → VV G E 0 0 41 [(0, gr G i), (1, vi a1), (4, vl a4), (6, vi a6), (7, vl a7)] [] w) {a1 a4 a6 a7 : Int} {w : WS} (hf : f_X6_writeNumber_100 i k41 a1 a4 a6 a7 w = some q) : VV G E 0 0 100 [(0, gr G i), (1, vi a1), (4, vl a4), (6, vi a6), (7, vl a7)] [] w := by
  unfold f_X6_writeNumber_100 at hf
  refine V_lload X dX6_writeNumber_100 rfl ?_
  refine V_ldc2 (a := 10) X tw_974 dX6_writeNumber_102 (by decide) ?_
  obtain ⟨hne, hf⟩ := ite_n hf
  refine V_ldiv X dX6_writeNumber_105 hne ?_
  refine V_lstore X dX6_writeNumber_106 (by decide) ?_
  refine V_goto X (tgt := 41) dX6_writeNumber_108 (by decide) ?_
  exact V_cut [0, 1, 4, 6, 7] rfl (hk41 _ _ _ _ _ hf)
set_option maxRecDepth 20000 in
theorem v_X6_writeNumber_82 {G : GG} {E : EE} (X : Cx G E cX6_writeNumber RX6 none rmX6_writeNumber 10) {q : (Int × WS)} (hE : EndV G E q) {i : Nat} (hi : isX6 i) {k41 : Int → Int → Int → Int → WS → Option (Int × WS)} (hk41 : ∀ (a1 a4 a6 a7 : Int) (w : WS), k41 a1 a4 a6 a7 w = some q → VV G E 0 0 41 [(0, gr G i), (1, vi a1), (4, vl a4), (6, vi a6), (7, vl a7)] [] w) {a1 a4 a7 a9 s0 : Int} {w : WS} (hf : f_X6_writeNumber_82 i k41 a1 a4 a7 a9 s0 w = some q) : VV G E 0 0 82 [(0, gr G i), (1, vi a1), (4, vl a4), (7, vl a7), (9, vi a9)] [vi s0] w := by
  unfold f_X6_writeNumber_82 at hf
  refine V_istore X dX6_writeNumber_82 (by decide) ?_
  refine V_iload X dX6_writeNumber_84 rfl ?_
  refine V_if_eq X (tgt := 100) dX6_writeNumber_86 (by decide) hf (fun hf => ?_) (fun hf => ?_)
  · exact V_cut [0, 1, 4, 6, 7] rfl (v_X6_writeNumber_100 X hE hi hk41 hf)
  · refine V_gload_n X dX6_writeNumber_89 rfl rfl ?_
    refine V_iload_n X dX6_writeNumber_90 rfl rfl ?_
    refine V_bipush X dX6_writeNumber_91 (by decide) ?_
    refine V_iload X dX6_writeNumber_93 rfl ?_
    refine V_iadd X dX6_writeNumber_95 ?_
    refine V_cVI X hf [vi a1, vi (48 + a9)] _ 2 (fun _ h => m_X6_add hi h) (ob_X6 hi) rfl tw_606 tw_87 tw_989 tw_604 tw_605 dX6_writeNumber_96 ⟨by decide +kernel, by decide +kernel, by decide +kernel⟩ ⟨rfl, rfl⟩ ⟨Nat.le_of_ble_eq_true rfl, Nat.le_of_ble_eq_true rfl⟩ rfl (Nat.le_of_ble_eq_true rfl) ⟨Nat.zero_le _, Nat.zero_le _⟩ (fun r3 w3 hf => ?_)
    refine V_pop X dX6_writeNumber_99 rfl ?_
    exact V_cut [0, 1, 4, 6, 7] rfl (v_X6_writeNumber_100 X hE hi hk41 hf)
set_option maxRecDepth 20000 in
theorem v_X6_writeNumber_77 {G : GG} {E : EE} (X : Cx G E cX6_writeNumber RX6 none rmX6_writeNumber 10) {q : (Int × WS)} (hE : EndV G E q) {i : Nat} (hi : isX6 i) {k41 : Int → Int → Int → Int → WS → Option (Int × WS)} (hk41 : ∀ (a1 a4 a6 a7 : Int) (w : WS), k41 a1 a4 a6 a7 w = some q → VV G E 0 0 41 [(0, gr G i), (1, vi a1), (4, vl a4), (6, vi a6), (7, vl a7)] [] w) {a1 a4 a7 a9 : Int} {w : WS} (hf : f_X6_writeNumber_77 i k41 a1 a4 a7 a9 w = some q) : VV G E 0 0 77 [(0, gr G i), (1, vi a1), (4, vl a4), (7, vl a7), (9, vi a9)] [] w := by
  unfold f_X6_writeNumber_77 at hf
  refine V_iconst X dX6_writeNumber_77 ?_
  refine V_goto X (tgt := 82) dX6_writeNumber_78 (by decide) ?_
  exact V_cut [0, 1, 4, 7, 9] rfl (v_X6_writeNumber_82 X hE hi hk41 hf)
set_option maxRecDepth 20000 in
theorem v_X6_writeNumber_41 {G : GG} {E : EE} (X : Cx G E cX6_writeNumber RX6 none rmX6_writeNumber 10) {q : (Int × WS)} (hE : EndV G E q) {i : Nat} (hi : isX6 i) : ∀ (n : Nat) (a1 a4 a6 a7 : Int) (w : WS), f_X6_writeNumber_41 i  n a1 a4 a6 a7 w = some q → VV G E 0 0 41 [(0, gr G i), (1, vi a1), (4, vl a4), (6, vi a6), (7, vl a7)] [] w := by
  intro n
  induction n with
  | zero => intro a1 a4 a6 a7 w hf; cases hf
  | succ n ih =>
    intro a1 a4 a6 a7 w hf
    rw [f_X6_writeNumber_41_s] at hf
    refine V_lload X dX6_writeNumber_41 rfl ?_
    refine V_lconst (a := 0) X dX6_writeNumber_43 (by decide) ?_
    refine V_lcmp_le X (tgt := 111) (pc2 := 45) dX6_writeNumber_44 rfl dX6_writeNumber_45 (by decide) hf (fun hf => ?_) (fun hf => ?_)
    · refine V_lload X dX6_writeNumber_48 rfl ?_
      refine V_lload X dX6_writeNumber_50 rfl ?_
      obtain ⟨hne, hf⟩ := ite_n hf
      refine V_ldiv X dX6_writeNumber_52 hne ?_
      refine V_ldc2 (a := 10) X tw_974 dX6_writeNumber_53 (by decide) ?_
      obtain ⟨hne, hf⟩ := ite_n hf
      refine V_lrem X dX6_writeNumber_56 hne ?_
      refine V_l2i X dX6_writeNumber_57 ?_
      refine V_istore X dX6_writeNumber_58 (by decide) ?_
      refine V_iload X dX6_writeNumber_60 rfl ?_
      refine V_if_ne X (tgt := 77) dX6_writeNumber_62 (by decide) hf (fun hf => ?_) (fun hf => ?_)
      · refine V_iload X dX6_writeNumber_65 rfl ?_
        refine V_if_gt X (tgt := 77) dX6_writeNumber_67 (by decide) hf (fun hf => ?_) (fun hf => ?_)
        · exact V_cut [0, 1, 4, 7, 9] rfl (v_X6_writeNumber_77 X hE hi (fun x0 x1 x2 x3 x hf => ih x0 x1 x2 x3 x hf) hf)
        · refine V_lload X dX6_writeNumber_70 rfl ?_
          refine V_lconst (a := 1) X dX6_writeNumber_72 (by decide) ?_
          refine V_lcmp_ne X (tgt := 81) (pc2 := 74) dX6_writeNumber_73 rfl dX6_writeNumber_74 (by decide) hf (fun hf => ?_) (fun hf => ?_)
          · exact V_cut [0, 1, 4, 7, 9] rfl (v_X6_writeNumber_77 X hE hi (fun x0 x1 x2 x3 x hf => ih x0 x1 x2 x3 x hf) hf)
          · refine V_iconst X dX6_writeNumber_81 ?_
            exact V_cut [0, 1, 4, 7, 9] rfl (v_X6_writeNumber_82 X hE hi (fun x0 x1 x2 x3 x hf => ih x0 x1 x2 x3 x hf) hf)
      · exact V_cut [0, 1, 4, 7, 9] rfl (v_X6_writeNumber_77 X hE hi (fun x0 x1 x2 x3 x hf => ih x0 x1 x2 x3 x hf) hf)
    · exact V_vret X hE dX6_writeNumber_111 hf
set_option maxRecDepth 20000 in
theorem v_X6_writeNumber_31 {G : GG} {E : EE} (X : Cx G E cX6_writeNumber RX6 none rmX6_writeNumber 10) {q : (Int × WS)} (hE : EndV G E q) {i : Nat} (hi : isX6 i) {a1 s0 : Int} {w : WS} (hf : f_X6_writeNumber_31 i  a1 s0 w = some q) : VV G E 0 0 31 [(0, gr G i), (1, vi a1)] [vl s0] w := by
  unfold f_X6_writeNumber_31 at hf
  refine V_lstore X dX6_writeNumber_31 (by decide) ?_
  refine V_iconst X dX6_writeNumber_33 ?_
  refine V_istore X dX6_writeNumber_34 (by decide) ?_
  refine V_ldc2 (a := 100000000) X tw_990 dX6_writeNumber_36 (by decide) ?_
  refine V_lstore X dX6_writeNumber_39 (by decide) ?_
  exact V_cut [0, 1, 4, 6, 7] rfl (v_X6_writeNumber_41 X hE hi FU _ _ _ _ _ hf)
set_option maxRecDepth 20000 in
theorem v_X6_writeNumber_19 {G : GG} {E : EE} (X : Cx G E cX6_writeNumber RX6 none rmX6_writeNumber 10) {q : (Int × WS)} (hE : EndV G E q) {i : Nat} (hi : isX6 i) {a1 a2 : Int} {w : WS} (hf : f_X6_writeNumber_19 i  a1 a2 w = some q) : VV G E 0 0 19 [(0, gr G i), (1, vi a1), (2, vl a2)] [] w := by
  unfold f_X6_writeNumber_19 at hf
  refine V_lload_n X dX6_writeNumber_19 rfl rfl ?_
  refine V_lconst (a := 0) X dX6_writeNumber_20 (by decide) ?_
  refine V_lcmp_ge X (tgt := 30) (pc2 := 22) dX6_writeNumber_21 rfl dX6_writeNumber_22 (by decide) hf (fun hf => ?_) (fun hf => ?_)
  · refine V_lload_n X dX6_writeNumber_25 rfl rfl ?_
    refine V_lneg X dX6_writeNumber_26 ?_
    refine V_goto X (tgt := 31) dX6_writeNumber_27 (by decide) ?_
    exact V_cut [0, 1] rfl (v_X6_writeNumber_31 X hE hi hf)
  · refine V_lload_n X dX6_writeNumber_30 rfl rfl ?_
    exact V_cut [0, 1] rfl (v_X6_writeNumber_31 X hE hi hf)
set_option maxRecDepth 20000 in
theorem m_X6_writeNumber {G : GG} {i : Nat} {a1 : Int} {a2 : Int} {w : WS} {q : (Int × WS)} (hi : isX6 i) (hf : f_X6_writeNumber i a1 a2 w = some q) : MV G yX6_writeNumber cX6_writeNumber 10 none rmX6_writeNumber [gr G i, vi a1, vl a2] w q := by
  refine MV_of (by decide +kernel) (Nat.le_of_ble_eq_true rfl) (fun E X hE => ?_)
  have X : Cx G E cX6_writeNumber RX6 none rmX6_writeNumber 10 := X
  unfold f_X6_writeNumber at hf
  refine V_gload_n X dX6_writeNumber_0 rfl rfl ?_
  refine V_iload_n X dX6_writeNumber_1 rfl rfl ?_
  refine V_cVV X hf [vi a1] _ 1 (fun _ h => m_X6_clear hi h) (ob_X6 hi) rfl tw_470 tw_87 tw_636 tw_468 tw_469 dX6_writeNumber_2 ⟨by decide +kernel, by decide +kernel, by decide +kernel⟩ ⟨rfl, rfl⟩ ⟨Nat.le_of_ble_eq_true rfl, Nat.le_of_ble_eq_true rfl⟩ rfl (Nat.le_of_ble_eq_true rfl) ⟨Nat.zero_le _, Nat.zero_le _⟩ (fun r1 w1 hf => ?_)
  refine V_lload_n X dX6_writeNumber_5 rfl rfl ?_
  refine V_lconst (a := 0) X dX6_writeNumber_6 (by decide) ?_
  refine V_lcmp_ge X (tgt := 19) (pc2 := 8) dX6_writeNumber_7 rfl dX6_writeNumber_8 (by decide) hf (fun hf => ?_) (fun hf => ?_)
  · refine V_gload_n X dX6_writeNumber_11 rfl rfl ?_
    refine V_iload_n X dX6_writeNumber_12 rfl rfl ?_
    refine V_bipush X dX6_writeNumber_13 (by decide) ?_
    refine V_cVI X hf [vi a1, vi 45] _ 2 (fun _ h => m_X6_add hi h) (ob_X6 hi) rfl tw_606 tw_87 tw_989 tw_604 tw_605 dX6_writeNumber_15 ⟨by decide +kernel, by decide +kernel, by decide +kernel⟩ ⟨rfl, rfl⟩ ⟨Nat.le_of_ble_eq_true rfl, Nat.le_of_ble_eq_true rfl⟩ rfl (Nat.le_of_ble_eq_true rfl) ⟨Nat.zero_le _, Nat.zero_le _⟩ (fun r2 w2 hf => ?_)
    refine V_pop X dX6_writeNumber_18 rfl ?_
    exact V_cut [0, 1, 2] rfl (v_X6_writeNumber_19 X hE hi hf)
  · exact V_cut [0, 1, 2] rfl (v_X6_writeNumber_19 X hE hi hf)
abbrev rmX6_hasThere : Room := { frames := 1, cells := 0, slots := 0, locals := 23 }
set_option maxRecDepth 20000 in
theorem v_X6_hasThere_11 {G : GG} {E : EE} (X : Cx G E cX6_hasThere RX6 (some .boolean) rmX6_hasThere 7) {q : (Int × WS)} (hE : EndI G E q) {i : Nat} {j : Nat} (hi : isX6 i) (hj : isX6 j) : ∀ (n : Nat) (a1 a2 a4 a5 a6 : Int) (w : WS), f_X6_hasThere_11 i j  n a1 a2 a4 a5 a6 w = some q → VV G E 0 0 11 [(0, gr G i), (1, vi a1), (2, vi a2), (3, gr G j), (4, vi a4), (5, vi a5), (6, vi a6)] [] w := by
  intro n
  induction n with
  | zero => intro a1 a2 a4 a5 a6 w hf; cases hf
  | succ n ih =>
    intro a1 a2 a4 a5 a6 w hf
    rw [f_X6_hasThere_11_s] at hf
    refine V_iload X dX6_hasThere_11 rfl ?_
    refine V_iload X dX6_hasThere_13 rfl ?_
    refine V_icmp_ge X (tgt := 46) dX6_hasThere_15 (by decide) hf (fun hf => ?_) (fun hf => ?_)
    · refine V_gload_n X dX6_hasThere_18 rfl rfl ?_
      refine V_iload_n X dX6_hasThere_19 rfl rfl ?_
      refine V_iload_n X dX6_hasThere_20 rfl rfl ?_
      refine V_iload X dX6_hasThere_21 rfl ?_
      refine V_iadd X dX6_hasThere_23 ?_
      refine V_cVI X hf [vi a1, vi (a2 + a6)] _ 2 (fun _ h => m_X6_sign hi h) (ob_X6 hi) rfl tw_488 tw_87 tw_972 tw_486 tw_487 dX6_hasThere_24 ⟨by decide +kernel, by decide +kernel, by decide +kernel⟩ ⟨rfl, rfl⟩ ⟨Nat.le_of_ble_eq_true rfl, Nat.le_of_ble_eq_true rfl⟩ rfl (Nat.le_of_ble_eq_true rfl) ⟨Nat.zero_le _, Nat.zero_le _⟩ (fun r2 w2 hf => ?_)
      refine V_gload_n X dX6_hasThere_27 rfl rfl ?_
      refine V_iload X dX6_hasThere_28 rfl ?_
      refine V_iload X dX6_hasThere_30 rfl ?_
      refine V_cVI X hf [vi a4, vi a6] _ 2 (fun _ h => m_X6_sign hj h) (ob_X6 hj) rfl tw_488 tw_87 tw_972 tw_486 tw_487 dX6_hasThere_32 ⟨by decide +kernel, by decide +kernel, by decide +kernel⟩ ⟨rfl, rfl⟩ ⟨Nat.le_of_ble_eq_true rfl, Nat.le_of_ble_eq_true rfl⟩ rfl (Nat.le_of_ble_eq_true rfl) ⟨Nat.zero_le _, Nat.zero_le _⟩ (fun r3 w3 hf => ?_)
      refine V_icmp_eq X (tgt := 40) dX6_hasThere_35 (by decide) hf (fun hf => ?_) (fun hf => ?_)
      · refine V_iinc X dX6_hasThere_40 rfl (by decide) ?_
        refine V_goto X (tgt := 11) dX6_hasThere_43 (by decide) ?_
        exact V_cut [0, 1, 2, 3, 4, 5, 6] rfl (ih _ _ _ _ _ _ hf)
      · refine V_iconst X dX6_hasThere_38 ?_
        exact V_zret X hE dX6_hasThere_39 (Or.inl rfl) hf
    · refine V_iconst X dX6_hasThere_46 ?_
      exact V_zret X hE dX6_hasThere_47 (Or.inr rfl) hf
set_option maxRecDepth 20000 in
theorem m_X6_hasThere {G : GG} {i : Nat} {a1 : Int} {a2 : Int} {j : Nat} {a4 : Int} {w : WS} {q : (Int × WS)} (hi : isX6 i) (hj : isX6 j) (hf : f_X6_hasThere i a1 a2 j a4 w = some q) : MI G yX6_hasThere cX6_hasThere 7 (some .boolean) rmX6_hasThere [gr G i, vi a1, vi a2, gr G j, vi a4] w q := by
  refine MI_of (by decide +kernel) (Nat.le_of_ble_eq_true rfl) (fun E X hE => ?_)
  have X : Cx G E cX6_hasThere RX6 (some .boolean) rmX6_hasThere 7 := X
  unfold f_X6_hasThere at hf
  refine V_gload_n X dX6_hasThere_0 rfl rfl ?_
  refine V_iload X dX6_hasThere_1 rfl ?_
  refine V_cVI X hf [vi a4] _ 1 (fun _ h => m_X6_length hj h) (ob_X6 hj) rfl tw_466 tw_87 tw_637 tw_464 tw_465 dX6_hasThere_3 ⟨by decide +kernel, by decide +kernel, by decide +kernel⟩ ⟨rfl, rfl⟩ ⟨Nat.le_of_ble_eq_true rfl, Nat.le_of_ble_eq_true rfl⟩ rfl (Nat.le_of_ble_eq_true rfl) ⟨Nat.zero_le _, Nat.zero_le _⟩ (fun r1 w1 hf => ?_)
  refine V_istore X dX6_hasThere_6 (by decide) ?_
  refine V_iconst X dX6_hasThere_8 ?_
  refine V_istore X dX6_hasThere_9 (by decide) ?_
  exact V_cut [0, 1, 2, 3, 4, 5, 6] rfl (v_X6_hasThere_11 X hE hi hj FU _ _ _ _ _ _ hf)
abbrev rmX6_contains : Room := { frames := 0, cells := 0, slots := 0, locals := 0 }
set_option maxRecDepth 20000 in
theorem v_X6_contains_25 {G : GG} {E : EE} (X : Cx G E cX6_contains RX6 (some .boolean) rmX6_contains 6) {q : (Int × WS)} (hE : EndI G E q) {i : Nat} (hi : isX6 i) : ∀ (n : Nat) (a1 a2 a3 a4 : Int) (w : WS), f_X6_contains_25 i  n a1 a2 a3 a4 w = some q → VV G E 0 0 25 [(0, gr G i), (1, vi a1), (2, vi a2), (3, vi a3), (4, vi a4)] [] w := by
  intro n
  induction n with
  | zero => intro a1 a2 a3 a4 w hf; cases hf
  | succ n ih =>
    intro a1 a2 a3 a4 w hf
    rw [f_X6_contains_25_s] at hf
    refine V_iload X dX6_contains_25 rfl ?_
    refine V_gload_n X dX6_contains_27 rfl rfl ?_
    refine V_getr X (ob_X6 hi) rfl rfl hin_X6 2 (Nat.le_of_ble_eq_true rfl) tw_128 (rr_X6_2 hi) dX6_contains_28 ?_
    refine V_iload_n X dX6_contains_31 rfl rfl ?_
    refine V_iald X (ar_X6_2 hi) dX6_contains_32 hf (fun hf => ?_)
    refine V_icmp_ge X (tgt := 76) dX6_contains_33 (by decide) hf (fun hf => ?_) (fun hf => ?_)
    · refine V_iload_n X dX6_contains_36 rfl rfl ?_
      refine V_iload X dX6_contains_37 rfl ?_
      refine V_iadd X dX6_contains_39 ?_
      refine V_istore X dX6_contains_40 (by decide) ?_
      refine V_iload X dX6_contains_42 rfl ?_
      refine V_if_lt X (tgt := 70) dX6_contains_44 (by decide) hf (fun hf => ?_) (fun hf => ?_)
      · refine V_iinc X dX6_contains_70 rfl (by decide) ?_
        refine V_goto X (tgt := 25) dX6_contains_73 (by decide) ?_
        exact V_cut [0, 1, 2, 3, 4] rfl (ih _ _ _ _ _ hf)
      · refine V_iload X dX6_contains_47 rfl ?_
        refine V_gload_n X dX6_contains_49 rfl rfl ?_
        refine V_getr X (ob_X6 hi) rfl rfl hin_X6 1 (Nat.le_of_ble_eq_true rfl) tw_127 (rr_X6_1 hi) dX6_contains_50 ?_
        refine V_alen X (ar_X6_1 hi) (by decide) dX6_contains_53 ?_
        refine V_icmp_ge X (tgt := 70) dX6_contains_54 (by decide) hf (fun hf => ?_) (fun hf => ?_)
        · refine V_gload_n X dX6_contains_57 rfl rfl ?_
          refine V_getr X (ob_X6 hi) rfl rfl hin_X6 1 (Nat.le_of_ble_eq_true rfl) tw_127 (rr_X6_1 hi) dX6_contains_58 ?_
          refine V_iload X dX6_contains_61 rfl ?_
          refine V_iald X (ar_X6_1 hi) dX6_contains_63 hf (fun hf => ?_)
          refine V_iload_n X dX6_contains_64 rfl rfl ?_
          refine V_icmp_ne X (tgt := 70) dX6_contains_65 (by decide) hf (fun hf => ?_) (fun hf => ?_)
          · refine V_iconst X dX6_contains_68 ?_
            exact V_zret X hE dX6_contains_69 (Or.inr rfl) hf
          · refine V_iinc X dX6_contains_70 rfl (by decide) ?_
            refine V_goto X (tgt := 25) dX6_contains_73 (by decide) ?_
            exact V_cut [0, 1, 2, 3, 4] rfl (ih _ _ _ _ _ hf)
        · refine V_iinc X dX6_contains_70 rfl (by decide) ?_
          refine V_goto X (tgt := 25) dX6_contains_73 (by decide) ?_
          exact V_cut [0, 1, 2, 3, 4] rfl (ih _ _ _ _ _ hf)
    · refine V_iconst X dX6_contains_76 ?_
      exact V_zret X hE dX6_contains_77 (Or.inl rfl) hf
set_option maxRecDepth 20000 in
theorem m_X6_contains {G : GG} {i : Nat} {a1 : Int} {a2 : Int} {w : WS} {q : (Int × WS)} (hi : isX6 i) (hf : f_X6_contains i a1 a2 w = some q) : MI G yX6_contains cX6_contains 6 (some .boolean) rmX6_contains [gr G i, vi a1, vi a2] w q := by
  refine MI_of (by decide +kernel) (Nat.le_of_ble_eq_true rfl) (fun E X hE => ?_)
  have X : Cx G E cX6_contains RX6 (some .boolean) rmX6_contains 6 := X
  unfold f_X6_contains at hf
  refine V_iload_n X dX6_contains_0 rfl rfl ?_
  refine V_if_lt X (tgt := 13) dX6_contains_1 (by decide) hf (fun hf => ?_) (fun hf => ?_)
  · refine V_iconst X dX6_contains_13 ?_
    exact V_zret X hE dX6_contains_14 (Or.inl rfl) hf
  · refine V_iload_n X dX6_contains_4 rfl rfl ?_
    refine V_gload_n X dX6_contains_5 rfl rfl ?_
    refine V_getr X (ob_X6 hi) rfl rfl hin_X6 2 (Nat.le_of_ble_eq_true rfl) tw_128 (rr_X6_2 hi) dX6_contains_6 ?_
    refine V_alen X (ar_X6_2 hi) (by decide) dX6_contains_9 ?_
    refine V_icmp_lt X (tgt := 15) dX6_contains_10 (by decide) hf (fun hf => ?_) (fun hf => ?_)
    · refine V_iload_n X dX6_contains_15 rfl rfl ?_
      refine V_gload_n X dX6_contains_16 rfl rfl ?_
      refine V_getc X (ob_X6 hi) rfl rfl hin_X6 0 (Nat.le_of_ble_eq_true rfl) tw_126 (rc_X6_0 hi) dX6_contains_17 ?_
      refine V_imul X dX6_contains_20 ?_
      refine V_istore_n X dX6_contains_21 rfl (by decide) ?_
      refine V_iconst X dX6_contains_22 ?_
      refine V_istore X dX6_contains_23 (by decide) ?_
      exact V_cut [0, 1, 2, 3, 4] rfl (v_X6_contains_25 X hE hi FU _ _ _ _ _ hf)
    · refine V_iconst X dX6_contains_13 ?_
      exact V_zret X hE dX6_contains_14 (Or.inl rfl) hf
abbrev rmX6_appendAll : Room := { frames := 1, cells := 0, slots := 0, locals := 31 }
set_option maxRecDepth 20000 in
theorem m_X6_appendAll {G : GG} {i : Nat} {a1 : Int} {j : Nat} {a3 : Int} {w : WS} {q : (Int × WS)} (hi : isX6 i) (hj : isX6 j) (hf : f_X6_appendAll i a1 j a3 w = some q) : MI G yX6_appendAll cX6_appendAll 4 (some .boolean) rmX6_appendAll [gr G i, vi a1, gr G j, vi a3] w q := by
  refine MI_of (by decide +kernel) (Nat.le_of_ble_eq_true rfl) (fun E X hE => ?_)
  have X : Cx G E cX6_appendAll RX6 (some .boolean) rmX6_appendAll 4 := X
  unfold f_X6_appendAll at hf
  refine V_gload_n X dX6_appendAll_0 rfl rfl ?_
  refine V_iload_n X dX6_appendAll_1 rfl rfl ?_
  refine V_gload_n X dX6_appendAll_2 rfl rfl ?_
  refine V_iload_n X dX6_appendAll_3 rfl rfl ?_
  refine V_iconst X dX6_appendAll_4 ?_
  refine V_gload_n X dX6_appendAll_5 rfl rfl ?_
  refine V_iload_n X dX6_appendAll_6 rfl rfl ?_
  refine V_cVI X hf [vi a3] _ 1 (fun _ h => m_X6_length hj h) (ob_X6 hj) rfl tw_466 tw_87 tw_637 tw_464 tw_465 dX6_appendAll_7 ⟨by decide +kernel, by decide +kernel, by decide +kernel⟩ ⟨rfl, rfl⟩ ⟨Nat.le_of_ble_eq_true rfl, Nat.le_of_ble_eq_true rfl⟩ rfl (Nat.le_of_ble_eq_true rfl) ⟨Nat.zero_le _, Nat.zero_le _⟩ (fun r1 w1 hf => ?_)
  refine V_cVI X hf [vi a1, gr G j, vi a3, vi 0, vi r1] _ 5 (fun _ h => m_X6_append hi hj h) (ob_X6 hi) rfl tw_641 tw_87 tw_638 tw_639 tw_640 dX6_appendAll_10 ⟨by decide +kernel, by decide +kernel, by decide +kernel⟩ ⟨rfl, rfl⟩ ⟨Nat.le_of_ble_eq_true rfl, Nat.le_of_ble_eq_true rfl⟩ rfl (Nat.le_of_ble_eq_true rfl) ⟨Nat.zero_le _, Nat.zero_le _⟩ (fun r2 w2 hf => ?_)
  obtain ⟨hz, hf⟩ := ite_n hf
  exact V_zret X hE dX6_appendAll_13 hz hf
abbrev rmX6_readNumber : Room := { frames := 1, cells := 0, slots := 0, locals := 23 }
set_option maxRecDepth 20000 in
theorem v_X6_readNumber_46 {G : GG} {E : EE} (X : Cx G E cX6_readNumber RX6 (some .long) rmX6_readNumber 8) {q : (Int × WS)} (hE : EndL G E q) {i : Nat} (hi : isX6 i) : ∀ (n : Nat) (a1 a2 a3 a4 a6 : Int) (w : WS), f_X6_readNumber_46 i  n a1 a2 a3 a4 a6 w = some q → VV G E 0 0 46 [(0, gr G i), (1, vi a1), (2, vi a2), (3, vi a3), (4, vl a4), (6, vi a6)] [] w := by
  intro n
  induction n with
  | zero => intro a1 a2 a3 a4 a6 w hf; cases hf
  | succ n ih =>
    intro a1 a2 a3 a4 a6 w hf
    rw [f_X6_readNumber_46_s] at hf
    refine V_iload X dX6_readNumber_46 rfl ?_
    refine V_iload_n X dX6_readNumber_48 rfl rfl ?_
    refine V_icmp_ge X (tgt := 98) dX6_readNumber_49 (by decide) hf (fun hf => ?_) (fun hf => ?_)
    · refine V_gload_n X dX6_readNumber_52 rfl rfl ?_
      refine V_iload_n X dX6_readNumber_53 rfl rfl ?_
      refine V_iload X dX6_readNumber_54 rfl ?_
      refine V_cVI X hf [vi a1, vi a6] _ 2 (fun _ h => m_X6_sign hi h) (ob_X6 hi) rfl tw_488 tw_87 tw_972 tw_486 tw_487 dX6_readNumber_56 ⟨by decide +kernel, by decide +kernel, by decide +kernel⟩ ⟨rfl, rfl⟩ ⟨Nat.le_of_ble_eq_true rfl, Nat.le_of_ble_eq_true rfl⟩ rfl (Nat.le_of_ble_eq_true rfl) ⟨Nat.zero_le _, Nat.zero_le _⟩ (fun r3 w3 hf => ?_)
      refine V_bipush X dX6_readNumber_59 (by decide) ?_
      refine V_isub X dX6_readNumber_61 ?_
      refine V_istore X dX6_readNumber_62 (by decide) ?_
      refine V_iload X dX6_readNumber_64 rfl ?_
      refine V_if_lt X (tgt := 76) dX6_readNumber_66 (by decide) hf (fun hf => ?_) (fun hf => ?_)
      · refine V_ldc2 (a := (-9223372036854775808)) X tw_973 dX6_readNumber_76 (by decide) ?_
        exact V_lret X hE dX6_readNumber_79 hf
      · refine V_iload X dX6_readNumber_69 rfl ?_
        refine V_bipush X dX6_readNumber_71 (by decide) ?_
        refine V_icmp_le X (tgt := 80) dX6_readNumber_73 (by decide) hf (fun hf => ?_) (fun hf => ?_)
        · refine V_ldc2 (a := (-9223372036854775808)) X tw_973 dX6_readNumber_76 (by decide) ?_
          exact V_lret X hE dX6_readNumber_79 hf
        · refine V_ldc2 (a := 10) X tw_974 dX6_readNumber_80 (by decide) ?_
          refine V_lload X dX6_readNumber_83 rfl ?_
          refine V_lmul X dX6_readNumber_85 ?_
          refine V_iload X dX6_readNumber_86 rfl ?_
          refine V_i2l X dX6_readNumber_88 ?_
          refine V_ladd X dX6_readNumber_89 ?_
          refine V_lstore X dX6_readNumber_90 (by decide) ?_
          refine V_iinc X dX6_readNumber_92 rfl (by decide) ?_
          refine V_goto X (tgt := 46) dX6_readNumber_95 (by decide) ?_
          exact V_cut [0, 1, 2, 3, 4, 6] rfl (ih _ _ _ _ _ _ hf)
    · refine V_iload_n X dX6_readNumber_98 rfl rfl ?_
      refine V_iconst X dX6_readNumber_99 ?_
      refine V_icmp_ne X (tgt := 109) dX6_readNumber_100 (by decide) hf (fun hf => ?_) (fun hf => ?_)
      · refine V_lload X dX6_readNumber_103 rfl ?_
        refine V_lneg X dX6_readNumber_105 ?_
        refine V_goto X (tgt := 111) dX6_readNumber_106 (by decide) ?_
        exact V_lret X hE dX6_readNumber_111 hf
      · refine V_lload X dX6_readNumber_109 rfl ?_
        exact V_lret X hE dX6_readNumber_111 hf
set_option maxRecDepth 20000 in
theorem v_X6_readNumber_16 {G : GG} {E : EE} (X : Cx G E cX6_readNumber RX6 (some .long) rmX6_readNumber 8) {q : (Int × WS)} (hE : EndL G E q) {i : Nat} (hi : isX6 i) {a1 s0 : Int} {w : WS} (hf : f_X6_readNumber_16 i  a1 s0 w = some q) : VV G E 0 0 16 [(0, gr G i), (1, vi a1)] [vi s0] w := by
  unfold f_X6_readNumber_16 at hf
  refine V_istore_n X dX6_readNumber_16 rfl (by decide) ?_
  refine V_gload_n X dX6_readNumber_17 rfl rfl ?_
  refine V_iload_n X dX6_readNumber_18 rfl rfl ?_
  refine V_cVI X hf [vi a1] _ 1 (fun _ h => m_X6_length hi h) (ob_X6 hi) rfl tw_466 tw_87 tw_637 tw_464 tw_465 dX6_readNumber_19 ⟨by decide +kernel, by decide +kernel, by decide +kernel⟩ ⟨rfl, rfl⟩ ⟨Nat.le_of_ble_eq_true rfl, Nat.le_of_ble_eq_true rfl⟩ rfl (Nat.le_of_ble_eq_true rfl) ⟨Nat.zero_le _, Nat.zero_le _⟩ (fun r2 w2 hf => ?_)
  refine V_istore_n X dX6_readNumber_22 rfl (by decide) ?_
  refine V_iload_n X dX6_readNumber_23 rfl rfl ?_
  refine V_iload_n X dX6_readNumber_24 rfl rfl ?_
  refine V_icmp_eq X (tgt := 36) dX6_readNumber_25 (by decide) hf (fun hf => ?_) (fun hf => ?_)
  · refine V_ldc2 (a := (-9223372036854775808)) X tw_973 dX6_readNumber_36 (by decide) ?_
    exact V_lret X hE dX6_readNumber_39 hf
  · refine V_iload_n X dX6_readNumber_28 rfl rfl ?_
    refine V_iload_n X dX6_readNumber_29 rfl rfl ?_
    refine V_bipush X dX6_readNumber_30 (by decide) ?_
    refine V_iadd X dX6_readNumber_32 ?_
    refine V_icmp_le X (tgt := 40) dX6_readNumber_33 (by decide) hf (fun hf => ?_) (fun hf => ?_)
    · refine V_ldc2 (a := (-9223372036854775808)) X tw_973 dX6_readNumber_36 (by decide) ?_
      exact V_lret X hE dX6_readNumber_39 hf
    · refine V_lconst (a := 0) X dX6_readNumber_40 (by decide) ?_
      refine V_lstore X dX6_readNumber_41 (by decide) ?_
      refine V_iload_n X dX6_readNumber_43 rfl rfl ?_
      refine V_istore X dX6_readNumber_44 (by decide) ?_
      exact V_cut [0, 1, 2, 3, 4, 6] rfl (v_X6_readNumber_46 X hE hi FU _ _ _ _ _ _ hf)
set_option maxRecDepth 20000 in
theorem m_X6_readNumber {G : GG} {i : Nat} {a1 : Int} {w : WS} {q : (Int × WS)} (hi : isX6 i) (hf : f_X6_readNumber i a1 w = some q) : ML G yX6_readNumber cX6_readNumber 8 (some .long) rmX6_readNumber [gr G i, vi a1] w q := by
  refine ML_of (by decide +kernel) (Nat.le_of_ble_eq_true rfl) (fun E X hE => ?_)
  have X : Cx G E cX6_readNumber RX6 (some .long) rmX6_readNumber 8 := X
  unfold f_X6_readNumber at hf
  refine V_gload_n X dX6_readNumber_0 rfl rfl ?_
  refine V_iload_n X dX6_readNumber_1 rfl rfl ?_
  refine V_iconst X dX6_readNumber_2 ?_
  refine V_cVI X hf [vi a1, vi 0] _ 2 (fun _ h => m_X6_sign hi h) (ob_X6 hi) rfl tw_488 tw_87 tw_972 tw_486 tw_487 dX6_readNumber_3 ⟨by decide +kernel, by decide +kernel, by decide +kernel⟩ ⟨rfl, rfl⟩ ⟨Nat.le_of_ble_eq_true rfl, Nat.le_of_ble_eq_true rfl⟩ rfl (Nat.le_of_ble_eq_true rfl) ⟨Nat.zero_le _, Nat.zero_le _⟩ (fun r1 w1 hf => ?_)
  refine V_bipush X dX6_readNumber_6 (by decide) ?_
  refine V_icmp_ne X (tgt := 15) dX6_readNumber_8 (by decide) hf (fun hf => ?_) (fun hf => ?_)
  · refine V_iconst X dX6_readNumber_11 ?_
    refine V_goto X (tgt := 16) dX6_readNumber_12 (by decide) ?_
    exact V_cut [0, 1] rfl (v_X6_readNumber_16 X hE hi hf)
  · refine V_iconst X dX6_readNumber_15 ?_
    exact V_cut [0, 1] rfl (v_X6_readNumber_16 X hE hi hf)
abbrev rmX6_holds : Room := { frames := 0, cells := 0, slots := 0, locals := 0 }
set_option maxRecDepth 20000 in
theorem m_X6_holds {G : GG} {i : Nat} {a1 : Int} {a2 : Int} {w : WS} {q : (Int × WS)} (hi : isX6 i) (hf : f_X6_holds i a1 a2 w = some q) : MI G yX6_holds cX6_holds 3 (some .boolean) rmX6_holds [gr G i, vi a1, vi a2] w q := by
  refine MI_of (by decide +kernel) (Nat.le_of_ble_eq_true rfl) (fun E X hE => ?_)
  have X : Cx G E cX6_holds RX6 (some .boolean) rmX6_holds 3 := X
  unfold f_X6_holds at hf
  refine V_iload_n X dX6_holds_0 rfl rfl ?_
  refine V_if_lt X (tgt := 31) dX6_holds_1 (by decide) hf (fun hf => ?_) (fun hf => ?_)
  · refine V_iconst X dX6_holds_31 ?_
    exact V_zret X hE dX6_holds_32 (Or.inl rfl) hf
  · refine V_iload_n X dX6_holds_4 rfl rfl ?_
    refine V_gload_n X dX6_holds_5 rfl rfl ?_
    refine V_getr X (ob_X6 hi) rfl rfl hin_X6 2 (Nat.le_of_ble_eq_true rfl) tw_128 (rr_X6_2 hi) dX6_holds_6 ?_
    refine V_alen X (ar_X6_2 hi) (by decide) dX6_holds_9 ?_
    refine V_icmp_ge X (tgt := 31) dX6_holds_10 (by decide) hf (fun hf => ?_) (fun hf => ?_)
    · refine V_iload_n X dX6_holds_13 rfl rfl ?_
      refine V_if_lt X (tgt := 31) dX6_holds_14 (by decide) hf (fun hf => ?_) (fun hf => ?_)
      · refine V_iconst X dX6_holds_31 ?_
        exact V_zret X hE dX6_holds_32 (Or.inl rfl) hf
      · refine V_iload_n X dX6_holds_17 rfl rfl ?_
        refine V_gload_n X dX6_holds_18 rfl rfl ?_
        refine V_getr X (ob_X6 hi) rfl rfl hin_X6 2 (Nat.le_of_ble_eq_true rfl) tw_128 (rr_X6_2 hi) dX6_holds_19 ?_
        refine V_iload_n X dX6_holds_22 rfl rfl ?_
        refine V_iald X (ar_X6_2 hi) dX6_holds_23 hf (fun hf => ?_)
        refine V_icmp_ge X (tgt := 31) dX6_holds_24 (by decide) hf (fun hf => ?_) (fun hf => ?_)
        · refine V_iconst X dX6_holds_27 ?_
          refine V_goto X (tgt := 32) dX6_holds_28 (by decide) ?_
          exact V_zret X hE dX6_holds_32 (Or.inr rfl) hf
        · refine V_iconst X dX6_holds_31 ?_
          exact V_zret X hE dX6_holds_32 (Or.inl rfl) hf
    · refine V_iconst X dX6_holds_31 ?_
      exact V_zret X hE dX6_holds_32 (Or.inl rfl) hf
abbrev rmX0_isFull : Room := { frames := 0, cells := 0, slots := 0, locals := 0 }
set_option maxRecDepth 20000 in
theorem m_X0_isFull {G : GG} {i : Nat} {w : WS} {q : (Int × WS)} (hi : isX0 i) (hf : f_X0_isFull i w = some q) : MI G yX0_isFull cX0_isFull 1 (some .boolean) rmX0_isFull [gr G i] w q := by
  refine MI_of (by decide +kernel) (Nat.le_of_ble_eq_true rfl) (fun E X hE => ?_)
  have X : Cx G E cX0_isFull RX0 (some .boolean) rmX0_isFull 1 := X
  unfold f_X0_isFull at hf
  refine V_gload_n X dX0_isFull_0 rfl rfl ?_
  refine V_geti X (ob_X0 hi) rfl rfl hin_X0 4 (Nat.le_of_ble_eq_true rfl) tw_163 (ri_X0_4 hi) dX0_isFull_1 ?_
  refine V_gload_n X dX0_isFull_4 rfl rfl ?_
  refine V_getc X (ob_X0 hi) rfl rfl hin_X0 0 (Nat.le_of_ble_eq_true rfl) tw_153 (rc_X0_0 hi) dX0_isFull_5 ?_
  refine V_icmp_lt X (tgt := 15) dX0_isFull_8 (by decide) hf (fun hf => ?_) (fun hf => ?_)
  · refine V_iconst X dX0_isFull_15 ?_
    exact V_zret X hE dX0_isFull_16 (Or.inl rfl) hf
  · refine V_iconst X dX0_isFull_11 ?_
    refine V_goto X (tgt := 16) dX0_isFull_12 (by decide) ?_
    exact V_zret X hE dX0_isFull_16 (Or.inr rfl) hf
abbrev rmX0_add : Room := { frames := 1, cells := 0, slots := 0, locals := 22 }
set_option maxRecDepth 20000 in
theorem m_X0_add {G : GG} {i : Nat} {a1 : Int} {a2 : Int} {a3 : Int} {w : WS} {q : (Int × WS)} (hi : isX0 i) (hf : f_X0_add i a1 a2 a3 w = some q) : MI G yX0_add cX0_add 5 (some .int) rmX0_add [gr G i, vi a1, vi a2, vi a3] w q := by
  refine MI_of (by decide +kernel) (Nat.le_of_ble_eq_true rfl) (fun E X hE => ?_)
  have X : Cx G E cX0_add RX0 (some .int) rmX0_add 5 := X
  unfold f_X0_add at hf
  refine V_gload_n X dX0_add_0 rfl rfl ?_
  refine V_geti X (ob_X0 hi) rfl rfl hin_X0 4 (Nat.le_of_ble_eq_true rfl) tw_163 (ri_X0_4 hi) dX0_add_1 ?_
  refine V_istore X dX0_add_4 (by decide) ?_
  refine V_gload_n X dX0_add_6 rfl rfl ?_
  refine V_getr X (ob_X0 hi) rfl rfl hin_X0 1 (Nat.le_of_ble_eq_true rfl) tw_154 (rr_X0_1 hi) dX0_add_7 ?_
  refine V_iload X dX0_add_10 rfl ?_
  refine V_iload_n X dX0_add_12 rfl rfl ?_
  refine V_cVV X hf [vi (w i 4), vi a1] _ 2 (fun _ h => m_X1_put (is_X0_1 hi) h) (ob_X1 (is_X0_1 hi)) rfl tw_839 tw_89 tw_836 tw_837 tw_838 dX0_add_13 ⟨by decide +kernel, by decide +kernel, by decide +kernel⟩ ⟨rfl, rfl⟩ ⟨Nat.le_of_ble_eq_true rfl, Nat.le_of_ble_eq_true rfl⟩ rfl (Nat.le_of_ble_eq_true rfl) ⟨Nat.zero_le _, Nat.zero_le _⟩ (fun r1 w1 hf => ?_)
  refine V_gload_n X dX0_add_16 rfl rfl ?_
  refine V_getr X (ob_X0 hi) rfl rfl hin_X0 2 (Nat.le_of_ble_eq_true rfl) tw_157 (rr_X0_2 hi) dX0_add_17 ?_
  refine V_iload X dX0_add_20 rfl ?_
  refine V_iload_n X dX0_add_22 rfl rfl ?_
  refine V_cVV X hf [vi (w i 4), vi a2] _ 2 (fun _ h => m_X1_put (is_X0_3 hi) h) (ob_X1 (is_X0_3 hi)) rfl tw_839 tw_89 tw_836 tw_837 tw_838 dX0_add_23 ⟨by decide +kernel, by decide +kernel, by decide +kernel⟩ ⟨rfl, rfl⟩ ⟨Nat.le_of_ble_eq_true rfl, Nat.le_of_ble_eq_true rfl⟩ rfl (Nat.le_of_ble_eq_true rfl) ⟨Nat.zero_le _, Nat.zero_le _⟩ (fun r2 w2 hf => ?_)
  refine V_gload_n X dX0_add_26 rfl rfl ?_
  refine V_getr X (ob_X0 hi) rfl rfl hin_X0 3 (Nat.le_of_ble_eq_true rfl) tw_160 (rr_X0_3 hi) dX0_add_27 ?_
  refine V_iload X dX0_add_30 rfl ?_
  refine V_iload_n X dX0_add_32 rfl rfl ?_
  refine V_cVV X hf [vi (w i 4), vi a3] _ 2 (fun _ h => m_X1_put (is_X0_5 hi) h) (ob_X1 (is_X0_5 hi)) rfl tw_839 tw_89 tw_836 tw_837 tw_838 dX0_add_33 ⟨by decide +kernel, by decide +kernel, by decide +kernel⟩ ⟨rfl, rfl⟩ ⟨Nat.le_of_ble_eq_true rfl, Nat.le_of_ble_eq_true rfl⟩ rfl (Nat.le_of_ble_eq_true rfl) ⟨Nat.zero_le _, Nat.zero_le _⟩ (fun r3 w3 hf => ?_)
  refine V_gload_n X dX0_add_36 rfl rfl ?_
  refine V_dup X dX0_add_37 rfl ?_
  refine V_geti X (ob_X0 hi) rfl rfl hin_X0 4 (Nat.le_of_ble_eq_true rfl) tw_163 (ri_X0_4 hi) dX0_add_38 ?_
  refine V_iconst X dX0_add_41 ?_
  refine V_iadd X dX0_add_42 ?_
  refine V_puti X (ob_X0 hi) rfl rfl hin_X0 4 (Nat.le_of_ble_eq_true rfl) tw_163 tyX0 tyX0_ok nmX0 rfl (by decide +kernel) (ri_X0_4 hi) dX0_add_43 ?_
  refine V_iload X dX0_add_46 rfl ?_
  exact V_iret X hE dX0_add_48 hf
abbrev rmX4_isWay : Room := { frames := 0, cells := 0, slots := 0, locals := 0 }
set_option maxRecDepth 20000 in
theorem m_X4_isWay {G : GG} {a0 : Int} {w : WS} {q : (Int × WS)}  (hf : f_X4_isWay a0 w = some q) : MI G yX4_isWay cX4_isWay 1 (some .boolean) rmX4_isWay [vi a0] w q := by
  refine MI_of (by decide +kernel) (Nat.le_of_ble_eq_true rfl) (fun E X hE => ?_)
  have X : Cx G E cX4_isWay RX4 (some .boolean) rmX4_isWay 1 := X
  unfold f_X4_isWay at hf
  refine V_iload_n X dX4_isWay_0 rfl rfl ?_
  refine V_bipush X dX4_isWay_1 (by decide) ?_
  refine V_icmp_lt X (tgt := 16) dX4_isWay_3 (by decide) hf (fun hf => ?_) (fun hf => ?_)
  · refine V_iconst X dX4_isWay_16 ?_
    exact V_zret X hE dX4_isWay_17 (Or.inl rfl) hf
  · refine V_iload_n X dX4_isWay_6 rfl rfl ?_
    refine V_bipush X dX4_isWay_7 (by decide) ?_
    refine V_icmp_ge X (tgt := 16) dX4_isWay_9 (by decide) hf (fun hf => ?_) (fun hf => ?_)
    · refine V_iconst X dX4_isWay_12 ?_
      refine V_goto X (tgt := 17) dX4_isWay_13 (by decide) ?_
      exact V_zret X hE dX4_isWay_17 (Or.inr rfl) hf
    · refine V_iconst X dX4_isWay_16 ?_
      exact V_zret X hE dX4_isWay_17 (Or.inl rfl) hf
abbrev rmX4_add : Room := { frames := 1, cells := 0, slots := 0, locals := 22 }
set_option maxRecDepth 20000 in
theorem m_X4_add {G : GG} {a1 : Int} {a2 : Int} {a3 : Int} {a4 : Int} {a5 : Int} {a6 : Int} {w : WS} {q : (Int × WS)}  (hf : f_X4_add a1 a2 a3 a4 a5 a6 w = some q) : MI G yX4_add cX4_add 8 (some .int) rmX4_add [gr G 57, vi a1, vi a2, vi a3, vi a4, vi a5, vi a6] w q := by
  refine MI_of (by decide +kernel) (Nat.le_of_ble_eq_true rfl) (fun E X hE => ?_)
  have X : Cx G E cX4_add RX4 (some .int) rmX4_add 8 := X
  unfold f_X4_add at hf
  refine V_gload_n X dX4_add_0 rfl rfl ?_
  refine V_geti X ob_57 rfl rfl hin_X4 6 (Nat.le_of_ble_eq_true rfl) tw_306 rfl dX4_add_1 ?_
  refine V_istore X dX4_add_4 (by decide) ?_
  refine V_gload_n X dX4_add_6 rfl rfl ?_
  refine V_getr X ob_57 rfl rfl hin_X4 0 (Nat.le_of_ble_eq_true rfl) tw_294 rfl dX4_add_7 ?_
  refine V_iload X dX4_add_10 rfl ?_
  refine V_iload_n X dX4_add_12 rfl rfl ?_
  refine V_cVV X hf [vi (w 57 6), vi a1] _ 2 (fun _ h => m_X1_put is_58 h) ob_58 rfl tw_839 tw_89 tw_883 tw_837 tw_838 dX4_add_13 ⟨by decide +kernel, by decide +kernel, by decide +kernel⟩ ⟨rfl, rfl⟩ ⟨Nat.le_of_ble_eq_true rfl, Nat.le_of_ble_eq_true rfl⟩ rfl (Nat.le_of_ble_eq_true rfl) ⟨Nat.zero_le _, Nat.zero_le _⟩ (fun r1 w1 hf => ?_)
  refine V_gload_n X dX4_add_16 rfl rfl ?_
  refine V_getr X ob_57 rfl rfl hin_X4 1 (Nat.le_of_ble_eq_true rfl) tw_296 rfl dX4_add_17 ?_
  refine V_iload X dX4_add_20 rfl ?_
  refine V_iload_n X dX4_add_22 rfl rfl ?_
  refine V_cVV X hf [vi (w 57 6), vi a2] _ 2 (fun _ h => m_X1_put is_60 h) ob_60 rfl tw_839 tw_89 tw_883 tw_837 tw_838 dX4_add_23 ⟨by decide +kernel, by decide +kernel, by decide +kernel⟩ ⟨rfl, rfl⟩ ⟨Nat.le_of_ble_eq_true rfl, Nat.le_of_ble_eq_true rfl⟩ rfl (Nat.le_of_ble_eq_true rfl) ⟨Nat.zero_le _, Nat.zero_le _⟩ (fun r2 w2 hf => ?_)
  refine V_gload_n X dX4_add_26 rfl rfl ?_
  refine V_getr X ob_57 rfl rfl hin_X4 2 (Nat.le_of_ble_eq_true rfl) tw_298 rfl dX4_add_27 ?_
  refine V_iload X dX4_add_30 rfl ?_
  refine V_iload_n X dX4_add_32 rfl rfl ?_
  refine V_cVV X hf [vi (w 57 6), vi a3] _ 2 (fun _ h => m_X1_put is_62 h) ob_62 rfl tw_839 tw_89 tw_883 tw_837 tw_838 dX4_add_33 ⟨by decide +kernel, by decide +kernel, by decide +kernel⟩ ⟨rfl, rfl⟩ ⟨Nat.le_of_ble_eq_true rfl, Nat.le_of_ble_eq_true rfl⟩ rfl (Nat.le_of_ble_eq_true rfl) ⟨Nat.zero_le _, Nat.zero_le _⟩ (fun r3 w3 hf => ?_)
  refine V_gload_n X dX4_add_36 rfl rfl ?_
  refine V_getr X ob_57 rfl rfl hin_X4 3 (Nat.le_of_ble_eq_true rfl) tw_300 rfl dX4_add_37 ?_
  refine V_iload X dX4_add_40 rfl ?_
  refine V_iload X dX4_add_42 rfl ?_
  refine V_cVV X hf [vi (w 57 6), vi a4] _ 2 (fun _ h => m_X1_put is_64 h) ob_64 rfl tw_839 tw_89 tw_883 tw_837 tw_838 dX4_add_44 ⟨by decide +kernel, by decide +kernel, by decide +kernel⟩ ⟨rfl, rfl⟩ ⟨Nat.le_of_ble_eq_true rfl, Nat.le_of_ble_eq_true rfl⟩ rfl (Nat.le_of_ble_eq_true rfl) ⟨Nat.zero_le _, Nat.zero_le _⟩ (fun r4 w4 hf => ?_)
  refine V_gload_n X dX4_add_47 rfl rfl ?_
  refine V_getr X ob_57 rfl rfl hin_X4 4 (Nat.le_of_ble_eq_true rfl) tw_302 rfl dX4_add_48 ?_
  refine V_iload X dX4_add_51 rfl ?_
  refine V_iload X dX4_add_53 rfl ?_
  refine V_cVV X hf [vi (w 57 6), vi a5] _ 2 (fun _ h => m_X1_put is_66 h) ob_66 rfl tw_839 tw_89 tw_883 tw_837 tw_838 dX4_add_55 ⟨by decide +kernel, by decide +kernel, by decide +kernel⟩ ⟨rfl, rfl⟩ ⟨Nat.le_of_ble_eq_true rfl, Nat.le_of_ble_eq_true rfl⟩ rfl (Nat.le_of_ble_eq_true rfl) ⟨Nat.zero_le _, Nat.zero_le _⟩ (fun r5 w5 hf => ?_)
  refine V_gload_n X dX4_add_58 rfl rfl ?_
  refine V_getr X ob_57 rfl rfl hin_X4 5 (Nat.le_of_ble_eq_true rfl) tw_304 rfl dX4_add_59 ?_
  refine V_iload X dX4_add_62 rfl ?_
  refine V_iload X dX4_add_64 rfl ?_
  refine V_cVV X hf [vi (w 57 6), vi a6] _ 2 (fun _ h => m_X1_put is_68 h) ob_68 rfl tw_839 tw_89 tw_883 tw_837 tw_838 dX4_add_66 ⟨by decide +kernel, by decide +kernel, by decide +kernel⟩ ⟨rfl, rfl⟩ ⟨Nat.le_of_ble_eq_true rfl, Nat.le_of_ble_eq_true rfl⟩ rfl (Nat.le_of_ble_eq_true rfl) ⟨Nat.zero_le _, Nat.zero_le _⟩ (fun r6 w6 hf => ?_)
  refine V_gload_n X dX4_add_69 rfl rfl ?_
  refine V_dup X dX4_add_70 rfl ?_
  refine V_geti X ob_57 rfl rfl hin_X4 6 (Nat.le_of_ble_eq_true rfl) tw_306 rfl dX4_add_71 ?_
  refine V_iconst X dX4_add_74 ?_
  refine V_iadd X dX4_add_75 ?_
  refine V_puti X ob_57 rfl rfl hin_X4 6 (Nat.le_of_ble_eq_true rfl) tw_306 tyX4 tyX4_ok nmX4 rfl (by decide +kernel) rfl dX4_add_76 ?_
  refine V_iload X dX4_add_79 rfl ?_
  exact V_iret X hE dX4_add_81 hf
abbrev rmX4_tell : Room := { frames := 1, cells := 0, slots := 0, locals := 22 }
set_option maxRecDepth 20000 in
theorem v_X4_tell_17 {G : GG} {E : EE} (X : Cx G E cX4_tell RX4 (some .boolean) rmX4_tell 7) {q : (Int × WS)} (hE : EndI G E q)   {a1 a2 a3 a4 a5 s0 : Int} {w : WS} (hf : f_X4_tell_17   a1 a2 a3 a4 a5 s0 w = some q) : VV G E 0 0 17 [(0, gr G 57), (1, vi a1), (2, vi a2), (3, vi a3), (4, vi a4), (5, vi a5)] [vi s0] w := by
  unfold f_X4_tell_17 at hf
  refine V_istore X dX4_tell_17 (by decide) ?_
  refine V_gload_n X dX4_tell_19 rfl rfl ?_
  refine V_getr X ob_57 rfl rfl hin_X4 7 (Nat.le_of_ble_eq_true rfl) tw_309 rfl dX4_tell_20 ?_
  refine V_iload_n X dX4_tell_23 rfl rfl ?_
  refine V_iconst X dX4_tell_24 ?_
  refine V_cVV X hf [vi a1, vi 1] _ 2 (fun _ h => m_X1_put is_70 h) ob_70 rfl tw_839 tw_89 tw_883 tw_837 tw_838 dX4_tell_25 ⟨by decide +kernel, by decide +kernel, by decide +kernel⟩ ⟨rfl, rfl⟩ ⟨Nat.le_of_ble_eq_true rfl, Nat.le_of_ble_eq_true rfl⟩ rfl (Nat.le_of_ble_eq_true rfl) ⟨Nat.zero_le _, Nat.zero_le _⟩ (fun r2 w2 hf => ?_)
  refine V_gload_n X dX4_tell_28 rfl rfl ?_
  refine V_getr X ob_57 rfl rfl hin_X4 8 (Nat.le_of_ble_eq_true rfl) tw_311 rfl dX4_tell_29 ?_
  refine V_iload_n X dX4_tell_32 rfl rfl ?_
  refine V_iload_n X dX4_tell_33 rfl rfl ?_
  refine V_cVV X hf [vi a1, vi a2] _ 2 (fun _ h => m_X1_put is_72 h) ob_72 rfl tw_839 tw_89 tw_883 tw_837 tw_838 dX4_tell_34 ⟨by decide +kernel, by decide +kernel, by decide +kernel⟩ ⟨rfl, rfl⟩ ⟨Nat.le_of_ble_eq_true rfl, Nat.le_of_ble_eq_true rfl⟩ rfl (Nat.le_of_ble_eq_true rfl) ⟨Nat.zero_le _, Nat.zero_le _⟩ (fun r3 w3 hf => ?_)
  refine V_gload_n X dX4_tell_37 rfl rfl ?_
  refine V_getr X ob_57 rfl rfl hin_X4 9 (Nat.le_of_ble_eq_true rfl) tw_313 rfl dX4_tell_38 ?_
  refine V_iconst X dX4_tell_41 ?_
  refine V_iload_n X dX4_tell_42 rfl rfl ?_
  refine V_imul X dX4_tell_43 ?_
  refine V_iload_n X dX4_tell_44 rfl rfl ?_
  refine V_cVV X hf [vi (3 * a1), vi a3] _ 2 (fun _ h => m_X1_put is_74 h) ob_74 rfl tw_839 tw_89 tw_883 tw_837 tw_838 dX4_tell_45 ⟨by decide +kernel, by decide +kernel, by decide +kernel⟩ ⟨rfl, rfl⟩ ⟨Nat.le_of_ble_eq_true rfl, Nat.le_of_ble_eq_true rfl⟩ rfl (Nat.le_of_ble_eq_true rfl) ⟨Nat.zero_le _, Nat.zero_le _⟩ (fun r4 w4 hf => ?_)
  refine V_gload_n X dX4_tell_48 rfl rfl ?_
  refine V_getr X ob_57 rfl rfl hin_X4 9 (Nat.le_of_ble_eq_true rfl) tw_313 rfl dX4_tell_49 ?_
  refine V_iconst X dX4_tell_52 ?_
  refine V_iload_n X dX4_tell_53 rfl rfl ?_
  refine V_imul X dX4_tell_54 ?_
  refine V_iconst X dX4_tell_55 ?_
  refine V_iadd X dX4_tell_56 ?_
  refine V_iload X dX4_tell_57 rfl ?_
  refine V_cVV X hf [vi ((3 * a1) + 1), vi a4] _ 2 (fun _ h => m_X1_put is_74 h) ob_74 rfl tw_839 tw_89 tw_883 tw_837 tw_838 dX4_tell_59 ⟨by decide +kernel, by decide +kernel, by decide +kernel⟩ ⟨rfl, rfl⟩ ⟨Nat.le_of_ble_eq_true rfl, Nat.le_of_ble_eq_true rfl⟩ rfl (Nat.le_of_ble_eq_true rfl) ⟨Nat.zero_le _, Nat.zero_le _⟩ (fun r5 w5 hf => ?_)
  refine V_gload_n X dX4_tell_62 rfl rfl ?_
  refine V_getr X ob_57 rfl rfl hin_X4 9 (Nat.le_of_ble_eq_true rfl) tw_313 rfl dX4_tell_63 ?_
  refine V_iconst X dX4_tell_66 ?_
  refine V_iload_n X dX4_tell_67 rfl rfl ?_
  refine V_imul X dX4_tell_68 ?_
  refine V_iconst X dX4_tell_69 ?_
  refine V_iadd X dX4_tell_70 ?_
  refine V_iload X dX4_tell_71 rfl ?_
  refine V_cVV X hf [vi ((3 * a1) + 2), vi a5] _ 2 (fun _ h => m_X1_put is_74 h) ob_74 rfl tw_839 tw_89 tw_883 tw_837 tw_838 dX4_tell_73 ⟨by decide +kernel, by decide +kernel, by decide +kernel⟩ ⟨rfl, rfl⟩ ⟨Nat.le_of_ble_eq_true rfl, Nat.le_of_ble_eq_true rfl⟩ rfl (Nat.le_of_ble_eq_true rfl) ⟨Nat.zero_le _, Nat.zero_le _⟩ (fun r6 w6 hf => ?_)
  refine V_iload X dX4_tell_76 rfl ?_
  obtain ⟨hz, hf⟩ := ite_n hf
  exact V_zret X hE dX4_tell_78 hz hf
set_option maxRecDepth 20000 in
theorem m_X4_tell {G : GG} {a1 : Int} {a2 : Int} {a3 : Int} {a4 : Int} {a5 : Int} {w : WS} {q : (Int × WS)}  (hf : f_X4_tell a1 a2 a3 a4 a5 w = some q) : MI G yX4_tell cX4_tell 7 (some .boolean) rmX4_tell [gr G 57, vi a1, vi a2, vi a3, vi a4, vi a5] w q := by
  refine MI_of (by decide +kernel) (Nat.le_of_ble_eq_true rfl) (fun E X hE => ?_)
  have X : Cx G E cX4_tell RX4 (some .boolean) rmX4_tell 7 := X
  unfold f_X4_tell at hf
  refine V_gload_n X dX4_tell_0 rfl rfl ?_
  refine V_getr X ob_57 rfl rfl hin_X4 7 (Nat.le_of_ble_eq_true rfl) tw_309 rfl dX4_tell_1 ?_
  refine V_iload_n X dX4_tell_4 rfl rfl ?_
  refine V_cVI X hf [vi a1] _ 1 (fun _ h => m_X1_get is_70 h) ob_70 rfl tw_500 tw_89 tw_917 tw_498 tw_499 dX4_tell_5 ⟨by decide +kernel, by decide +kernel, by decide +kernel⟩ ⟨rfl, rfl⟩ ⟨Nat.le_of_ble_eq_true rfl, Nat.le_of_ble_eq_true rfl⟩ rfl (Nat.le_of_ble_eq_true rfl) ⟨Nat.zero_le _, Nat.zero_le _⟩ (fun r1 w1 hf => ?_)
  refine V_iconst X dX4_tell_8 ?_
  refine V_icmp_ne X (tgt := 16) dX4_tell_9 (by decide) hf (fun hf => ?_) (fun hf => ?_)
  · refine V_iconst X dX4_tell_12 ?_
    refine V_goto X (tgt := 17) dX4_tell_13 (by decide) ?_
    exact V_cut [0, 1, 2, 3, 4, 5] rfl (v_X4_tell_17 X hE hf)
  · refine V_iconst X dX4_tell_16 ?_
    exact V_cut [0, 1, 2, 3, 4, 5] rfl (v_X4_tell_17 X hE hf)
