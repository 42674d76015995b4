abbrev rmX8_pattern : Room := { frames := 8, cells := 1, slots := 6, locals := 400 }
set_option maxRecDepth 20000 in
theorem m_X8_pattern {G : GG} {a1 : Int} {a2 : Int} {a3 : Int} {w : WS} {q : (Nat × Int × WS)}  (ha : 0 ≤ a1 ∧ a1 < 65536) (hf : f_X8_pattern a1 a2 a3 w = some q) : MXI G yX8_pattern cX8_pattern 4 (some .int) rmX8_pattern [gr G 0, vi a1, vi a2, vi a3] w q := by
  refine MXI_of (by decide +kernel) (Nat.le_of_ble_eq_true rfl) (fun E X hE => ?_)
  have X : CX G E cX8_pattern RX8 (some .int) rmX8_pattern 4 := X
  unfold f_X8_pattern at hf
  have hKT : (135, "l|&nosk#trpqm*gxfzi$.@v", kPat) ∈ KT := List.mem_cons_self
  refine V_ldcJ X hKT dX8_pattern_0 (fun sa va hJ => ?_)
  refine V_iload_n X.1 dX8_pattern_2 rfl rfl ?_
  refine V_cJV X.1 hJ [vi a1] _ 1 (m_J0_indexOf_0f7a4 (tOK_KT _ hKT) ha) jw_653 jw_19 jw_650 jw_651 jw_652 dX8_pattern_3 ⟨by decide +kernel, by decide +kernel, by decide +kernel⟩ ⟨rfl, rfl⟩ ⟨Nat.le_of_ble_eq_true rfl, Nat.le_of_ble_eq_true rfl⟩ rfl (Nat.le_of_ble_eq_true rfl) ⟨Nat.le_of_ble_eq_true rfl, Nat.le_of_ble_eq_true rfl⟩ ?_
  refine V_if_ge X.1 (tgt := 19) dX8_pattern_6 (by decide) hf (fun hf => ?_) (fun hf => ?_)
  · exact V_throwS X hE 1 rfl (by decide) (by decide +kernel) tw_515 tw_99 (List.mem_of_getElem? (i := 5) rfl) at_86 dX8_pattern_9 dX8_pattern_12 dX8_pattern_13 dX8_pattern_15 dX8_pattern_18 ⟨Nat.le_of_ble_eq_true rfl, Nat.le_of_ble_eq_true rfl, Nat.le_of_ble_eq_true rfl, Nat.le_of_ble_eq_true rfl⟩ ⟨Nat.le_of_ble_eq_true rfl, Nat.le_of_ble_eq_true rfl⟩ hf
  · refine V_gload_n X.1 dX8_pattern_19 rfl rfl ?_
    refine V_iload_n X.1 dX8_pattern_20 rfl rfl ?_
    refine V_iload_n X.1 dX8_pattern_21 rfl rfl ?_
    refine V_iload_n X.1 dX8_pattern_22 rfl rfl ?_
    refine V_cVI X.1 hf [vi a1, vi a2, vi a3] _ 3 (fun _ h => m_X8_patternPartsExist h) ob_0 rfl tw_825 tw_86 tw_822 tw_824 tw_1 dX8_pattern_23 ⟨by decide +kernel, by decide +kernel, by decide +kernel⟩ ⟨rfl, rfl⟩ ⟨Nat.le_of_ble_eq_true rfl, Nat.le_of_ble_eq_true rfl⟩ rfl (Nat.le_of_ble_eq_true rfl) ⟨Nat.le_of_ble_eq_true rfl, Nat.le_of_ble_eq_true rfl⟩ (fun r1 w1 hf => ?_)
    refine V_if_ne X.1 (tgt := 39) dX8_pattern_26 (by decide) hf (fun hf => ?_) (fun hf => ?_)
    · exact V_throwS X hE 3 rfl (by decide) (by decide +kernel) tw_679 tw_102 (List.mem_of_getElem? (i := 6) rfl) at_152 dX8_pattern_29 dX8_pattern_32 dX8_pattern_33 dX8_pattern_35 dX8_pattern_38 ⟨Nat.le_of_ble_eq_true rfl, Nat.le_of_ble_eq_true rfl, Nat.le_of_ble_eq_true rfl, Nat.le_of_ble_eq_true rfl⟩ ⟨Nat.le_of_ble_eq_true rfl, Nat.le_of_ble_eq_true rfl⟩ hf
    · refine V_gload_n X.1 dX8_pattern_39 rfl rfl ?_
      refine V_getr X.1 ob_0 rfl rfl hin_X8 5 (Nat.le_of_ble_eq_true rfl) tw_406 rfl dX8_pattern_40 ?_
      refine V_cVI X.1 hf [] _ 0 (fun _ h => m_X0_isFull is_25 h) ob_25 rfl tw_830 tw_88 tw_827 tw_828 tw_829 dX8_pattern_43 ⟨by decide +kernel, by decide +kernel, by decide +kernel⟩ ⟨rfl, rfl⟩ ⟨Nat.le_of_ble_eq_true rfl, Nat.le_of_ble_eq_true rfl⟩ rfl (Nat.le_of_ble_eq_true rfl) ⟨Nat.le_of_ble_eq_true rfl, Nat.le_of_ble_eq_true rfl⟩ (fun r2 w2 hf => ?_)
      refine V_if_eq X.1 (tgt := 59) dX8_pattern_46 (by decide) hf (fun hf => ?_) (fun hf => ?_)
      · refine V_gload_n X.1 dX8_pattern_59 rfl rfl ?_
        refine V_getr X.1 ob_0 rfl rfl hin_X8 5 (Nat.le_of_ble_eq_true rfl) tw_406 rfl dX8_pattern_60 ?_
        refine V_iload_n X.1 dX8_pattern_63 rfl rfl ?_
        refine V_iload_n X.1 dX8_pattern_64 rfl rfl ?_
        refine V_iload_n X.1 dX8_pattern_65 rfl rfl ?_
        refine V_cVI X.1 hf [vi a1, vi a2, vi a3] _ 3 (fun _ h => m_X0_add is_25 h) ob_25 rfl tw_835 tw_88 tw_832 tw_833 tw_834 dX8_pattern_66 ⟨by decide +kernel, by decide +kernel, by decide +kernel⟩ ⟨rfl, rfl⟩ ⟨Nat.le_of_ble_eq_true rfl, Nat.le_of_ble_eq_true rfl⟩ rfl (Nat.le_of_ble_eq_true rfl) ⟨Nat.le_of_ble_eq_true rfl, Nat.le_of_ble_eq_true rfl⟩ (fun r3 w3 hf => ?_)
        exact V_iretX X hE dX8_pattern_69 ⟨Nat.le_of_ble_eq_true rfl, Nat.le_of_ble_eq_true rfl⟩ hf
      · exact V_throwS X hE 2 rfl (by decide) (by decide +kernel) tw_587 tw_100 (List.mem_of_getElem? (i := 7) rfl) at_97 dX8_pattern_49 dX8_pattern_52 dX8_pattern_53 dX8_pattern_55 dX8_pattern_58 ⟨Nat.le_of_ble_eq_true rfl, Nat.le_of_ble_eq_true rfl, Nat.le_of_ble_eq_true rfl, Nat.le_of_ble_eq_true rfl⟩ ⟨Nat.le_of_ble_eq_true rfl, Nat.le_of_ble_eq_true rfl⟩ hf
abbrev rmX8_term : Room := { frames := 8, cells := 1, slots := 6, locals := 400 }
set_option maxRecDepth 20000 in
theorem m_X8_term {G : GG} {a1 : Int} {a2 : Int} {a3 : Int} {w : WS} {q : (Nat × Int × WS)}  (ha : 0 ≤ a1 ∧ a1 < 65536) (hf : f_X8_term a1 a2 a3 w = some q) : MXI G yX8_term cX8_term 4 (some .int) rmX8_term [gr G 0, vi a1, vi a2, vi a3] w q := by
  refine MXI_of (by decide +kernel) (Nat.le_of_ble_eq_true rfl) (fun E X hE => ?_)
  have X : CX G E cX8_term RX8 (some .int) rmX8_term 4 := X
  unfold f_X8_term at hf
  have hKT : (162, "tvw+-*/&#rd=<", kTrm) ∈ KT := (List.mem_cons_of_mem _ List.mem_cons_self)
  refine V_ldcJ X hKT dX8_term_0 (fun sa va hJ => ?_)
  refine V_iload_n X.1 dX8_term_2 rfl rfl ?_
  refine V_cJV X.1 hJ [vi a1] _ 1 (m_J0_indexOf_0f7a4 (tOK_KT _ hKT) ha) jw_653 jw_19 jw_650 jw_651 jw_652 dX8_term_3 ⟨by decide +kernel, by decide +kernel, by decide +kernel⟩ ⟨rfl, rfl⟩ ⟨Nat.le_of_ble_eq_true rfl, Nat.le_of_ble_eq_true rfl⟩ rfl (Nat.le_of_ble_eq_true rfl) ⟨Nat.le_of_ble_eq_true rfl, Nat.le_of_ble_eq_true rfl⟩ ?_
  refine V_if_ge X.1 (tgt := 19) dX8_term_6 (by decide) hf (fun hf => ?_) (fun hf => ?_)
  · exact V_throwS X hE 1 rfl (by decide) (by decide +kernel) tw_515 tw_99 (List.mem_of_getElem? (i := 8) rfl) at_86 dX8_term_9 dX8_term_12 dX8_term_13 dX8_term_15 dX8_term_18 ⟨Nat.le_of_ble_eq_true rfl, Nat.le_of_ble_eq_true rfl, Nat.le_of_ble_eq_true rfl, Nat.le_of_ble_eq_true rfl⟩ ⟨Nat.le_of_ble_eq_true rfl, Nat.le_of_ble_eq_true rfl⟩ hf
  · refine V_gload_n X.1 dX8_term_19 rfl rfl ?_
    refine V_iload_n X.1 dX8_term_20 rfl rfl ?_
    refine V_iload_n X.1 dX8_term_21 rfl rfl ?_
    refine V_iload_n X.1 dX8_term_22 rfl rfl ?_
    refine V_cVI X.1 hf [vi a1, vi a2, vi a3] _ 3 (fun _ h => m_X8_termPartsExist h) ob_0 rfl tw_852 tw_86 tw_849 tw_851 tw_2 dX8_term_23 ⟨by decide +kernel, by decide +kernel, by decide +kernel⟩ ⟨rfl, rfl⟩ ⟨Nat.le_of_ble_eq_true rfl, Nat.le_of_ble_eq_true rfl⟩ rfl (Nat.le_of_ble_eq_true rfl) ⟨Nat.le_of_ble_eq_true rfl, Nat.le_of_ble_eq_true rfl⟩ (fun r1 w1 hf => ?_)
    refine V_if_ne X.1 (tgt := 39) dX8_term_26 (by decide) hf (fun hf => ?_) (fun hf => ?_)
    · exact V_throwS X hE 3 rfl (by decide) (by decide +kernel) tw_679 tw_102 (List.mem_of_getElem? (i := 9) rfl) at_152 dX8_term_29 dX8_term_32 dX8_term_33 dX8_term_35 dX8_term_38 ⟨Nat.le_of_ble_eq_true rfl, Nat.le_of_ble_eq_true rfl, Nat.le_of_ble_eq_true rfl, Nat.le_of_ble_eq_true rfl⟩ ⟨Nat.le_of_ble_eq_true rfl, Nat.le_of_ble_eq_true rfl⟩ hf
    · refine V_gload_n X.1 dX8_term_39 rfl rfl ?_
      refine V_getr X.1 ob_0 rfl rfl hin_X8 6 (Nat.le_of_ble_eq_true rfl) tw_407 rfl dX8_term_40 ?_
      refine V_cVI X.1 hf [] _ 0 (fun _ h => m_X0_isFull is_32 h) ob_32 rfl tw_830 tw_88 tw_827 tw_828 tw_829 dX8_term_43 ⟨by decide +kernel, by decide +kernel, by decide +kernel⟩ ⟨rfl, rfl⟩ ⟨Nat.le_of_ble_eq_true rfl, Nat.le_of_ble_eq_true rfl⟩ rfl (Nat.le_of_ble_eq_true rfl) ⟨Nat.le_of_ble_eq_true rfl, Nat.le_of_ble_eq_true rfl⟩ (fun r2 w2 hf => ?_)
      refine V_if_eq X.1 (tgt := 59) dX8_term_46 (by decide) hf (fun hf => ?_) (fun hf => ?_)
      · refine V_gload_n X.1 dX8_term_59 rfl rfl ?_
        refine V_getr X.1 ob_0 rfl rfl hin_X8 6 (Nat.le_of_ble_eq_true rfl) tw_407 rfl dX8_term_60 ?_
        refine V_iload_n X.1 dX8_term_63 rfl rfl ?_
        refine V_iload_n X.1 dX8_term_64 rfl rfl ?_
        refine V_iload_n X.1 dX8_term_65 rfl rfl ?_
        refine V_cVI X.1 hf [vi a1, vi a2, vi a3] _ 3 (fun _ h => m_X0_add is_32 h) ob_32 rfl tw_835 tw_88 tw_832 tw_833 tw_834 dX8_term_66 ⟨by decide +kernel, by decide +kernel, by decide +kernel⟩ ⟨rfl, rfl⟩ ⟨Nat.le_of_ble_eq_true rfl, Nat.le_of_ble_eq_true rfl⟩ rfl (Nat.le_of_ble_eq_true rfl) ⟨Nat.le_of_ble_eq_true rfl, Nat.le_of_ble_eq_true rfl⟩ (fun r3 w3 hf => ?_)
        exact V_iretX X hE dX8_term_69 ⟨Nat.le_of_ble_eq_true rfl, Nat.le_of_ble_eq_true rfl⟩ hf
      · exact V_throwS X hE 2 rfl (by decide) (by decide +kernel) tw_587 tw_100 (List.mem_of_getElem? (i := 10) rfl) at_97 dX8_term_49 dX8_term_52 dX8_term_53 dX8_term_55 dX8_term_58 ⟨Nat.le_of_ble_eq_true rfl, Nat.le_of_ble_eq_true rfl, Nat.le_of_ble_eq_true rfl, Nat.le_of_ble_eq_true rfl⟩ ⟨Nat.le_of_ble_eq_true rfl, Nat.le_of_ble_eq_true rfl⟩ hf
