abbrev rmL_type : Room := { frames := 9, cells := 1, slots := 6, locals := 421 }
set_option maxRecDepth 20000 in
theorem m_L_type {G : GG} {a1 : Int} {w : WS} {q : (Int × WS)} (hf : f_L_type a1 w = some q) : MW G yL_type cL_type 4 (some .int) [(0, 9, 12, 13), (0, 9, 15, 15)] rmL_type [gr G 0, vi a1, gr G 135] w q := by
  refine MW_of (by decide +kernel) (Nat.le_of_ble_eq_true rfl) (fun E X hE => ?_)
  have X : CW G E cL_type RL (some .int) rmL_type 4 [(0, 9, 12, 13), (0, 9, 15, 15)] := X
  unfold f_L_type at hf
  refine V_gload_n X.1 dL_type_0 rfl rfl ?_
  refine V_iconst X.1 dL_type_1 ?_
  refine V_gload_n X.1 dL_type_2 rfl rfl ?_
  refine V_iload_n X.1 dL_type_3 rfl rfl ?_
  refine V_wVI X hf [vi a1] _ 1 (fun _ h => m_X8_type h) ob_0 rfl tw_509 tw_86 tw_506 tw_507 tw_508 dL_type_4 ⟨by decide +kernel, by decide +kernel, by decide +kernel⟩ ⟨Nat.le_of_ble_eq_true rfl, Nat.le_of_ble_eq_true rfl⟩ rfl (Nat.le_of_ble_eq_true rfl) ⟨Nat.le_of_ble_eq_true rfl, Nat.le_of_ble_eq_true rfl⟩ (fun t w2 ht hf => ?_) (fun r1 w1 hf => ?_)
  · refine ite_c hf (fun h hf => ?_) (fun _ hf => ?_)
    · subst h
      refine ⟨[], [(0, 9, 15, 15)], (0, 9, 12, 13), rfl, (fun z hz => by cases hz), by decide, by decide, by decide, tw_504, nw_34, fun a9 => ?_⟩
      refine V_astore_n X.1 dL_type_12 rfl (by decide) ?_
      refine V_iconst X.1 dL_type_13 ?_
      exact V_iretW X hE dL_type_14 ⟨Nat.le_of_ble_eq_true rfl, Nat.le_of_ble_eq_true rfl⟩ hf
    refine ite_c hf (fun h hf => ?_) (fun _ hf => ?_)
    · subst h
      refine ⟨[(0, 9, 12, 13)], [], (0, 9, 15, 15), rfl, (List.forall_mem_cons.mpr ⟨⟨by decide, 1, tw_504, by decide, by decide, by decide⟩, (fun z hz => by cases hz)⟩), by decide, by decide, by decide, tw_505, nw_38, fun a9 => ?_⟩
      refine V_astore_n X.1 dL_type_15 rfl (by decide) ?_
      refine V_iconst X.1 dL_type_16 ?_
      exact V_iretW X hE dL_type_17 ⟨Nat.le_of_ble_eq_true rfl, Nat.le_of_ble_eq_true rfl⟩ hf
    cases hf
  · refine V_i2l X.1 dL_type_7 ?_
    refine V_last X.1 ar_135 dL_type_8 hf (fun hf => ?_)
    refine V_goto X.1 (tgt := 18) dL_type_9 (by decide) ?_
    refine V_iconst X.1 dL_type_18 ?_
    exact V_iretW X hE dL_type_19 ⟨Nat.le_of_ble_eq_true rfl, Nat.le_of_ble_eq_true rfl⟩ hf
abbrev rmL_text : Room := { frames := 9, cells := 1, slots := 6, locals := 421 }
set_option maxRecDepth 20000 in
theorem m_L_text {G : GG}  {w : WS} {q : (Int × WS)} (hf : f_L_text  w = some q) : MW G yL_text cL_text 3 (some .int) [(0, 8, 11, 21), (0, 8, 14, 15)] rmL_text [gr G 0, gr G 135] w q := by
  refine MW_of (by decide +kernel) (Nat.le_of_ble_eq_true rfl) (fun E X hE => ?_)
  have X : CW G E cL_text RL (some .int) rmL_text 3 [(0, 8, 11, 21), (0, 8, 14, 15)] := X
  unfold f_L_text at hf
  refine V_gload_n X.1 dL_text_0 rfl rfl ?_
  refine V_iconst X.1 dL_text_1 ?_
  refine V_gload_n X.1 dL_text_2 rfl rfl ?_
  refine V_wVI X hf [] _ 0 (fun _ h => m_X8_text h) ob_0 rfl tw_614 tw_86 tw_611 tw_612 tw_613 dL_text_3 ⟨by decide +kernel, by decide +kernel, by decide +kernel⟩ ⟨Nat.le_of_ble_eq_true rfl, Nat.le_of_ble_eq_true rfl⟩ rfl (Nat.le_of_ble_eq_true rfl) ⟨Nat.le_of_ble_eq_true rfl, Nat.le_of_ble_eq_true rfl⟩ (fun t w2 ht hf => ?_) (fun r1 w1 hf => ?_)
  · refine ite_c hf (fun h hf => ?_) (fun _ hf => ?_)
    · subst h
      refine ⟨[], [(0, 8, 14, 15)], (0, 8, 11, 21), rfl, (fun z hz => by cases hz), by decide, by decide, by decide, tw_610, nw_39, fun a9 => ?_⟩
      refine V_astore_n X.1 dL_text_11 rfl (by decide) ?_
      refine V_iconst X.1 dL_text_12 ?_
      exact V_iretW X hE dL_text_13 ⟨Nat.le_of_ble_eq_true rfl, Nat.le_of_ble_eq_true rfl⟩ hf
    refine ite_c hf (fun h hf => ?_) (fun _ hf => ?_)
    · subst h
      refine ⟨[(0, 8, 11, 21)], [], (0, 8, 14, 15), rfl, (List.forall_mem_cons.mpr ⟨⟨by decide, 4, tw_610, by decide, by decide, by decide⟩, (fun z hz => by cases hz)⟩), by decide, by decide, by decide, tw_505, nw_38, fun a9 => ?_⟩
      refine V_astore_n X.1 dL_text_14 rfl (by decide) ?_
      refine V_iconst X.1 dL_text_15 ?_
      exact V_iretW X hE dL_text_16 ⟨Nat.le_of_ble_eq_true rfl, Nat.le_of_ble_eq_true rfl⟩ hf
    cases hf
  · refine V_i2l X.1 dL_text_6 ?_
    refine V_last X.1 ar_135 dL_text_7 hf (fun hf => ?_)
    refine V_goto X.1 (tgt := 17) dL_text_8 (by decide) ?_
    refine V_iconst X.1 dL_text_17 ?_
    exact V_iretW X hE dL_text_18 ⟨Nat.le_of_ble_eq_true rfl, Nat.le_of_ble_eq_true rfl⟩ hf
abbrev rmL_set : Room := { frames := 10, cells := 1, slots := 6, locals := 442 }
set_option maxRecDepth 20000 in
theorem m_L_set {G : GG} {a1 : Int} {w : WS} {q : (Int × WS)} (hf : f_L_set a1 w = some q) : MW G yL_set cL_set 4 (some .int) [(0, 9, 12, 26)] rmL_set [gr G 0, vi a1, gr G 135] w q := by
  refine MW_of (by decide +kernel) (Nat.le_of_ble_eq_true rfl) (fun E X hE => ?_)
  have X : CW G E cL_set RL (some .int) rmL_set 4 [(0, 9, 12, 26)] := X
  unfold f_L_set at hf
  refine V_gload_n X.1 dL_set_0 rfl rfl ?_
  refine V_iconst X.1 dL_set_1 ?_
  refine V_gload_n X.1 dL_set_2 rfl rfl ?_
  refine V_iload_n X.1 dL_set_3 rfl rfl ?_
  refine V_wVI X hf [vi a1] _ 1 (fun _ h => m_X8_set h) ob_0 rfl tw_672 tw_86 tw_669 tw_670 tw_671 dL_set_4 ⟨by decide +kernel, by decide +kernel, by decide +kernel⟩ ⟨Nat.le_of_ble_eq_true rfl, Nat.le_of_ble_eq_true rfl⟩ rfl (Nat.le_of_ble_eq_true rfl) ⟨Nat.le_of_ble_eq_true rfl, Nat.le_of_ble_eq_true rfl⟩ (fun t w2 ht hf => ?_) (fun r1 w1 hf => ?_)
  · refine ite_c hf (fun h hf => ?_) (fun _ hf => ?_)
    · subst h
      refine ⟨[], [], (0, 9, 12, 26), rfl, (fun z hz => by cases hz), by decide, by decide, by decide, tw_645, nw_42, fun a9 => ?_⟩
      refine V_astore_n X.1 dL_set_12 rfl (by decide) ?_
      refine V_iconst X.1 dL_set_13 ?_
      exact V_iretW X hE dL_set_14 ⟨Nat.le_of_ble_eq_true rfl, Nat.le_of_ble_eq_true rfl⟩ hf
    cases hf
  · refine V_i2l X.1 dL_set_7 ?_
    refine V_last X.1 ar_135 dL_set_8 hf (fun hf => ?_)
    refine V_goto X.1 (tgt := 15) dL_set_9 (by decide) ?_
    refine V_iconst X.1 dL_set_15 ?_
    exact V_iretW X hE dL_set_16 ⟨Nat.le_of_ble_eq_true rfl, Nat.le_of_ble_eq_true rfl⟩ hf
abbrev rmL_size : Room := { frames := 10, cells := 1, slots := 6, locals := 441 }
set_option maxRecDepth 20000 in
theorem m_L_size {G : GG} {a1 : Int} {w : WS} {q : (Int × WS)} (hf : f_L_size a1 w = some q) : MW G yL_size cL_size 4 (some .int) [(0, 9, 12, 26)] rmL_size [gr G 0, vi a1, gr G 135] w q := by
  refine MW_of (by decide +kernel) (Nat.le_of_ble_eq_true rfl) (fun E X hE => ?_)
  have X : CW G E cL_size RL (some .int) rmL_size 4 [(0, 9, 12, 26)] := X
  unfold f_L_size at hf
  refine V_gload_n X.1 dL_size_0 rfl rfl ?_
  refine V_iconst X.1 dL_size_1 ?_
  refine V_gload_n X.1 dL_size_2 rfl rfl ?_
  refine V_iload_n X.1 dL_size_3 rfl rfl ?_
  refine V_wVI X hf [vi a1] _ 1 (fun _ h => m_X8_size h) ob_0 rfl tw_698 tw_86 tw_695 tw_696 tw_697 dL_size_4 ⟨by decide +kernel, by decide +kernel, by decide +kernel⟩ ⟨Nat.le_of_ble_eq_true rfl, Nat.le_of_ble_eq_true rfl⟩ rfl (Nat.le_of_ble_eq_true rfl) ⟨Nat.le_of_ble_eq_true rfl, Nat.le_of_ble_eq_true rfl⟩ (fun t w2 ht hf => ?_) (fun r1 w1 hf => ?_)
  · refine ite_c hf (fun h hf => ?_) (fun _ hf => ?_)
    · subst h
      refine ⟨[], [], (0, 9, 12, 26), rfl, (fun z hz => by cases hz), by decide, by decide, by decide, tw_645, nw_42, fun a9 => ?_⟩
      refine V_astore_n X.1 dL_size_12 rfl (by decide) ?_
      refine V_iconst X.1 dL_size_13 ?_
      exact V_iretW X hE dL_size_14 ⟨Nat.le_of_ble_eq_true rfl, Nat.le_of_ble_eq_true rfl⟩ hf
    cases hf
  · refine V_i2l X.1 dL_size_7 ?_
    refine V_last X.1 ar_135 dL_size_8 hf (fun hf => ?_)
    refine V_goto X.1 (tgt := 15) dL_size_9 (by decide) ?_
    refine V_iconst X.1 dL_size_15 ?_
    exact V_iretW X hE dL_size_16 ⟨Nat.le_of_ble_eq_true rfl, Nat.le_of_ble_eq_true rfl⟩ hf
abbrev rmL_at : Room := { frames := 10, cells := 2, slots := 12, locals := 442 }
set_option maxRecDepth 20000 in
theorem m_L_at {G : GG} {a1 : Int} {a2 : Int} {w : WS} {q : (Int × WS)} (hf : f_L_at a1 a2 w = some q) : MW G yL_at cL_at 5 (some .int) [(0, 10, 13, 26), (0, 10, 17, 35)] rmL_at [gr G 0, vi a1, vi a2, gr G 135] w q := by
  refine MW_of (by decide +kernel) (Nat.le_of_ble_eq_true rfl) (fun E X hE => ?_)
  have X : CW G E cL_at RL (some .int) rmL_at 5 [(0, 10, 13, 26), (0, 10, 17, 35)] := X
  unfold f_L_at at hf
  refine V_gload_n X.1 dL_at_0 rfl rfl ?_
  refine V_iconst X.1 dL_at_1 ?_
  refine V_gload_n X.1 dL_at_2 rfl rfl ?_
  refine V_iload_n X.1 dL_at_3 rfl rfl ?_
  refine V_iload_n X.1 dL_at_4 rfl rfl ?_
  refine V_wVI X hf [vi a1, vi a2] _ 2 (fun _ h => m_X8_at h) ob_0 rfl tw_706 tw_86 tw_703 tw_704 tw_705 dL_at_5 ⟨by decide +kernel, by decide +kernel, by decide +kernel⟩ ⟨Nat.le_of_ble_eq_true rfl, Nat.le_of_ble_eq_true rfl⟩ rfl (Nat.le_of_ble_eq_true rfl) ⟨Nat.le_of_ble_eq_true rfl, Nat.le_of_ble_eq_true rfl⟩ (fun t w2 ht hf => ?_) (fun r1 w1 hf => ?_)
  · refine ite_c hf (fun h hf => ?_) (fun _ hf => ?_)
    · subst h
      refine ⟨[], [(0, 10, 17, 35)], (0, 10, 13, 26), rfl, (fun z hz => by cases hz), by decide, by decide, by decide, tw_645, nw_42, fun a9 => ?_⟩
      refine V_astore X.1 dL_at_13 (by decide) ?_
      refine V_iconst X.1 dL_at_15 ?_
      exact V_iretW X hE dL_at_16 ⟨Nat.le_of_ble_eq_true rfl, Nat.le_of_ble_eq_true rfl⟩ hf
    refine ite_c hf (fun h hf => ?_) (fun _ hf => ?_)
    · subst h
      refine ⟨[(0, 10, 13, 26)], [], (0, 10, 17, 35), rfl, (List.forall_mem_cons.mpr ⟨⟨by decide, 3, tw_645, by decide, by decide, by decide⟩, (fun z hz => by cases hz)⟩), by decide, by decide, by decide, tw_702, nw_43, fun a9 => ?_⟩
      refine V_astore X.1 dL_at_17 (by decide) ?_
      refine V_iconst X.1 dL_at_19 ?_
      exact V_iretW X hE dL_at_20 ⟨Nat.le_of_ble_eq_true rfl, Nat.le_of_ble_eq_true rfl⟩ hf
    cases hf
  · refine V_i2l X.1 dL_at_8 ?_
    refine V_last X.1 ar_135 dL_at_9 hf (fun hf => ?_)
    refine V_goto X.1 (tgt := 21) dL_at_10 (by decide) ?_
    refine V_iconst X.1 dL_at_21 ?_
    exact V_iretW X hE dL_at_22 ⟨Nat.le_of_ble_eq_true rfl, Nat.le_of_ble_eq_true rfl⟩ hf
abbrev rmL_pattern : Room := { frames := 9, cells := 1, slots := 6, locals := 423 }
set_option maxRecDepth 20000 in
theorem m_L_pattern {G : GG} {a1 : Int} {a2 : Int} {a3 : Int} {w : WS} {q : (Int × WS)} (ha : 0 ≤ a1 ∧ a1 < 65536) (hf : f_L_pattern a1 a2 a3 w = some q) : MW G yL_pattern cL_pattern 6 (some .int) [(0, 12, 15, 13), (0, 12, 19, 26), (0, 12, 23, 15)] rmL_pattern [gr G 0, vi a1, vi a2, vi a3, gr G 135] w q := by
  refine MW_of (by decide +kernel) (Nat.le_of_ble_eq_true rfl) (fun E X hE => ?_)
  have X : CW G E cL_pattern RL (some .int) rmL_pattern 6 [(0, 12, 15, 13), (0, 12, 19, 26), (0, 12, 23, 15)] := X
  unfold f_L_pattern at hf
  refine V_gload X.1 dL_pattern_0 rfl ?_
  refine V_iconst X.1 dL_pattern_2 ?_
  refine V_gload_n X.1 dL_pattern_3 rfl rfl ?_
  refine V_iload_n X.1 dL_pattern_4 rfl rfl ?_
  refine V_iload_n X.1 dL_pattern_5 rfl rfl ?_
  refine V_iload_n X.1 dL_pattern_6 rfl rfl ?_
  refine V_wVI X hf [vi a1, vi a2, vi a3] _ 3 (fun _ h => m_X8_pattern ha h) ob_0 rfl tw_733 tw_86 tw_730 tw_731 tw_732 dL_pattern_7 ⟨by decide +kernel, by decide +kernel, by decide +kernel⟩ ⟨Nat.le_of_ble_eq_true rfl, Nat.le_of_ble_eq_true rfl⟩ rfl (Nat.le_of_ble_eq_true rfl) ⟨Nat.le_of_ble_eq_true rfl, Nat.le_of_ble_eq_true rfl⟩ (fun t w2 ht hf => ?_) (fun r1 w1 hf => ?_)
  · refine ite_c hf (fun h hf => ?_) (fun _ hf => ?_)
    · subst h
      refine ⟨[], [(0, 12, 19, 26), (0, 12, 23, 15)], (0, 12, 15, 13), rfl, (fun z hz => by cases hz), by decide, by decide, by decide, tw_504, nw_34, fun a9 => ?_⟩
      refine V_astore X.1 dL_pattern_15 (by decide) ?_
      refine V_iconst X.1 dL_pattern_17 ?_
      exact V_iretW X hE dL_pattern_18 ⟨Nat.le_of_ble_eq_true rfl, Nat.le_of_ble_eq_true rfl⟩ hf
    refine ite_c hf (fun h hf => ?_) (fun _ hf => ?_)
    · subst h
      refine ⟨[(0, 12, 15, 13)], [(0, 12, 23, 15)], (0, 12, 19, 26), rfl, (List.forall_mem_cons.mpr ⟨⟨by decide, 1, tw_504, by decide, by decide, by decide⟩, (fun z hz => by cases hz)⟩), by decide, by decide, by decide, tw_645, nw_42, fun a9 => ?_⟩
      refine V_astore X.1 dL_pattern_19 (by decide) ?_
      refine V_iconst X.1 dL_pattern_21 ?_
      exact V_iretW X hE dL_pattern_22 ⟨Nat.le_of_ble_eq_true rfl, Nat.le_of_ble_eq_true rfl⟩ hf
    refine ite_c hf (fun h hf => ?_) (fun _ hf => ?_)
    · subst h
      refine ⟨[(0, 12, 15, 13), (0, 12, 19, 26)], [], (0, 12, 23, 15), rfl, (List.forall_mem_cons.mpr ⟨⟨by decide, 1, tw_504, by decide, by decide, by decide⟩, (List.forall_mem_cons.mpr ⟨⟨by decide, 3, tw_645, by decide, by decide, by decide⟩, (fun z hz => by cases hz)⟩)⟩), by decide, by decide, by decide, tw_505, nw_38, fun a9 => ?_⟩
      refine V_astore X.1 dL_pattern_23 (by decide) ?_
      refine V_iconst X.1 dL_pattern_25 ?_
      exact V_iretW X hE dL_pattern_26 ⟨Nat.le_of_ble_eq_true rfl, Nat.le_of_ble_eq_true rfl⟩ hf
    cases hf
  · refine V_i2l X.1 dL_pattern_10 ?_
    refine V_last X.1 ar_135 dL_pattern_11 hf (fun hf => ?_)
    refine V_goto X.1 (tgt := 27) dL_pattern_12 (by decide) ?_
    refine V_iconst X.1 dL_pattern_27 ?_
    exact V_iretW X hE dL_pattern_28 ⟨Nat.le_of_ble_eq_true rfl, Nat.le_of_ble_eq_true rfl⟩ hf
abbrev rmL_term : Room := { frames := 9, cells := 1, slots := 6, locals := 423 }
set_option maxRecDepth 20000 in
theorem m_L_term {G : GG} {a1 : Int} {a2 : Int} {a3 : Int} {w : WS} {q : (Int × WS)} (ha : 0 ≤ a1 ∧ a1 < 65536) (hf : f_L_term a1 a2 a3 w = some q) : MW G yL_term cL_term 6 (some .int) [(0, 12, 15, 13), (0, 12, 19, 26), (0, 12, 23, 15)] rmL_term [gr G 0, vi a1, vi a2, vi a3, gr G 135] w q := by
  refine MW_of (by decide +kernel) (Nat.le_of_ble_eq_true rfl) (fun E X hE => ?_)
  have X : CW G E cL_term RL (some .int) rmL_term 6 [(0, 12, 15, 13), (0, 12, 19, 26), (0, 12, 23, 15)] := X
  unfold f_L_term at hf
  refine V_gload X.1 dL_term_0 rfl ?_
  refine V_iconst X.1 dL_term_2 ?_
  refine V_gload_n X.1 dL_term_3 rfl rfl ?_
  refine V_iload_n X.1 dL_term_4 rfl rfl ?_
  refine V_iload_n X.1 dL_term_5 rfl rfl ?_
  refine V_iload_n X.1 dL_term_6 rfl rfl ?_
  refine V_wVI X hf [vi a1, vi a2, vi a3] _ 3 (fun _ h => m_X8_term ha h) ob_0 rfl tw_846 tw_86 tw_843 tw_844 tw_845 dL_term_7 ⟨by decide +kernel, by decide +kernel, by decide +kernel⟩ ⟨Nat.le_of_ble_eq_true rfl, Nat.le_of_ble_eq_true rfl⟩ rfl (Nat.le_of_ble_eq_true rfl) ⟨Nat.le_of_ble_eq_true rfl, Nat.le_of_ble_eq_true rfl⟩ (fun t w2 ht hf => ?_) (fun r1 w1 hf => ?_)
  · refine ite_c hf (fun h hf => ?_) (fun _ hf => ?_)
    · subst h
      refine ⟨[], [(0, 12, 19, 26), (0, 12, 23, 15)], (0, 12, 15, 13), rfl, (fun z hz => by cases hz), by decide, by decide, by decide, tw_504, nw_34, fun a9 => ?_⟩
      refine V_astore X.1 dL_term_15 (by decide) ?_
      refine V_iconst X.1 dL_term_17 ?_
      exact V_iretW X hE dL_term_18 ⟨Nat.le_of_ble_eq_true rfl, Nat.le_of_ble_eq_true rfl⟩ hf
    refine ite_c hf (fun h hf => ?_) (fun _ hf => ?_)
    · subst h
      refine ⟨[(0, 12, 15, 13)], [(0, 12, 23, 15)], (0, 12, 19, 26), rfl, (List.forall_mem_cons.mpr ⟨⟨by decide, 1, tw_504, by decide, by decide, by decide⟩, (fun z hz => by cases hz)⟩), by decide, by decide, by decide, tw_645, nw_42, fun a9 => ?_⟩
      refine V_astore X.1 dL_term_19 (by decide) ?_
      refine V_iconst X.1 dL_term_21 ?_
      exact V_iretW X hE dL_term_22 ⟨Nat.le_of_ble_eq_true rfl, Nat.le_of_ble_eq_true rfl⟩ hf
    refine ite_c hf (fun h hf => ?_) (fun _ hf => ?_)
    · subst h
      refine ⟨[(0, 12, 15, 13), (0, 12, 19, 26)], [], (0, 12, 23, 15), rfl, (List.forall_mem_cons.mpr ⟨⟨by decide, 1, tw_504, by decide, by decide, by decide⟩, (List.forall_mem_cons.mpr ⟨⟨by decide, 3, tw_645, by decide, by decide, by decide⟩, (fun z hz => by cases hz)⟩)⟩), by decide, by decide, by decide, tw_505, nw_38, fun a9 => ?_⟩
      refine V_astore X.1 dL_term_23 (by decide) ?_
      refine V_iconst X.1 dL_term_25 ?_
      exact V_iretW X hE dL_term_26 ⟨Nat.le_of_ble_eq_true rfl, Nat.le_of_ble_eq_true rfl⟩ hf
    cases hf
  · refine V_i2l X.1 dL_term_10 ?_
    refine V_last X.1 ar_135 dL_term_11 hf (fun hf => ?_)
    refine V_goto X.1 (tgt := 27) dL_term_12 (by decide) ?_
    refine V_iconst X.1 dL_term_27 ?_
    exact V_iretW X hE dL_term_28 ⟨Nat.le_of_ble_eq_true rfl, Nat.le_of_ble_eq_true rfl⟩ hf
abbrev rmL_assign : Room := { frames := 10, cells := 4, slots := 24, locals := 445 }
set_option maxRecDepth 20000 in
theorem m_L_assign {G : GG} {a1 : Int} {a2 : Int} {a3 : Int} {a4 : Int} {w : WS} {q : (Int × WS)} (hf : f_L_assign a1 a2 a3 a4 w = some q) : MW G yL_assign cL_assign 7 (some .int) [(0, 14, 17, 26), (0, 14, 21, 13), (0, 14, 25, 15)] rmL_assign [gr G 0, vi a1, vi a2, vi a3, vi a4, gr G 135] w q := by
  refine MW_of (by decide +kernel) (Nat.le_of_ble_eq_true rfl) (fun E X hE => ?_)
  have X : CW G E cL_assign RL (some .int) rmL_assign 7 [(0, 14, 17, 26), (0, 14, 21, 13), (0, 14, 25, 15)] := X
  unfold f_L_assign at hf
  refine V_gload X.1 dL_assign_0 rfl ?_
  refine V_iconst X.1 dL_assign_2 ?_
  refine V_gload_n X.1 dL_assign_3 rfl rfl ?_
  refine V_iload_n X.1 dL_assign_4 rfl rfl ?_
  refine V_iload_n X.1 dL_assign_5 rfl rfl ?_
  refine V_iload_n X.1 dL_assign_6 rfl rfl ?_
  refine V_iload X.1 dL_assign_7 rfl ?_
  refine V_wVI X hf [vi a1, vi a2, vi a3, vi a4] _ 4 (fun _ h => m_X8_assign h) ob_0 rfl tw_861 tw_86 tw_858 tw_859 tw_860 dL_assign_9 ⟨by decide +kernel, by decide +kernel, by decide +kernel⟩ ⟨Nat.le_of_ble_eq_true rfl, Nat.le_of_ble_eq_true rfl⟩ rfl (Nat.le_of_ble_eq_true rfl) ⟨Nat.le_of_ble_eq_true rfl, Nat.le_of_ble_eq_true rfl⟩ (fun t w2 ht hf => ?_) (fun r1 w1 hf => ?_)
  · refine ite_c hf (fun h hf => ?_) (fun _ hf => ?_)
    · subst h
      refine ⟨[], [(0, 14, 21, 13), (0, 14, 25, 15)], (0, 14, 17, 26), rfl, (fun z hz => by cases hz), by decide, by decide, by decide, tw_645, nw_42, fun a9 => ?_⟩
      refine V_astore X.1 dL_assign_17 (by decide) ?_
      refine V_iconst X.1 dL_assign_19 ?_
      exact V_iretW X hE dL_assign_20 ⟨Nat.le_of_ble_eq_true rfl, Nat.le_of_ble_eq_true rfl⟩ hf
    refine ite_c hf (fun h hf => ?_) (fun _ hf => ?_)
    · subst h
      refine ⟨[(0, 14, 17, 26)], [(0, 14, 25, 15)], (0, 14, 21, 13), rfl, (List.forall_mem_cons.mpr ⟨⟨by decide, 3, tw_645, by decide, by decide, by decide⟩, (fun z hz => by cases hz)⟩), by decide, by decide, by decide, tw_504, nw_34, fun a9 => ?_⟩
      refine V_astore X.1 dL_assign_21 (by decide) ?_
      refine V_iconst X.1 dL_assign_23 ?_
      exact V_iretW X hE dL_assign_24 ⟨Nat.le_of_ble_eq_true rfl, Nat.le_of_ble_eq_true rfl⟩ hf
    refine ite_c hf (fun h hf => ?_) (fun _ hf => ?_)
    · subst h
      refine ⟨[(0, 14, 17, 26), (0, 14, 21, 13)], [], (0, 14, 25, 15), rfl, (List.forall_mem_cons.mpr ⟨⟨by decide, 3, tw_645, by decide, by decide, by decide⟩, (List.forall_mem_cons.mpr ⟨⟨by decide, 1, tw_504, by decide, by decide, by decide⟩, (fun z hz => by cases hz)⟩)⟩), by decide, by decide, by decide, tw_505, nw_38, fun a9 => ?_⟩
      refine V_astore X.1 dL_assign_25 (by decide) ?_
      refine V_iconst X.1 dL_assign_27 ?_
      exact V_iretW X hE dL_assign_28 ⟨Nat.le_of_ble_eq_true rfl, Nat.le_of_ble_eq_true rfl⟩ hf
    cases hf
  · refine V_i2l X.1 dL_assign_12 ?_
    refine V_last X.1 ar_135 dL_assign_13 hf (fun hf => ?_)
    refine V_goto X.1 (tgt := 29) dL_assign_14 (by decide) ?_
    refine V_iconst X.1 dL_assign_29 ?_
    exact V_iretW X hE dL_assign_30 ⟨Nat.le_of_ble_eq_true rfl, Nat.le_of_ble_eq_true rfl⟩ hf
abbrev rmL_scan : Room := { frames := 10, cells := 5, slots := 30, locals := 446 }
set_option maxRecDepth 20000 in
theorem m_L_scan {G : GG} {a1 : Int} {a2 : Int} {a3 : Int} {a4 : Int} {a5 : Int} {w : WS} {q : (Int × WS)} (hf : f_L_scan a1 a2 a3 a4 a5 w = some q) : MW G yL_scan cL_scan 8 (some .int) [(0, 16, 19, 26), (0, 16, 23, 13), (0, 16, 27, 15)] rmL_scan [gr G 0, vi a1, vi a2, vi a3, vi a4, vi a5, gr G 135] w q := by
  refine MW_of (by decide +kernel) (Nat.le_of_ble_eq_true rfl) (fun E X hE => ?_)
  have X : CW G E cL_scan RL (some .int) rmL_scan 8 [(0, 16, 19, 26), (0, 16, 23, 13), (0, 16, 27, 15)] := X
  unfold f_L_scan at hf
  refine V_gload X.1 dL_scan_0 rfl ?_
  refine V_iconst X.1 dL_scan_2 ?_
  refine V_gload_n X.1 dL_scan_3 rfl rfl ?_
  refine V_iload_n X.1 dL_scan_4 rfl rfl ?_
  refine V_iload_n X.1 dL_scan_5 rfl rfl ?_
  refine V_iload_n X.1 dL_scan_6 rfl rfl ?_
  refine V_iload X.1 dL_scan_7 rfl ?_
  refine V_iload X.1 dL_scan_9 rfl ?_
  refine V_wVI X hf [vi a1, vi a2, vi a3, vi a4, vi a5] _ 5 (fun _ h => m_X8_scan h) ob_0 rfl tw_890 tw_86 tw_887 tw_888 tw_889 dL_scan_11 ⟨by decide +kernel, by decide +kernel, by decide +kernel⟩ ⟨Nat.le_of_ble_eq_true rfl, Nat.le_of_ble_eq_true rfl⟩ rfl (Nat.le_of_ble_eq_true rfl) ⟨Nat.le_of_ble_eq_true rfl, Nat.le_of_ble_eq_true rfl⟩ (fun t w2 ht hf => ?_) (fun r1 w1 hf => ?_)
  · refine ite_c hf (fun h hf => ?_) (fun _ hf => ?_)
    · subst h
      refine ⟨[], [(0, 16, 23, 13), (0, 16, 27, 15)], (0, 16, 19, 26), rfl, (fun z hz => by cases hz), by decide, by decide, by decide, tw_645, nw_42, fun a9 => ?_⟩
      refine V_astore X.1 dL_scan_19 (by decide) ?_
      refine V_iconst X.1 dL_scan_21 ?_
      exact V_iretW X hE dL_scan_22 ⟨Nat.le_of_ble_eq_true rfl, Nat.le_of_ble_eq_true rfl⟩ hf
    refine ite_c hf (fun h hf => ?_) (fun _ hf => ?_)
    · subst h
      refine ⟨[(0, 16, 19, 26)], [(0, 16, 27, 15)], (0, 16, 23, 13), rfl, (List.forall_mem_cons.mpr ⟨⟨by decide, 3, tw_645, by decide, by decide, by decide⟩, (fun z hz => by cases hz)⟩), by decide, by decide, by decide, tw_504, nw_34, fun a9 => ?_⟩
      refine V_astore X.1 dL_scan_23 (by decide) ?_
      refine V_iconst X.1 dL_scan_25 ?_
      exact V_iretW X hE dL_scan_26 ⟨Nat.le_of_ble_eq_true rfl, Nat.le_of_ble_eq_true rfl⟩ hf
    refine ite_c hf (fun h hf => ?_) (fun _ hf => ?_)
    · subst h
      refine ⟨[(0, 16, 19, 26), (0, 16, 23, 13)], [], (0, 16, 27, 15), rfl, (List.forall_mem_cons.mpr ⟨⟨by decide, 3, tw_645, by decide, by decide, by decide⟩, (List.forall_mem_cons.mpr ⟨⟨by decide, 1, tw_504, by decide, by decide, by decide⟩, (fun z hz => by cases hz)⟩)⟩), by decide, by decide, by decide, tw_505, nw_38, fun a9 => ?_⟩
      refine V_astore X.1 dL_scan_27 (by decide) ?_
      refine V_iconst X.1 dL_scan_29 ?_
      exact V_iretW X hE dL_scan_30 ⟨Nat.le_of_ble_eq_true rfl, Nat.le_of_ble_eq_true rfl⟩ hf
    cases hf
  · refine V_i2l X.1 dL_scan_14 ?_
    refine V_last X.1 ar_135 dL_scan_15 hf (fun hf => ?_)
    refine V_goto X.1 (tgt := 31) dL_scan_16 (by decide) ?_
    refine V_iconst X.1 dL_scan_31 ?_
    exact V_iretW X hE dL_scan_32 ⟨Nat.le_of_ble_eq_true rfl, Nat.le_of_ble_eq_true rfl⟩ hf
abbrev rmL_call : Room := { frames := 10, cells := 4, slots := 24, locals := 446 }
set_option maxRecDepth 20000 in
theorem m_L_call {G : GG} {a1 : Int} {a2 : Int} {a3 : Int} {a4 : Int} {a5 : Int} {w : WS} {q : (Int × WS)} (hf : f_L_call a1 a2 a3 a4 a5 w = some q) : MW G yL_call cL_call 8 (some .int) [(0, 16, 19, 26), (0, 16, 23, 13), (0, 16, 27, 15)] rmL_call [gr G 0, vi a1, vi a2, vi a3, vi a4, vi a5, gr G 135] w q := by
  refine MW_of (by decide +kernel) (Nat.le_of_ble_eq_true rfl) (fun E X hE => ?_)
  have X : CW G E cL_call RL (some .int) rmL_call 8 [(0, 16, 19, 26), (0, 16, 23, 13), (0, 16, 27, 15)] := X
  unfold f_L_call at hf
  refine V_gload X.1 dL_call_0 rfl ?_
  refine V_iconst X.1 dL_call_2 ?_
  refine V_gload_n X.1 dL_call_3 rfl rfl ?_
  refine V_iload_n X.1 dL_call_4 rfl rfl ?_
  refine V_iload_n X.1 dL_call_5 rfl rfl ?_
  refine V_iload_n X.1 dL_call_6 rfl rfl ?_
  refine V_iload X.1 dL_call_7 rfl ?_
  refine V_iload X.1 dL_call_9 rfl ?_
  refine V_wVI X hf [vi a1, vi a2, vi a3, vi a4, vi a5] _ 5 (fun _ h => m_X8_call h) ob_0 rfl tw_902 tw_86 tw_899 tw_900 tw_901 dL_call_11 ⟨by decide +kernel, by decide +kernel, by decide +kernel⟩ ⟨Nat.le_of_ble_eq_true rfl, Nat.le_of_ble_eq_true rfl⟩ rfl (Nat.le_of_ble_eq_true rfl) ⟨Nat.le_of_ble_eq_true rfl, Nat.le_of_ble_eq_true rfl⟩ (fun t w2 ht hf => ?_) (fun r1 w1 hf => ?_)
  · refine ite_c hf (fun h hf => ?_) (fun _ hf => ?_)
    · subst h
      refine ⟨[], [(0, 16, 23, 13), (0, 16, 27, 15)], (0, 16, 19, 26), rfl, (fun z hz => by cases hz), by decide, by decide, by decide, tw_645, nw_42, fun a9 => ?_⟩
      refine V_astore X.1 dL_call_19 (by decide) ?_
      refine V_iconst X.1 dL_call_21 ?_
      exact V_iretW X hE dL_call_22 ⟨Nat.le_of_ble_eq_true rfl, Nat.le_of_ble_eq_true rfl⟩ hf
    refine ite_c hf (fun h hf => ?_) (fun _ hf => ?_)
    · subst h
      refine ⟨[(0, 16, 19, 26)], [(0, 16, 27, 15)], (0, 16, 23, 13), rfl, (List.forall_mem_cons.mpr ⟨⟨by decide, 3, tw_645, by decide, by decide, by decide⟩, (fun z hz => by cases hz)⟩), by decide, by decide, by decide, tw_504, nw_34, fun a9 => ?_⟩
      refine V_astore X.1 dL_call_23 (by decide) ?_
      refine V_iconst X.1 dL_call_25 ?_
      exact V_iretW X hE dL_call_26 ⟨Nat.le_of_ble_eq_true rfl, Nat.le_of_ble_eq_true rfl⟩ hf
    refine ite_c hf (fun h hf => ?_) (fun _ hf => ?_)
    · subst h
      refine ⟨[(0, 16, 19, 26), (0, 16, 23, 13)], [], (0, 16, 27, 15), rfl, (List.forall_mem_cons.mpr ⟨⟨by decide, 3, tw_645, by decide, by decide, by decide⟩, (List.forall_mem_cons.mpr ⟨⟨by decide, 1, tw_504, by decide, by decide, by decide⟩, (fun z hz => by cases hz)⟩)⟩), by decide, by decide, by decide, tw_505, nw_38, fun a9 => ?_⟩
      refine V_astore X.1 dL_call_27 (by decide) ?_
      refine V_iconst X.1 dL_call_29 ?_
      exact V_iretW X hE dL_call_30 ⟨Nat.le_of_ble_eq_true rfl, Nat.le_of_ble_eq_true rfl⟩ hf
    cases hf
  · refine V_i2l X.1 dL_call_14 ?_
    refine V_last X.1 ar_135 dL_call_15 hf (fun hf => ?_)
    refine V_goto X.1 (tgt := 31) dL_call_16 (by decide) ?_
    refine V_iconst X.1 dL_call_31 ?_
    exact V_iretW X hE dL_call_32 ⟨Nat.le_of_ble_eq_true rfl, Nat.le_of_ble_eq_true rfl⟩ hf
abbrev rmL_define : Room := { frames := 10, cells := 3, slots := 18, locals := 445 }
set_option maxRecDepth 20000 in
theorem m_L_define {G : GG} {a1 : Int} {a2 : Int} {a3 : Int} {a4 : Int} {a5 : Int} {w : WS} {q : (Int × WS)} (hf : f_L_define a1 a2 a3 a4 a5 w = some q) : MW G yL_define cL_define 8 (some .int) [(0, 23, 26, 13), (0, 23, 30, 26)] rmL_define [gr G 0, vi a1, vi a2, vi a3, vi a4, vi a5, gr G 135] w q := by
  refine MW_of (by decide +kernel) (Nat.le_of_ble_eq_true rfl) (fun E X hE => ?_)
  have X : CW G E cL_define RL (some .int) rmL_define 8 [(0, 23, 26, 13), (0, 23, 30, 26)] := X
  unfold f_L_define at hf
  refine V_gload X.1 dL_define_0 rfl ?_
  refine V_iconst X.1 dL_define_2 ?_
  refine V_gload_n X.1 dL_define_3 rfl rfl ?_
  refine V_iload_n X.1 dL_define_4 rfl rfl ?_
  refine V_iload_n X.1 dL_define_5 rfl rfl ?_
  refine V_iload_n X.1 dL_define_6 rfl rfl ?_
  refine V_iload X.1 dL_define_7 rfl ?_
  refine V_iload X.1 dL_define_9 rfl ?_
  refine V_wVI X hf [vi a1, vi a2, vi a3, vi a4, vi a5] _ 5 (fun _ h => m_X8_define h) ob_0 rfl tw_910 tw_86 tw_907 tw_908 tw_909 dL_define_11 ⟨by decide +kernel, by decide +kernel, by decide +kernel⟩ ⟨Nat.le_of_ble_eq_true rfl, Nat.le_of_ble_eq_true rfl⟩ rfl (Nat.le_of_ble_eq_true rfl) ⟨Nat.le_of_ble_eq_true rfl, Nat.le_of_ble_eq_true rfl⟩ (fun t w2 ht hf => ?_) (fun r1 w1 hf => ?_)
  · refine ite_c hf (fun h hf => ?_) (fun _ hf => ?_)
    · subst h
      refine ⟨[], [(0, 23, 30, 26)], (0, 23, 26, 13), rfl, (fun z hz => by cases hz), by decide, by decide, by decide, tw_504, nw_34, fun a9 => ?_⟩
      refine V_astore X.1 dL_define_26 (by decide) ?_
      refine V_iconst X.1 dL_define_28 ?_
      exact V_iretW X hE dL_define_29 ⟨Nat.le_of_ble_eq_true rfl, Nat.le_of_ble_eq_true rfl⟩ hf
    refine ite_c hf (fun h hf => ?_) (fun _ hf => ?_)
    · subst h
      refine ⟨[(0, 23, 26, 13)], [], (0, 23, 30, 26), rfl, (List.forall_mem_cons.mpr ⟨⟨by decide, 1, tw_504, by decide, by decide, by decide⟩, (fun z hz => by cases hz)⟩), by decide, by decide, by decide, tw_645, nw_42, fun a9 => ?_⟩
      refine V_astore X.1 dL_define_30 (by decide) ?_
      refine V_iconst X.1 dL_define_32 ?_
      exact V_iretW X hE dL_define_33 ⟨Nat.le_of_ble_eq_true rfl, Nat.le_of_ble_eq_true rfl⟩ hf
    cases hf
  · refine V_if_eq X.1 (tgt := 21) dL_define_14 (by decide) hf (fun hf => ?_) (fun hf => ?_)
    · refine V_lconst (a := 0) X.1 dL_define_21 (by decide) ?_
      refine V_last X.1 ar_135 dL_define_22 hf (fun hf => ?_)
      refine V_goto X.1 (tgt := 34) dL_define_23 (by decide) ?_
      refine V_iconst X.1 dL_define_34 ?_
      exact V_iretW X hE dL_define_35 ⟨Nat.le_of_ble_eq_true rfl, Nat.le_of_ble_eq_true rfl⟩ hf
    · refine V_lconst (a := 1) X.1 dL_define_17 (by decide) ?_
      refine V_goto X.1 (tgt := 22) dL_define_18 (by decide) ?_
      refine V_last X.1 ar_135 dL_define_22 hf (fun hf => ?_)
      refine V_goto X.1 (tgt := 34) dL_define_23 (by decide) ?_
      refine V_iconst X.1 dL_define_34 ?_
      exact V_iretW X hE dL_define_35 ⟨Nat.le_of_ble_eq_true rfl, Nat.le_of_ble_eq_true rfl⟩ hf
abbrev rmL_run : Room := { frames := 10, cells := 1, slots := 6, locals := 443 }
set_option maxRecDepth 20000 in
theorem m_L_run {G : GG} {a1 : Int} {a2 : Int} {w : WS} {q : (Int × WS)} (hf : f_L_run a1 a2 w = some q) : MW G yL_run cL_run 5 (some .int) [(0, 10, 13, 13), (0, 10, 17, 26)] rmL_run [gr G 0, vi a1, vi a2, gr G 135] w q := by
  refine MW_of (by decide +kernel) (Nat.le_of_ble_eq_true rfl) (fun E X hE => ?_)
  have X : CW G E cL_run RL (some .int) rmL_run 5 [(0, 10, 13, 13), (0, 10, 17, 26)] := X
  unfold f_L_run at hf
  refine V_gload_n X.1 dL_run_0 rfl rfl ?_
  refine V_iconst X.1 dL_run_1 ?_
  refine V_gload_n X.1 dL_run_2 rfl rfl ?_
  refine V_iload_n X.1 dL_run_3 rfl rfl ?_
  refine V_iload_n X.1 dL_run_4 rfl rfl ?_
  refine V_wVI X hf [vi a1, vi a2] _ 2 (fun _ h => m_X8_run h) ob_0 rfl tw_924 tw_86 tw_921 tw_922 tw_923 dL_run_5 ⟨by decide +kernel, by decide +kernel, by decide +kernel⟩ ⟨Nat.le_of_ble_eq_true rfl, Nat.le_of_ble_eq_true rfl⟩ rfl (Nat.le_of_ble_eq_true rfl) ⟨Nat.le_of_ble_eq_true rfl, Nat.le_of_ble_eq_true rfl⟩ (fun t w2 ht hf => ?_) (fun r1 w1 hf => ?_)
  · refine ite_c hf (fun h hf => ?_) (fun _ hf => ?_)
    · subst h
      refine ⟨[], [(0, 10, 17, 26)], (0, 10, 13, 13), rfl, (fun z hz => by cases hz), by decide, by decide, by decide, tw_504, nw_34, fun a9 => ?_⟩
      refine V_astore X.1 dL_run_13 (by decide) ?_
      refine V_iconst X.1 dL_run_15 ?_
      exact V_iretW X hE dL_run_16 ⟨Nat.le_of_ble_eq_true rfl, Nat.le_of_ble_eq_true rfl⟩ hf
    refine ite_c hf (fun h hf => ?_) (fun _ hf => ?_)
    · subst h
      refine ⟨[(0, 10, 13, 13)], [], (0, 10, 17, 26), rfl, (List.forall_mem_cons.mpr ⟨⟨by decide, 1, tw_504, by decide, by decide, by decide⟩, (fun z hz => by cases hz)⟩), by decide, by decide, by decide, tw_645, nw_42, fun a9 => ?_⟩
      refine V_astore X.1 dL_run_17 (by decide) ?_
      refine V_iconst X.1 dL_run_19 ?_
      exact V_iretW X hE dL_run_20 ⟨Nat.le_of_ble_eq_true rfl, Nat.le_of_ble_eq_true rfl⟩ hf
    cases hf
  · refine V_i2l X.1 dL_run_8 ?_
    refine V_last X.1 ar_135 dL_run_9 hf (fun hf => ?_)
    refine V_goto X.1 (tgt := 21) dL_run_10 (by decide) ?_
    refine V_iconst X.1 dL_run_21 ?_
    exact V_iretW X hE dL_run_22 ⟨Nat.le_of_ble_eq_true rfl, Nat.le_of_ble_eq_true rfl⟩ hf
abbrev rmL_error : Room := { frames := 10, cells := 2, slots := 12, locals := 440 }
set_option maxRecDepth 20000 in
theorem m_L_error {G : GG}  {w : WS} {q : (Int × WS)} (hf : f_L_error  w = some q) : MW G yL_error cL_error 3 (some .int) [(0, 8, 11, 15), (0, 8, 14, 35)] rmL_error [gr G 0, gr G 135] w q := by
  refine MW_of (by decide +kernel) (Nat.le_of_ble_eq_true rfl) (fun E X hE => ?_)
  have X : CW G E cL_error RL (some .int) rmL_error 3 [(0, 8, 11, 15), (0, 8, 14, 35)] := X
  unfold f_L_error at hf
  refine V_gload_n X.1 dL_error_0 rfl rfl ?_
  refine V_iconst X.1 dL_error_1 ?_
  refine V_gload_n X.1 dL_error_2 rfl rfl ?_
  refine V_wVI X hf [] _ 0 (fun _ h => m_X8_error h) ob_0 rfl tw_1152 tw_86 tw_1149 tw_1150 tw_1151 dL_error_3 ⟨by decide +kernel, by decide +kernel, by decide +kernel⟩ ⟨Nat.le_of_ble_eq_true rfl, Nat.le_of_ble_eq_true rfl⟩ rfl (Nat.le_of_ble_eq_true rfl) ⟨Nat.le_of_ble_eq_true rfl, Nat.le_of_ble_eq_true rfl⟩ (fun t w2 ht hf => ?_) (fun r1 w1 hf => ?_)
  · refine ite_c hf (fun h hf => ?_) (fun _ hf => ?_)
    · subst h
      refine ⟨[], [(0, 8, 14, 35)], (0, 8, 11, 15), rfl, (fun z hz => by cases hz), by decide, by decide, by decide, tw_505, nw_38, fun a9 => ?_⟩
      refine V_astore_n X.1 dL_error_11 rfl (by decide) ?_
      refine V_iconst X.1 dL_error_12 ?_
      exact V_iretW X hE dL_error_13 ⟨Nat.le_of_ble_eq_true rfl, Nat.le_of_ble_eq_true rfl⟩ hf
    refine ite_c hf (fun h hf => ?_) (fun _ hf => ?_)
    · subst h
      refine ⟨[(0, 8, 11, 15)], [], (0, 8, 14, 35), rfl, (List.forall_mem_cons.mpr ⟨⟨by decide, 2, tw_505, by decide, by decide, by decide⟩, (fun z hz => by cases hz)⟩), by decide, by decide, by decide, tw_702, nw_43, fun a9 => ?_⟩
      refine V_astore_n X.1 dL_error_14 rfl (by decide) ?_
      refine V_iconst X.1 dL_error_15 ?_
      exact V_iretW X hE dL_error_16 ⟨Nat.le_of_ble_eq_true rfl, Nat.le_of_ble_eq_true rfl⟩ hf
    cases hf
  · refine V_i2l X.1 dL_error_6 ?_
    refine V_last X.1 ar_135 dL_error_7 hf (fun hf => ?_)
    refine V_goto X.1 (tgt := 17) dL_error_8 (by decide) ?_
    refine V_iconst X.1 dL_error_17 ?_
    exact V_iretW X hE dL_error_18 ⟨Nat.le_of_ble_eq_true rfl, Nat.le_of_ble_eq_true rfl⟩ hf
abbrev rmL_last : Room := { frames := 10, cells := 1, slots := 6, locals := 440 }
set_option maxRecDepth 20000 in
theorem m_L_last {G : GG}  {w : WS} {q : (Int × WS)} (hf : f_L_last  w = some q) : MW G yL_last cL_last 3 (some .int) [(0, 8, 11, 15)] rmL_last [gr G 0, gr G 135] w q := by
  refine MW_of (by decide +kernel) (Nat.le_of_ble_eq_true rfl) (fun E X hE => ?_)
  have X : CW G E cL_last RL (some .int) rmL_last 3 [(0, 8, 11, 15)] := X
  unfold f_L_last at hf
  refine V_gload_n X.1 dL_last_0 rfl rfl ?_
  refine V_iconst X.1 dL_last_1 ?_
  refine V_gload_n X.1 dL_last_2 rfl rfl ?_
  refine V_wVI X hf [] _ 0 (fun _ h => m_X8_last h) ob_0 rfl tw_1165 tw_86 tw_1162 tw_1163 tw_1164 dL_last_3 ⟨by decide +kernel, by decide +kernel, by decide +kernel⟩ ⟨Nat.le_of_ble_eq_true rfl, Nat.le_of_ble_eq_true rfl⟩ rfl (Nat.le_of_ble_eq_true rfl) ⟨Nat.le_of_ble_eq_true rfl, Nat.le_of_ble_eq_true rfl⟩ (fun t w2 ht hf => ?_) (fun r1 w1 hf => ?_)
  · refine ite_c hf (fun h hf => ?_) (fun _ hf => ?_)
    · subst h
      refine ⟨[], [], (0, 8, 11, 15), rfl, (fun z hz => by cases hz), by decide, by decide, by decide, tw_505, nw_38, fun a9 => ?_⟩
      refine V_astore_n X.1 dL_last_11 rfl (by decide) ?_
      refine V_iconst X.1 dL_last_12 ?_
      exact V_iretW X hE dL_last_13 ⟨Nat.le_of_ble_eq_true rfl, Nat.le_of_ble_eq_true rfl⟩ hf
    cases hf
  · refine V_i2l X.1 dL_last_6 ?_
    refine V_last X.1 ar_135 dL_last_7 hf (fun hf => ?_)
    refine V_goto X.1 (tgt := 14) dL_last_8 (by decide) ?_
    refine V_iconst X.1 dL_last_14 ?_
    exact V_iretW X hE dL_last_15 ⟨Nat.le_of_ble_eq_true rfl, Nat.le_of_ble_eq_true rfl⟩ hf
abbrev rmL_steps : Room := { frames := 10, cells := 1, slots := 6, locals := 440 }
set_option maxRecDepth 20000 in
theorem m_L_steps {G : GG}  {w : WS} {q : (Int × WS)} (hf : f_L_steps  w = some q) : MW G yL_steps cL_steps 3 (some .int) [(0, 8, 11, 15)] rmL_steps [gr G 0, gr G 135] w q := by
  refine MW_of (by decide +kernel) (Nat.le_of_ble_eq_true rfl) (fun E X hE => ?_)
  have X : CW G E cL_steps RL (some .int) rmL_steps 3 [(0, 8, 11, 15)] := X
  unfold f_L_steps at hf
  refine V_gload_n X.1 dL_steps_0 rfl rfl ?_
  refine V_iconst X.1 dL_steps_1 ?_
  refine V_gload_n X.1 dL_steps_2 rfl rfl ?_
  refine V_wVI X hf [] _ 0 (fun _ h => m_X8_steps h) ob_0 rfl tw_1172 tw_86 tw_1169 tw_1170 tw_1171 dL_steps_3 ⟨by decide +kernel, by decide +kernel, by decide +kernel⟩ ⟨Nat.le_of_ble_eq_true rfl, Nat.le_of_ble_eq_true rfl⟩ rfl (Nat.le_of_ble_eq_true rfl) ⟨Nat.le_of_ble_eq_true rfl, Nat.le_of_ble_eq_true rfl⟩ (fun t w2 ht hf => ?_) (fun r1 w1 hf => ?_)
  · refine ite_c hf (fun h hf => ?_) (fun _ hf => ?_)
    · subst h
      refine ⟨[], [], (0, 8, 11, 15), rfl, (fun z hz => by cases hz), by decide, by decide, by decide, tw_505, nw_38, fun a9 => ?_⟩
      refine V_astore_n X.1 dL_steps_11 rfl (by decide) ?_
      refine V_iconst X.1 dL_steps_12 ?_
      exact V_iretW X hE dL_steps_13 ⟨Nat.le_of_ble_eq_true rfl, Nat.le_of_ble_eq_true rfl⟩ hf
    cases hf
  · refine V_i2l X.1 dL_steps_6 ?_
    refine V_last X.1 ar_135 dL_steps_7 hf (fun hf => ?_)
    refine V_goto X.1 (tgt := 14) dL_steps_8 (by decide) ?_
    refine V_iconst X.1 dL_steps_14 ?_
    exact V_iretW X hE dL_steps_15 ⟨Nat.le_of_ble_eq_true rfl, Nat.le_of_ble_eq_true rfl⟩ hf
abbrev rmL_done : Room := { frames := 10, cells := 2, slots := 12, locals := 442 }
set_option maxRecDepth 20000 in
theorem m_L_done {G : GG} {a1 : Int} {w : WS} {q : (Int × WS)} (hf : f_L_done a1 w = some q) : MW G yL_done cL_done 4 (some .int) [(0, 9, 12, 15), (0, 9, 15, 26)] rmL_done [gr G 0, vi a1, gr G 135] w q := by
  refine MW_of (by decide +kernel) (Nat.le_of_ble_eq_true rfl) (fun E X hE => ?_)
  have X : CW G E cL_done RL (some .int) rmL_done 4 [(0, 9, 12, 15), (0, 9, 15, 26)] := X
  unfold f_L_done at hf
  refine V_gload_n X.1 dL_done_0 rfl rfl ?_
  refine V_iconst X.1 dL_done_1 ?_
  refine V_gload_n X.1 dL_done_2 rfl rfl ?_
  refine V_iload_n X.1 dL_done_3 rfl rfl ?_
  refine V_wVI X hf [vi a1] _ 1 (fun _ h => m_X8_done h) ob_0 rfl tw_1179 tw_86 tw_1176 tw_1177 tw_1178 dL_done_4 ⟨by decide +kernel, by decide +kernel, by decide +kernel⟩ ⟨Nat.le_of_ble_eq_true rfl, Nat.le_of_ble_eq_true rfl⟩ rfl (Nat.le_of_ble_eq_true rfl) ⟨Nat.le_of_ble_eq_true rfl, Nat.le_of_ble_eq_true rfl⟩ (fun t w2 ht hf => ?_) (fun r1 w1 hf => ?_)
  · refine ite_c hf (fun h hf => ?_) (fun _ hf => ?_)
    · subst h
      refine ⟨[], [(0, 9, 15, 26)], (0, 9, 12, 15), rfl, (fun z hz => by cases hz), by decide, by decide, by decide, tw_505, nw_38, fun a9 => ?_⟩
      refine V_astore_n X.1 dL_done_12 rfl (by decide) ?_
      refine V_iconst X.1 dL_done_13 ?_
      exact V_iretW X hE dL_done_14 ⟨Nat.le_of_ble_eq_true rfl, Nat.le_of_ble_eq_true rfl⟩ hf
    refine ite_c hf (fun h hf => ?_) (fun _ hf => ?_)
    · subst h
      refine ⟨[(0, 9, 12, 15)], [], (0, 9, 15, 26), rfl, (List.forall_mem_cons.mpr ⟨⟨by decide, 2, tw_505, by decide, by decide, by decide⟩, (fun z hz => by cases hz)⟩), by decide, by decide, by decide, tw_645, nw_42, fun a9 => ?_⟩
      refine V_astore_n X.1 dL_done_15 rfl (by decide) ?_
      refine V_iconst X.1 dL_done_16 ?_
      exact V_iretW X hE dL_done_17 ⟨Nat.le_of_ble_eq_true rfl, Nat.le_of_ble_eq_true rfl⟩ hf
    cases hf
  · refine V_i2l X.1 dL_done_7 ?_
    refine V_last X.1 ar_135 dL_done_8 hf (fun hf => ?_)
    refine V_goto X.1 (tgt := 18) dL_done_9 (by decide) ?_
    refine V_iconst X.1 dL_done_18 ?_
    exact V_iretW X hE dL_done_19 ⟨Nat.le_of_ble_eq_true rfl, Nat.le_of_ble_eq_true rfl⟩ hf
abbrev rmL_failed : Room := { frames := 10, cells := 2, slots := 12, locals := 442 }
set_option maxRecDepth 20000 in
theorem m_L_failed {G : GG} {a1 : Int} {w : WS} {q : (Int × WS)} (hf : f_L_failed a1 w = some q) : MW G yL_failed cL_failed 4 (some .int) [(0, 9, 12, 15), (0, 9, 15, 26)] rmL_failed [gr G 0, vi a1, gr G 135] w q := by
  refine MW_of (by decide +kernel) (Nat.le_of_ble_eq_true rfl) (fun E X hE => ?_)
  have X : CW G E cL_failed RL (some .int) rmL_failed 4 [(0, 9, 12, 15), (0, 9, 15, 26)] := X
  unfold f_L_failed at hf
  refine V_gload_n X.1 dL_failed_0 rfl rfl ?_
  refine V_iconst X.1 dL_failed_1 ?_
  refine V_gload_n X.1 dL_failed_2 rfl rfl ?_
  refine V_iload_n X.1 dL_failed_3 rfl rfl ?_
  refine V_wVI X hf [vi a1] _ 1 (fun _ h => m_X8_failed h) ob_0 rfl tw_1187 tw_86 tw_1184 tw_1185 tw_1186 dL_failed_4 ⟨by decide +kernel, by decide +kernel, by decide +kernel⟩ ⟨Nat.le_of_ble_eq_true rfl, Nat.le_of_ble_eq_true rfl⟩ rfl (Nat.le_of_ble_eq_true rfl) ⟨Nat.le_of_ble_eq_true rfl, Nat.le_of_ble_eq_true rfl⟩ (fun t w2 ht hf => ?_) (fun r1 w1 hf => ?_)
  · refine ite_c hf (fun h hf => ?_) (fun _ hf => ?_)
    · subst h
      refine ⟨[], [(0, 9, 15, 26)], (0, 9, 12, 15), rfl, (fun z hz => by cases hz), by decide, by decide, by decide, tw_505, nw_38, fun a9 => ?_⟩
      refine V_astore_n X.1 dL_failed_12 rfl (by decide) ?_
      refine V_iconst X.1 dL_failed_13 ?_
      exact V_iretW X hE dL_failed_14 ⟨Nat.le_of_ble_eq_true rfl, Nat.le_of_ble_eq_true rfl⟩ hf
    refine ite_c hf (fun h hf => ?_) (fun _ hf => ?_)
    · subst h
      refine ⟨[(0, 9, 12, 15)], [], (0, 9, 15, 26), rfl, (List.forall_mem_cons.mpr ⟨⟨by decide, 2, tw_505, by decide, by decide, by decide⟩, (fun z hz => by cases hz)⟩), by decide, by decide, by decide, tw_645, nw_42, fun a9 => ?_⟩
      refine V_astore_n X.1 dL_failed_15 rfl (by decide) ?_
      refine V_iconst X.1 dL_failed_16 ?_
      exact V_iretW X hE dL_failed_17 ⟨Nat.le_of_ble_eq_true rfl, Nat.le_of_ble_eq_true rfl⟩ hf
    cases hf
  · refine V_i2l X.1 dL_failed_7 ?_
    refine V_last X.1 ar_135 dL_failed_8 hf (fun hf => ?_)
    refine V_goto X.1 (tgt := 18) dL_failed_9 (by decide) ?_
    refine V_iconst X.1 dL_failed_18 ?_
    exact V_iretW X hE dL_failed_19 ⟨Nat.le_of_ble_eq_true rfl, Nat.le_of_ble_eq_true rfl⟩ hf
abbrev rmL_depth : Room := { frames := 10, cells := 1, slots := 6, locals := 440 }
set_option maxRecDepth 20000 in
theorem m_L_depth {G : GG}  {w : WS} {q : (Int × WS)} (hf : f_L_depth  w = some q) : MW G yL_depth cL_depth 3 (some .int) [(0, 8, 11, 15)] rmL_depth [gr G 0, gr G 135] w q := by
  refine MW_of (by decide +kernel) (Nat.le_of_ble_eq_true rfl) (fun E X hE => ?_)
  have X : CW G E cL_depth RL (some .int) rmL_depth 3 [(0, 8, 11, 15)] := X
  unfold f_L_depth at hf
  refine V_gload_n X.1 dL_depth_0 rfl rfl ?_
  refine V_iconst X.1 dL_depth_1 ?_
  refine V_gload_n X.1 dL_depth_2 rfl rfl ?_
  refine V_wVI X hf [] _ 0 (fun _ h => m_X8_depth h) ob_0 rfl tw_1194 tw_86 tw_1191 tw_1192 tw_1193 dL_depth_3 ⟨by decide +kernel, by decide +kernel, by decide +kernel⟩ ⟨Nat.le_of_ble_eq_true rfl, Nat.le_of_ble_eq_true rfl⟩ rfl (Nat.le_of_ble_eq_true rfl) ⟨Nat.le_of_ble_eq_true rfl, Nat.le_of_ble_eq_true rfl⟩ (fun t w2 ht hf => ?_) (fun r1 w1 hf => ?_)
  · refine ite_c hf (fun h hf => ?_) (fun _ hf => ?_)
    · subst h
      refine ⟨[], [], (0, 8, 11, 15), rfl, (fun z hz => by cases hz), by decide, by decide, by decide, tw_505, nw_38, fun a9 => ?_⟩
      refine V_astore_n X.1 dL_depth_11 rfl (by decide) ?_
      refine V_iconst X.1 dL_depth_12 ?_
      exact V_iretW X hE dL_depth_13 ⟨Nat.le_of_ble_eq_true rfl, Nat.le_of_ble_eq_true rfl⟩ hf
    cases hf
  · refine V_i2l X.1 dL_depth_6 ?_
    refine V_last X.1 ar_135 dL_depth_7 hf (fun hf => ?_)
    refine V_goto X.1 (tgt := 14) dL_depth_8 (by decide) ?_
    refine V_iconst X.1 dL_depth_14 ?_
    exact V_iretW X hE dL_depth_15 ⟨Nat.le_of_ble_eq_true rfl, Nat.le_of_ble_eq_true rfl⟩ hf
abbrev rmL_match : Room := { frames := 10, cells := 2, slots := 12, locals := 443 }
set_option maxRecDepth 20000 in
theorem m_L_match {G : GG} {a1 : Int} {w : WS} {q : (Int × WS)} (hf : f_L_match a1 w = some q) : MW G yL_match cL_match 4 (some .int) [(0, 16, 19, 26), (0, 16, 22, 85)] rmL_match [gr G 0, vi a1, gr G 135] w q := by
  refine MW_of (by decide +kernel) (Nat.le_of_ble_eq_true rfl) (fun E X hE => ?_)
  have X : CW G E cL_match RL (some .int) rmL_match 4 [(0, 16, 19, 26), (0, 16, 22, 85)] := X
  unfold f_L_match at hf
  refine V_gload_n X.1 dL_match_0 rfl rfl ?_
  refine V_iconst X.1 dL_match_1 ?_
  refine V_gload_n X.1 dL_match_2 rfl rfl ?_
  refine V_iload_n X.1 dL_match_3 rfl rfl ?_
  refine V_wVI X hf [vi a1] _ 1 (fun _ h => m_X8_match h) ob_0 rfl tw_1215 tw_86 tw_1212 tw_1213 tw_1214 dL_match_4 ⟨by decide +kernel, by decide +kernel, by decide +kernel⟩ ⟨Nat.le_of_ble_eq_true rfl, Nat.le_of_ble_eq_true rfl⟩ rfl (Nat.le_of_ble_eq_true rfl) ⟨Nat.le_of_ble_eq_true rfl, Nat.le_of_ble_eq_true rfl⟩ (fun t w2 ht hf => ?_) (fun r1 w1 hf => ?_)
  · refine ite_c hf (fun h hf => ?_) (fun _ hf => ?_)
    · subst h
      refine ⟨[], [(0, 16, 22, 85)], (0, 16, 19, 26), rfl, (fun z hz => by cases hz), by decide, by decide, by decide, tw_645, nw_42, fun a9 => ?_⟩
      refine V_astore_n X.1 dL_match_19 rfl (by decide) ?_
      refine V_iconst X.1 dL_match_20 ?_
      exact V_iretW X hE dL_match_21 ⟨Nat.le_of_ble_eq_true rfl, Nat.le_of_ble_eq_true rfl⟩ hf
    refine ite_c hf (fun h hf => ?_) (fun _ hf => ?_)
    · subst h
      refine ⟨[(0, 16, 19, 26)], [], (0, 16, 22, 85), rfl, (List.forall_mem_cons.mpr ⟨⟨by decide, 3, tw_645, by decide, by decide, by decide⟩, (fun z hz => by cases hz)⟩), by decide, by decide, by decide, tw_1198, nw_44, fun a9 => ?_⟩
      refine V_astore_n X.1 dL_match_22 rfl (by decide) ?_
      refine V_iconst X.1 dL_match_23 ?_
      exact V_iretW X hE dL_match_24 ⟨Nat.le_of_ble_eq_true rfl, Nat.le_of_ble_eq_true rfl⟩ hf
    cases hf
  · refine V_if_eq X.1 (tgt := 14) dL_match_7 (by decide) hf (fun hf => ?_) (fun hf => ?_)
    · refine V_lconst (a := 0) X.1 dL_match_14 (by decide) ?_
      refine V_last X.1 ar_135 dL_match_15 hf (fun hf => ?_)
      refine V_goto X.1 (tgt := 25) dL_match_16 (by decide) ?_
      refine V_iconst X.1 dL_match_25 ?_
      exact V_iretW X hE dL_match_26 ⟨Nat.le_of_ble_eq_true rfl, Nat.le_of_ble_eq_true rfl⟩ hf
    · refine V_lconst (a := 1) X.1 dL_match_10 (by decide) ?_
      refine V_goto X.1 (tgt := 15) dL_match_11 (by decide) ?_
      refine V_last X.1 ar_135 dL_match_15 hf (fun hf => ?_)
      refine V_goto X.1 (tgt := 25) dL_match_16 (by decide) ?_
      refine V_iconst X.1 dL_match_25 ?_
      exact V_iretW X hE dL_match_26 ⟨Nat.le_of_ble_eq_true rfl, Nat.le_of_ble_eq_true rfl⟩ hf
abbrev rmL_from : Room := { frames := 10, cells := 2, slots := 12, locals := 440 }
set_option maxRecDepth 20000 in
theorem m_L_from {G : GG}  {w : WS} {q : (Int × WS)} (hf : f_L_from  w = some q) : MW G yL_from cL_from 3 (some .int) [(0, 8, 11, 15), (0, 8, 14, 35)] rmL_from [gr G 0, gr G 135] w q := by
  refine MW_of (by decide +kernel) (Nat.le_of_ble_eq_true rfl) (fun E X hE => ?_)
  have X : CW G E cL_from RL (some .int) rmL_from 3 [(0, 8, 11, 15), (0, 8, 14, 35)] := X
  unfold f_L_from at hf
  refine V_gload_n X.1 dL_from_0 rfl rfl ?_
  refine V_iconst X.1 dL_from_1 ?_
  refine V_gload_n X.1 dL_from_2 rfl rfl ?_
  refine V_wVI X hf [] _ 0 (fun _ h => m_X8_from h) ob_0 rfl tw_1233 tw_86 tw_1230 tw_1231 tw_1232 dL_from_3 ⟨by decide +kernel, by decide +kernel, by decide +kernel⟩ ⟨Nat.le_of_ble_eq_true rfl, Nat.le_of_ble_eq_true rfl⟩ rfl (Nat.le_of_ble_eq_true rfl) ⟨Nat.le_of_ble_eq_true rfl, Nat.le_of_ble_eq_true rfl⟩ (fun t w2 ht hf => ?_) (fun r1 w1 hf => ?_)
  · refine ite_c hf (fun h hf => ?_) (fun _ hf => ?_)
    · subst h
      refine ⟨[], [(0, 8, 14, 35)], (0, 8, 11, 15), rfl, (fun z hz => by cases hz), by decide, by decide, by decide, tw_505, nw_38, fun a9 => ?_⟩
      refine V_astore_n X.1 dL_from_11 rfl (by decide) ?_
      refine V_iconst X.1 dL_from_12 ?_
      exact V_iretW X hE dL_from_13 ⟨Nat.le_of_ble_eq_true rfl, Nat.le_of_ble_eq_true rfl⟩ hf
    refine ite_c hf (fun h hf => ?_) (fun _ hf => ?_)
    · subst h
      refine ⟨[(0, 8, 11, 15)], [], (0, 8, 14, 35), rfl, (List.forall_mem_cons.mpr ⟨⟨by decide, 2, tw_505, by decide, by decide, by decide⟩, (fun z hz => by cases hz)⟩), by decide, by decide, by decide, tw_702, nw_43, fun a9 => ?_⟩
      refine V_astore_n X.1 dL_from_14 rfl (by decide) ?_
      refine V_iconst X.1 dL_from_15 ?_
      exact V_iretW X hE dL_from_16 ⟨Nat.le_of_ble_eq_true rfl, Nat.le_of_ble_eq_true rfl⟩ hf
    cases hf
  · refine V_i2l X.1 dL_from_6 ?_
    refine V_last X.1 ar_135 dL_from_7 hf (fun hf => ?_)
    refine V_goto X.1 (tgt := 17) dL_from_8 (by decide) ?_
    refine V_iconst X.1 dL_from_17 ?_
    exact V_iretW X hE dL_from_18 ⟨Nat.le_of_ble_eq_true rfl, Nat.le_of_ble_eq_true rfl⟩ hf
abbrev rmL_to : Room := { frames := 10, cells := 2, slots := 12, locals := 440 }
set_option maxRecDepth 20000 in
theorem m_L_to {G : GG}  {w : WS} {q : (Int × WS)} (hf : f_L_to  w = some q) : MW G yL_to cL_to 3 (some .int) [(0, 8, 11, 15), (0, 8, 14, 35)] rmL_to [gr G 0, gr G 135] w q := by
  refine MW_of (by decide +kernel) (Nat.le_of_ble_eq_true rfl) (fun E X hE => ?_)
  have X : CW G E cL_to RL (some .int) rmL_to 3 [(0, 8, 11, 15), (0, 8, 14, 35)] := X
  unfold f_L_to at hf
  refine V_gload_n X.1 dL_to_0 rfl rfl ?_
  refine V_iconst X.1 dL_to_1 ?_
  refine V_gload_n X.1 dL_to_2 rfl rfl ?_
  refine V_wVI X hf [] _ 0 (fun _ h => m_X8_to h) ob_0 rfl tw_1250 tw_86 tw_1247 tw_1248 tw_1249 dL_to_3 ⟨by decide +kernel, by decide +kernel, by decide +kernel⟩ ⟨Nat.le_of_ble_eq_true rfl, Nat.le_of_ble_eq_true rfl⟩ rfl (Nat.le_of_ble_eq_true rfl) ⟨Nat.le_of_ble_eq_true rfl, Nat.le_of_ble_eq_true rfl⟩ (fun t w2 ht hf => ?_) (fun r1 w1 hf => ?_)
  · refine ite_c hf (fun h hf => ?_) (fun _ hf => ?_)
    · subst h
      refine ⟨[], [(0, 8, 14, 35)], (0, 8, 11, 15), rfl, (fun z hz => by cases hz), by decide, by decide, by decide, tw_505, nw_38, fun a9 => ?_⟩
      refine V_astore_n X.1 dL_to_11 rfl (by decide) ?_
      refine V_iconst X.1 dL_to_12 ?_
      exact V_iretW X hE dL_to_13 ⟨Nat.le_of_ble_eq_true rfl, Nat.le_of_ble_eq_true rfl⟩ hf
    refine ite_c hf (fun h hf => ?_) (fun _ hf => ?_)
    · subst h
      refine ⟨[(0, 8, 11, 15)], [], (0, 8, 14, 35), rfl, (List.forall_mem_cons.mpr ⟨⟨by decide, 2, tw_505, by decide, by decide, by decide⟩, (fun z hz => by cases hz)⟩), by decide, by decide, by decide, tw_702, nw_43, fun a9 => ?_⟩
      refine V_astore_n X.1 dL_to_14 rfl (by decide) ?_
      refine V_iconst X.1 dL_to_15 ?_
      exact V_iretW X hE dL_to_16 ⟨Nat.le_of_ble_eq_true rfl, Nat.le_of_ble_eq_true rfl⟩ hf
    cases hf
  · refine V_i2l X.1 dL_to_6 ?_
    refine V_last X.1 ar_135 dL_to_7 hf (fun hf => ?_)
    refine V_goto X.1 (tgt := 17) dL_to_8 (by decide) ?_
    refine V_iconst X.1 dL_to_17 ?_
    exact V_iretW X hE dL_to_18 ⟨Nat.le_of_ble_eq_true rfl, Nat.le_of_ble_eq_true rfl⟩ hf
abbrev rmL_begun : Room := { frames := 10, cells := 1, slots := 6, locals := 440 }
set_option maxRecDepth 20000 in
theorem m_L_begun {G : GG}  {w : WS} {q : (Int × WS)} (hf : f_L_begun  w = some q) : MW G yL_begun cL_begun 3 (some .int) [(0, 8, 11, 15)] rmL_begun [gr G 0, gr G 135] w q := by
  refine MW_of (by decide +kernel) (Nat.le_of_ble_eq_true rfl) (fun E X hE => ?_)
  have X : CW G E cL_begun RL (some .int) rmL_begun 3 [(0, 8, 11, 15)] := X
  unfold f_L_begun at hf
  refine V_gload_n X.1 dL_begun_0 rfl rfl ?_
  refine V_iconst X.1 dL_begun_1 ?_
  refine V_gload_n X.1 dL_begun_2 rfl rfl ?_
  refine V_wVI X hf [] _ 0 (fun _ h => m_X8_begun h) ob_0 rfl tw_1257 tw_86 tw_1254 tw_1255 tw_1256 dL_begun_3 ⟨by decide +kernel, by decide +kernel, by decide +kernel⟩ ⟨Nat.le_of_ble_eq_true rfl, Nat.le_of_ble_eq_true rfl⟩ rfl (Nat.le_of_ble_eq_true rfl) ⟨Nat.le_of_ble_eq_true rfl, Nat.le_of_ble_eq_true rfl⟩ (fun t w2 ht hf => ?_) (fun r1 w1 hf => ?_)
  · refine ite_c hf (fun h hf => ?_) (fun _ hf => ?_)
    · subst h
      refine ⟨[], [], (0, 8, 11, 15), rfl, (fun z hz => by cases hz), by decide, by decide, by decide, tw_505, nw_38, fun a9 => ?_⟩
      refine V_astore_n X.1 dL_begun_11 rfl (by decide) ?_
      refine V_iconst X.1 dL_begun_12 ?_
      exact V_iretW X hE dL_begun_13 ⟨Nat.le_of_ble_eq_true rfl, Nat.le_of_ble_eq_true rfl⟩ hf
    cases hf
  · refine V_i2l X.1 dL_begun_6 ?_
    refine V_last X.1 ar_135 dL_begun_7 hf (fun hf => ?_)
    refine V_goto X.1 (tgt := 14) dL_begun_8 (by decide) ?_
    refine V_iconst X.1 dL_begun_14 ?_
    exact V_iretW X hE dL_begun_15 ⟨Nat.le_of_ble_eq_true rfl, Nat.le_of_ble_eq_true rfl⟩ hf
abbrev rmL_ways : Room := { frames := 10, cells := 2, slots := 12, locals := 443 }
set_option maxRecDepth 20000 in
theorem m_L_ways {G : GG} {a1 : Int} {w : WS} {q : (Int × WS)} (hf : f_L_ways a1 w = some q) : MW G yL_ways cL_ways 4 (some .int) [(0, 9, 12, 26), (0, 9, 15, 85)] rmL_ways [gr G 0, vi a1, gr G 135] w q := by
  refine MW_of (by decide +kernel) (Nat.le_of_ble_eq_true rfl) (fun E X hE => ?_)
  have X : CW G E cL_ways RL (some .int) rmL_ways 4 [(0, 9, 12, 26), (0, 9, 15, 85)] := X
  unfold f_L_ways at hf
  refine V_gload_n X.1 dL_ways_0 rfl rfl ?_
  refine V_iconst X.1 dL_ways_1 ?_
  refine V_gload_n X.1 dL_ways_2 rfl rfl ?_
  refine V_iload_n X.1 dL_ways_3 rfl rfl ?_
  refine V_wVI X hf [vi a1] _ 1 (fun _ h => m_X8_ways h) ob_0 rfl tw_1264 tw_86 tw_1261 tw_1262 tw_1263 dL_ways_4 ⟨by decide +kernel, by decide +kernel, by decide +kernel⟩ ⟨Nat.le_of_ble_eq_true rfl, Nat.le_of_ble_eq_true rfl⟩ rfl (Nat.le_of_ble_eq_true rfl) ⟨Nat.le_of_ble_eq_true rfl, Nat.le_of_ble_eq_true rfl⟩ (fun t w2 ht hf => ?_) (fun r1 w1 hf => ?_)
  · refine ite_c hf (fun h hf => ?_) (fun _ hf => ?_)
    · subst h
      refine ⟨[], [(0, 9, 15, 85)], (0, 9, 12, 26), rfl, (fun z hz => by cases hz), by decide, by decide, by decide, tw_645, nw_42, fun a9 => ?_⟩
      refine V_astore_n X.1 dL_ways_12 rfl (by decide) ?_
      refine V_iconst X.1 dL_ways_13 ?_
      exact V_iretW X hE dL_ways_14 ⟨Nat.le_of_ble_eq_true rfl, Nat.le_of_ble_eq_true rfl⟩ hf
    refine ite_c hf (fun h hf => ?_) (fun _ hf => ?_)
    · subst h
      refine ⟨[(0, 9, 12, 26)], [], (0, 9, 15, 85), rfl, (List.forall_mem_cons.mpr ⟨⟨by decide, 3, tw_645, by decide, by decide, by decide⟩, (fun z hz => by cases hz)⟩), by decide, by decide, by decide, tw_1198, nw_44, fun a9 => ?_⟩
      refine V_astore_n X.1 dL_ways_15 rfl (by decide) ?_
      refine V_iconst X.1 dL_ways_16 ?_
      exact V_iretW X hE dL_ways_17 ⟨Nat.le_of_ble_eq_true rfl, Nat.le_of_ble_eq_true rfl⟩ hf
    cases hf
  · refine V_i2l X.1 dL_ways_7 ?_
    refine V_last X.1 ar_135 dL_ways_8 hf (fun hf => ?_)
    refine V_goto X.1 (tgt := 18) dL_ways_9 (by decide) ?_
    refine V_iconst X.1 dL_ways_18 ?_
    exact V_iretW X hE dL_ways_19 ⟨Nat.le_of_ble_eq_true rfl, Nat.le_of_ble_eq_true rfl⟩ hf
abbrev rmL_way : Room := { frames := 10, cells := 2, slots := 12, locals := 444 }
set_option maxRecDepth 20000 in
theorem m_L_way {G : GG} {a1 : Int} {a2 : Int} {w : WS} {q : (Int × WS)} (hf : f_L_way a1 a2 w = some q) : MW G yL_way cL_way 5 (some .int) [(0, 10, 13, 26), (0, 10, 17, 85), (0, 10, 21, 35)] rmL_way [gr G 0, vi a1, vi a2, gr G 135] w q := by
  refine MW_of (by decide +kernel) (Nat.le_of_ble_eq_true rfl) (fun E X hE => ?_)
  have X : CW G E cL_way RL (some .int) rmL_way 5 [(0, 10, 13, 26), (0, 10, 17, 85), (0, 10, 21, 35)] := X
  unfold f_L_way at hf
  refine V_gload_n X.1 dL_way_0 rfl rfl ?_
  refine V_iconst X.1 dL_way_1 ?_
  refine V_gload_n X.1 dL_way_2 rfl rfl ?_
  refine V_iload_n X.1 dL_way_3 rfl rfl ?_
  refine V_iload_n X.1 dL_way_4 rfl rfl ?_
  refine V_wVI X hf [vi a1, vi a2] _ 2 (fun _ h => m_X8_way h) ob_0 rfl tw_1276 tw_86 tw_1273 tw_1274 tw_1275 dL_way_5 ⟨by decide +kernel, by decide +kernel, by decide +kernel⟩ ⟨Nat.le_of_ble_eq_true rfl, Nat.le_of_ble_eq_true rfl⟩ rfl (Nat.le_of_ble_eq_true rfl) ⟨Nat.le_of_ble_eq_true rfl, Nat.le_of_ble_eq_true rfl⟩ (fun t w2 ht hf => ?_) (fun r1 w1 hf => ?_)
  · refine ite_c hf (fun h hf => ?_) (fun _ hf => ?_)
    · subst h
      refine ⟨[], [(0, 10, 17, 85), (0, 10, 21, 35)], (0, 10, 13, 26), rfl, (fun z hz => by cases hz), by decide, by decide, by decide, tw_645, nw_42, fun a9 => ?_⟩
      refine V_astore X.1 dL_way_13 (by decide) ?_
      refine V_iconst X.1 dL_way_15 ?_
      exact V_iretW X hE dL_way_16 ⟨Nat.le_of_ble_eq_true rfl, Nat.le_of_ble_eq_true rfl⟩ hf
    refine ite_c hf (fun h hf => ?_) (fun _ hf => ?_)
    · subst h
      refine ⟨[(0, 10, 13, 26)], [(0, 10, 21, 35)], (0, 10, 17, 85), rfl, (List.forall_mem_cons.mpr ⟨⟨by decide, 3, tw_645, by decide, by decide, by decide⟩, (fun z hz => by cases hz)⟩), by decide, by decide, by decide, tw_1198, nw_44, fun a9 => ?_⟩
      refine V_astore X.1 dL_way_17 (by decide) ?_
      refine V_iconst X.1 dL_way_19 ?_
      exact V_iretW X hE dL_way_20 ⟨Nat.le_of_ble_eq_true rfl, Nat.le_of_ble_eq_true rfl⟩ hf
    refine ite_c hf (fun h hf => ?_) (fun _ hf => ?_)
    · subst h
      refine ⟨[(0, 10, 13, 26), (0, 10, 17, 85)], [], (0, 10, 21, 35), rfl, (List.forall_mem_cons.mpr ⟨⟨by decide, 3, tw_645, by decide, by decide, by decide⟩, (List.forall_mem_cons.mpr ⟨⟨by decide, 6, tw_1198, by decide, by decide, by decide⟩, (fun z hz => by cases hz)⟩)⟩), by decide, by decide, by decide, tw_702, nw_43, fun a9 => ?_⟩
      refine V_astore X.1 dL_way_21 (by decide) ?_
      refine V_iconst X.1 dL_way_23 ?_
      exact V_iretW X hE dL_way_24 ⟨Nat.le_of_ble_eq_true rfl, Nat.le_of_ble_eq_true rfl⟩ hf
    cases hf
  · refine V_i2l X.1 dL_way_8 ?_
    refine V_last X.1 ar_135 dL_way_9 hf (fun hf => ?_)
    refine V_goto X.1 (tgt := 25) dL_way_10 (by decide) ?_
    refine V_iconst X.1 dL_way_25 ?_
    exact V_iretW X hE dL_way_26 ⟨Nat.le_of_ble_eq_true rfl, Nat.le_of_ble_eq_true rfl⟩ hf
abbrev rmL_work : Room := { frames := 10, cells := 2, slots := 12, locals := 443 }
set_option maxRecDepth 20000 in
theorem m_L_work {G : GG} {a1 : Int} {w : WS} {q : (Int × WS)} (hf : f_L_work a1 w = some q) : MW G yL_work cL_work 4 (some .int) [(0, 16, 19, 26), (0, 16, 22, 85)] rmL_work [gr G 0, vi a1, gr G 135] w q := by
  refine MW_of (by decide +kernel) (Nat.le_of_ble_eq_true rfl) (fun E X hE => ?_)
  have X : CW G E cL_work RL (some .int) rmL_work 4 [(0, 16, 19, 26), (0, 16, 22, 85)] := X
  unfold f_L_work at hf
  refine V_gload_n X.1 dL_work_0 rfl rfl ?_
  refine V_iconst X.1 dL_work_1 ?_
  refine V_gload_n X.1 dL_work_2 rfl rfl ?_
  refine V_iload_n X.1 dL_work_3 rfl rfl ?_
  refine V_wVI X hf [vi a1] _ 1 (fun _ h => m_X8_work h) ob_0 rfl tw_1284 tw_86 tw_1281 tw_1282 tw_1283 dL_work_4 ⟨by decide +kernel, by decide +kernel, by decide +kernel⟩ ⟨Nat.le_of_ble_eq_true rfl, Nat.le_of_ble_eq_true rfl⟩ rfl (Nat.le_of_ble_eq_true rfl) ⟨Nat.le_of_ble_eq_true rfl, Nat.le_of_ble_eq_true rfl⟩ (fun t w2 ht hf => ?_) (fun r1 w1 hf => ?_)
  · refine ite_c hf (fun h hf => ?_) (fun _ hf => ?_)
    · subst h
      refine ⟨[], [(0, 16, 22, 85)], (0, 16, 19, 26), rfl, (fun z hz => by cases hz), by decide, by decide, by decide, tw_645, nw_42, fun a9 => ?_⟩
      refine V_astore_n X.1 dL_work_19 rfl (by decide) ?_
      refine V_iconst X.1 dL_work_20 ?_
      exact V_iretW X hE dL_work_21 ⟨Nat.le_of_ble_eq_true rfl, Nat.le_of_ble_eq_true rfl⟩ hf
    refine ite_c hf (fun h hf => ?_) (fun _ hf => ?_)
    · subst h
      refine ⟨[(0, 16, 19, 26)], [], (0, 16, 22, 85), rfl, (List.forall_mem_cons.mpr ⟨⟨by decide, 3, tw_645, by decide, by decide, by decide⟩, (fun z hz => by cases hz)⟩), by decide, by decide, by decide, tw_1198, nw_44, fun a9 => ?_⟩
      refine V_astore_n X.1 dL_work_22 rfl (by decide) ?_
      refine V_iconst X.1 dL_work_23 ?_
      exact V_iretW X hE dL_work_24 ⟨Nat.le_of_ble_eq_true rfl, Nat.le_of_ble_eq_true rfl⟩ hf
    cases hf
  · refine V_if_eq X.1 (tgt := 14) dL_work_7 (by decide) hf (fun hf => ?_) (fun hf => ?_)
    · refine V_lconst (a := 0) X.1 dL_work_14 (by decide) ?_
      refine V_last X.1 ar_135 dL_work_15 hf (fun hf => ?_)
      refine V_goto X.1 (tgt := 25) dL_work_16 (by decide) ?_
      refine V_iconst X.1 dL_work_25 ?_
      exact V_iretW X hE dL_work_26 ⟨Nat.le_of_ble_eq_true rfl, Nat.le_of_ble_eq_true rfl⟩ hf
    · refine V_lconst (a := 1) X.1 dL_work_10 (by decide) ?_
      refine V_goto X.1 (tgt := 15) dL_work_11 (by decide) ?_
      refine V_last X.1 ar_135 dL_work_15 hf (fun hf => ?_)
      refine V_goto X.1 (tgt := 25) dL_work_16 (by decide) ?_
      refine V_iconst X.1 dL_work_25 ?_
      exact V_iretW X hE dL_work_26 ⟨Nat.le_of_ble_eq_true rfl, Nat.le_of_ble_eq_true rfl⟩ hf
abbrev rmL_typed : Room := { frames := 9, cells := 1, slots := 6, locals := 421 }
set_option maxRecDepth 20000 in
theorem m_L_typed {G : GG} {a1 : Int} {w : WS} {q : (Int × WS)} (hf : f_L_typed a1 w = some q) : MW G yL_typed cL_typed 4 (some .int) [(0, 9, 12, 35)] rmL_typed [gr G 0, vi a1, gr G 135] w q := by
  refine MW_of (by decide +kernel) (Nat.le_of_ble_eq_true rfl) (fun E X hE => ?_)
  have X : CW G E cL_typed RL (some .int) rmL_typed 4 [(0, 9, 12, 35)] := X
  unfold f_L_typed at hf
  refine V_gload_n X.1 dL_typed_0 rfl rfl ?_
  refine V_iconst X.1 dL_typed_1 ?_
  refine V_gload_n X.1 dL_typed_2 rfl rfl ?_
  refine V_iload_n X.1 dL_typed_3 rfl rfl ?_
  refine V_wVI X hf [vi a1] _ 1 (fun _ h => m_X8_typed h) ob_0 rfl tw_1293 tw_86 tw_1290 tw_1291 tw_1292 dL_typed_4 ⟨by decide +kernel, by decide +kernel, by decide +kernel⟩ ⟨Nat.le_of_ble_eq_true rfl, Nat.le_of_ble_eq_true rfl⟩ rfl (Nat.le_of_ble_eq_true rfl) ⟨Nat.le_of_ble_eq_true rfl, Nat.le_of_ble_eq_true rfl⟩ (fun t w2 ht hf => ?_) (fun r1 w1 hf => ?_)
  · refine ite_c hf (fun h hf => ?_) (fun _ hf => ?_)
    · subst h
      refine ⟨[], [], (0, 9, 12, 35), rfl, (fun z hz => by cases hz), by decide, by decide, by decide, tw_702, nw_43, fun a9 => ?_⟩
      refine V_astore_n X.1 dL_typed_12 rfl (by decide) ?_
      refine V_iconst X.1 dL_typed_13 ?_
      exact V_iretW X hE dL_typed_14 ⟨Nat.le_of_ble_eq_true rfl, Nat.le_of_ble_eq_true rfl⟩ hf
    cases hf
  · refine V_i2l X.1 dL_typed_7 ?_
    refine V_last X.1 ar_135 dL_typed_8 hf (fun hf => ?_)
    refine V_goto X.1 (tgt := 15) dL_typed_9 (by decide) ?_
    refine V_iconst X.1 dL_typed_15 ?_
    exact V_iretW X hE dL_typed_16 ⟨Nat.le_of_ble_eq_true rfl, Nat.le_of_ble_eq_true rfl⟩ hf
