abbrev rmX2_endOfSpan : Room := { frames := 1, cells := 0, slots := 0, locals := 25 }
set_option maxRecDepth 20000 in
theorem v_X2_endOfSpan_39 {G : GG} {E : EE} (X : Cx G E cX2_endOfSpan RX2 (some .int) rmX2_endOfSpan 3) {q : (Int × WS)} (hE : EndI G E q)   {a2 : Int} {w : WS} (hf : f_X2_endOfSpan_39   a2 w = some q) : VV G E 0 0 39 [(0, gr G 39), (2, vi a2)] [] w := by
  unfold f_X2_endOfSpan_39 at hf
  refine V_iload_n X dX2_endOfSpan_39 rfl rfl ?_
  refine V_gload_n X dX2_endOfSpan_40 rfl rfl ?_
  refine V_geti X ob_39 rfl rfl hin_X2 14 (Nat.le_of_ble_eq_true rfl) tw_222 rfl dX2_endOfSpan_41 ?_
  refine V_icmp_le X (tgt := 51) dX2_endOfSpan_44 (by decide) hf (fun hf => ?_) (fun hf => ?_)
  · refine V_iload_n X dX2_endOfSpan_47 rfl rfl ?_
    refine V_goto X (tgt := 52) dX2_endOfSpan_48 (by decide) ?_
    exact V_iret X hE dX2_endOfSpan_52 hf
  · refine V_iconst X dX2_endOfSpan_51 ?_
    exact V_iret X hE dX2_endOfSpan_52 hf
set_option maxRecDepth 20000 in
theorem v_X2_endOfSpan_5 {G : GG} {E : EE} (X : Cx G E cX2_endOfSpan RX2 (some .int) rmX2_endOfSpan 3) {q : (Int × WS)} (hE : EndI G E q)   : ∀ (n : Nat) (a1 a2 : Int) (w : WS), f_X2_endOfSpan_5   n a1 a2 w = some q → VV G E 0 0 5 [(0, gr G 39), (1, vi a1), (2, vi a2)] [] w := by
  intro n
  induction n with
  | zero => intro a1 a2 w hf; cases hf
  | succ n ih =>
    intro a1 a2 w hf
    rw [f_X2_endOfSpan_5_s] at hf
    refine V_iload_n X dX2_endOfSpan_5 rfl rfl ?_
    refine V_gload_n X dX2_endOfSpan_6 rfl rfl ?_
    refine V_geti X ob_39 rfl rfl hin_X2 10 (Nat.le_of_ble_eq_true rfl) tw_216 rfl dX2_endOfSpan_7 ?_
    refine V_icmp_ge X (tgt := 39) dX2_endOfSpan_10 (by decide) hf (fun hf => ?_) (fun hf => ?_)
    · refine V_gload_n X dX2_endOfSpan_13 rfl rfl ?_
      refine V_getr X ob_39 rfl rfl hin_X2 1 (Nat.le_of_ble_eq_true rfl) tw_207 rfl dX2_endOfSpan_14 ?_
      refine V_iload_n X dX2_endOfSpan_17 rfl rfl ?_
      refine V_gload_n X dX2_endOfSpan_18 rfl rfl ?_
      refine V_getr X ob_39 rfl rfl hin_X2 3 (Nat.le_of_ble_eq_true rfl) tw_209 rfl dX2_endOfSpan_19 ?_
      refine V_iconst X dX2_endOfSpan_22 ?_
      refine V_iload_n X dX2_endOfSpan_23 rfl rfl ?_
      refine V_cVI X hf [vi 0, vi a2] _ 2 (fun _ h => m_X6_sign is_13 h) ob_13 rfl tw_488 tw_87 tw_1059 tw_486 tw_487 dX2_endOfSpan_24 ⟨by decide +kernel, by decide +kernel, by decide +kernel⟩ ⟨rfl, rfl⟩ ⟨Nat.le_of_ble_eq_true rfl, Nat.le_of_ble_eq_true rfl⟩ rfl (Nat.le_of_ble_eq_true rfl) ⟨Nat.zero_le _, Nat.zero_le _⟩ (fun r1 w1 hf => ?_)
      refine V_cVI X hf [vi a1, vi r1] _ 2 (fun _ h => m_X6_contains is_4 h) ob_4 rfl tw_1063 tw_87 tw_1060 tw_1061 tw_1062 dX2_endOfSpan_27 ⟨by decide +kernel, by decide +kernel, by decide +kernel⟩ ⟨rfl, rfl⟩ ⟨Nat.le_of_ble_eq_true rfl, Nat.le_of_ble_eq_true rfl⟩ rfl (Nat.le_of_ble_eq_true rfl) ⟨Nat.zero_le _, Nat.zero_le _⟩ (fun r2 w2 hf => ?_)
      refine V_if_eq X (tgt := 39) dX2_endOfSpan_30 (by decide) hf (fun hf => ?_) (fun hf => ?_)
      · exact V_cut [0, 2] rfl (v_X2_endOfSpan_39 X hE hf)
      · refine V_iinc X dX2_endOfSpan_33 rfl (by decide) ?_
        refine V_goto X (tgt := 5) dX2_endOfSpan_36 (by decide) ?_
        exact V_cut [0, 1, 2] rfl (ih _ _ _ hf)
    · exact V_cut [0, 2] rfl (v_X2_endOfSpan_39 X hE hf)
set_option maxRecDepth 20000 in
theorem m_X2_endOfSpan {G : GG} {a1 : Int} {w : WS} {q : (Int × WS)}  (hf : f_X2_endOfSpan a1 w = some q) : MI G yX2_endOfSpan cX2_endOfSpan 3 (some .int) rmX2_endOfSpan [gr G 39, vi a1] w q := by
  refine MI_of (by decide +kernel) (Nat.le_of_ble_eq_true rfl) (fun E X hE => ?_)
  have X : Cx G E cX2_endOfSpan RX2 (some .int) rmX2_endOfSpan 3 := X
  unfold f_X2_endOfSpan at hf
  refine V_gload_n X dX2_endOfSpan_0 rfl rfl ?_
  refine V_geti X ob_39 rfl rfl hin_X2 14 (Nat.le_of_ble_eq_true rfl) tw_222 rfl dX2_endOfSpan_1 ?_
  refine V_istore_n X dX2_endOfSpan_4 rfl (by decide) ?_
  exact V_cut [0, 1, 2] rfl (v_X2_endOfSpan_5 X hE FU _ _ _ hf)
abbrev rmX2_endOfBreak : Room := { frames := 1, cells := 0, slots := 0, locals := 25 }
set_option maxRecDepth 20000 in
theorem v_X2_endOfBreak_39 {G : GG} {E : EE} (X : Cx G E cX2_endOfBreak RX2 (some .int) rmX2_endOfBreak 3) {q : (Int × WS)} (hE : EndI G E q)   {a2 : Int} {w : WS} (hf : f_X2_endOfBreak_39   a2 w = some q) : VV G E 0 0 39 [(0, gr G 39), (2, vi a2)] [] w := by
  unfold f_X2_endOfBreak_39 at hf
  refine V_iload_n X dX2_endOfBreak_39 rfl rfl ?_
  refine V_gload_n X dX2_endOfBreak_40 rfl rfl ?_
  refine V_geti X ob_39 rfl rfl hin_X2 10 (Nat.le_of_ble_eq_true rfl) tw_216 rfl dX2_endOfBreak_41 ?_
  refine V_icmp_ge X (tgt := 51) dX2_endOfBreak_44 (by decide) hf (fun hf => ?_) (fun hf => ?_)
  · refine V_iload_n X dX2_endOfBreak_47 rfl rfl ?_
    refine V_goto X (tgt := 52) dX2_endOfBreak_48 (by decide) ?_
    exact V_iret X hE dX2_endOfBreak_52 hf
  · refine V_iconst X dX2_endOfBreak_51 ?_
    exact V_iret X hE dX2_endOfBreak_52 hf
set_option maxRecDepth 20000 in
theorem v_X2_endOfBreak_5 {G : GG} {E : EE} (X : Cx G E cX2_endOfBreak RX2 (some .int) rmX2_endOfBreak 3) {q : (Int × WS)} (hE : EndI G E q)   : ∀ (n : Nat) (a1 a2 : Int) (w : WS), f_X2_endOfBreak_5   n a1 a2 w = some q → VV G E 0 0 5 [(0, gr G 39), (1, vi a1), (2, vi a2)] [] w := by
  intro n
  induction n with
  | zero => intro a1 a2 w hf; cases hf
  | succ n ih =>
    intro a1 a2 w hf
    rw [f_X2_endOfBreak_5_s] at hf
    refine V_iload_n X dX2_endOfBreak_5 rfl rfl ?_
    refine V_gload_n X dX2_endOfBreak_6 rfl rfl ?_
    refine V_geti X ob_39 rfl rfl hin_X2 10 (Nat.le_of_ble_eq_true rfl) tw_216 rfl dX2_endOfBreak_7 ?_
    refine V_icmp_ge X (tgt := 39) dX2_endOfBreak_10 (by decide) hf (fun hf => ?_) (fun hf => ?_)
    · refine V_gload_n X dX2_endOfBreak_13 rfl rfl ?_
      refine V_getr X ob_39 rfl rfl hin_X2 1 (Nat.le_of_ble_eq_true rfl) tw_207 rfl dX2_endOfBreak_14 ?_
      refine V_iload_n X dX2_endOfBreak_17 rfl rfl ?_
      refine V_gload_n X dX2_endOfBreak_18 rfl rfl ?_
      refine V_getr X ob_39 rfl rfl hin_X2 3 (Nat.le_of_ble_eq_true rfl) tw_209 rfl dX2_endOfBreak_19 ?_
      refine V_iconst X dX2_endOfBreak_22 ?_
      refine V_iload_n X dX2_endOfBreak_23 rfl rfl ?_
      refine V_cVI X hf [vi 0, vi a2] _ 2 (fun _ h => m_X6_sign is_13 h) ob_13 rfl tw_488 tw_87 tw_1059 tw_486 tw_487 dX2_endOfBreak_24 ⟨by decide +kernel, by decide +kernel, by decide +kernel⟩ ⟨rfl, rfl⟩ ⟨Nat.le_of_ble_eq_true rfl, Nat.le_of_ble_eq_true rfl⟩ rfl (Nat.le_of_ble_eq_true rfl) ⟨Nat.zero_le _, Nat.zero_le _⟩ (fun r1 w1 hf => ?_)
      refine V_cVI X hf [vi a1, vi r1] _ 2 (fun _ h => m_X6_contains is_4 h) ob_4 rfl tw_1063 tw_87 tw_1060 tw_1061 tw_1062 dX2_endOfBreak_27 ⟨by decide +kernel, by decide +kernel, by decide +kernel⟩ ⟨rfl, rfl⟩ ⟨Nat.le_of_ble_eq_true rfl, Nat.le_of_ble_eq_true rfl⟩ rfl (Nat.le_of_ble_eq_true rfl) ⟨Nat.zero_le _, Nat.zero_le _⟩ (fun r2 w2 hf => ?_)
      refine V_if_ne X (tgt := 39) dX2_endOfBreak_30 (by decide) hf (fun hf => ?_) (fun hf => ?_)
      · refine V_iinc X dX2_endOfBreak_33 rfl (by decide) ?_
        refine V_goto X (tgt := 5) dX2_endOfBreak_36 (by decide) ?_
        exact V_cut [0, 1, 2] rfl (ih _ _ _ hf)
      · exact V_cut [0, 2] rfl (v_X2_endOfBreak_39 X hE hf)
    · exact V_cut [0, 2] rfl (v_X2_endOfBreak_39 X hE hf)
set_option maxRecDepth 20000 in
theorem m_X2_endOfBreak {G : GG} {a1 : Int} {w : WS} {q : (Int × WS)}  (hf : f_X2_endOfBreak a1 w = some q) : MI G yX2_endOfBreak cX2_endOfBreak 3 (some .int) rmX2_endOfBreak [gr G 39, vi a1] w q := by
  refine MI_of (by decide +kernel) (Nat.le_of_ble_eq_true rfl) (fun E X hE => ?_)
  have X : Cx G E cX2_endOfBreak RX2 (some .int) rmX2_endOfBreak 3 := X
  unfold f_X2_endOfBreak at hf
  refine V_gload_n X dX2_endOfBreak_0 rfl rfl ?_
  refine V_geti X ob_39 rfl rfl hin_X2 14 (Nat.le_of_ble_eq_true rfl) tw_222 rfl dX2_endOfBreak_1 ?_
  refine V_istore_n X dX2_endOfBreak_4 rfl (by decide) ?_
  exact V_cut [0, 1, 2] rfl (v_X2_endOfBreak_5 X hE FU _ _ _ hf)
abbrev rmX2_endOfSingle : Room := { frames := 2, cells := 0, slots := 0, locals := 49 }
set_option maxRecDepth 20000 in
theorem m_X2_endOfSingle {G : GG}  {w : WS} {q : (Int × WS)}  (hf : f_X2_endOfSingle  w = some q) : MI G yX2_endOfSingle cX2_endOfSingle 2 (some .int) rmX2_endOfSingle [gr G 39] w q := by
  refine MI_of (by decide +kernel) (Nat.le_of_ble_eq_true rfl) (fun E X hE => ?_)
  have X : Cx G E cX2_endOfSingle RX2 (some .int) rmX2_endOfSingle 2 := X
  unfold f_X2_endOfSingle at hf
  refine V_gload_n X dX2_endOfSingle_0 rfl rfl ?_
  refine V_getr X ob_39 rfl rfl hin_X2 0 (Nat.le_of_ble_eq_true rfl) tw_206 rfl dX2_endOfSingle_1 ?_
  refine V_getrN X ob_25 rfl rfl hin_X0 2 (Nat.le_of_ble_eq_true rfl) nw_3 rfl dX2_endOfSingle_4 ?_
  refine V_gload_n X dX2_endOfSingle_7 rfl rfl ?_
  refine V_geti X ob_39 rfl rfl hin_X2 13 (Nat.le_of_ble_eq_true rfl) tw_221 rfl dX2_endOfSingle_8 ?_
  refine V_cVI X hf [vi (w 39 13)] _ 1 (fun _ h => m_X1_get is_28 h) ob_28 rfl tw_500 tw_89 tw_1035 tw_498 tw_499 dX2_endOfSingle_11 ⟨by decide +kernel, by decide +kernel, by decide +kernel⟩ ⟨rfl, rfl⟩ ⟨Nat.le_of_ble_eq_true rfl, Nat.le_of_ble_eq_true rfl⟩ rfl (Nat.le_of_ble_eq_true rfl) ⟨Nat.zero_le _, Nat.zero_le _⟩ (fun r1 w1 hf => ?_)
  refine V_istore_n X dX2_endOfSingle_14 rfl (by decide) ?_
  refine V_gload_n X dX2_endOfSingle_15 rfl rfl ?_
  refine V_getr X ob_39 rfl rfl hin_X2 0 (Nat.le_of_ble_eq_true rfl) tw_206 rfl dX2_endOfSingle_16 ?_
  refine V_getrN X ob_25 rfl rfl hin_X0 1 (Nat.le_of_ble_eq_true rfl) nw_1 rfl dX2_endOfSingle_19 ?_
  refine V_gload_n X dX2_endOfSingle_22 rfl rfl ?_
  refine V_geti X ob_39 rfl rfl hin_X2 13 (Nat.le_of_ble_eq_true rfl) tw_221 rfl dX2_endOfSingle_23 ?_
  refine V_cVI X hf [vi (w1 39 13)] _ 1 (fun _ h => m_X1_get is_26 h) ob_26 rfl tw_500 tw_89 tw_1035 tw_498 tw_499 dX2_endOfSingle_26 ⟨by decide +kernel, by decide +kernel, by decide +kernel⟩ ⟨rfl, rfl⟩ ⟨Nat.le_of_ble_eq_true rfl, Nat.le_of_ble_eq_true rfl⟩ rfl (Nat.le_of_ble_eq_true rfl) ⟨Nat.zero_le _, Nat.zero_le _⟩ (fun r2 w2 hf => ?_)
  refine ite_c hf (fun h0 hf => ?_) (fun h0 hf => ?_)
  · refine V_lookup X (off := 285) (tgt := 314) dX2_endOfSingle_29 (by decide) (by exact off_pos h0) (by decide) ?_
    refine V_gload_n X dX2_endOfSingle_314 rfl rfl ?_
    refine V_geti X ob_39 rfl rfl hin_X2 14 (Nat.le_of_ble_eq_true rfl) tw_222 rfl dX2_endOfSingle_315 ?_
    refine V_iload_n X dX2_endOfSingle_318 rfl rfl ?_
    refine V_iadd X dX2_endOfSingle_319 ?_
    refine V_gload_n X dX2_endOfSingle_320 rfl rfl ?_
    refine V_geti X ob_39 rfl rfl hin_X2 10 (Nat.le_of_ble_eq_true rfl) tw_216 rfl dX2_endOfSingle_321 ?_
    refine V_icmp_gt X (tgt := 336) dX2_endOfSingle_324 (by decide) hf (fun hf => ?_) (fun hf => ?_)
    · refine V_iconst X dX2_endOfSingle_336 ?_
      exact V_iret X hE dX2_endOfSingle_337 hf
    · refine V_gload_n X dX2_endOfSingle_327 rfl rfl ?_
      refine V_geti X ob_39 rfl rfl hin_X2 14 (Nat.le_of_ble_eq_true rfl) tw_222 rfl dX2_endOfSingle_328 ?_
      refine V_iload_n X dX2_endOfSingle_331 rfl rfl ?_
      refine V_iadd X dX2_endOfSingle_332 ?_
      refine V_goto X (tgt := 337) dX2_endOfSingle_333 (by decide) ?_
      exact V_iret X hE dX2_endOfSingle_337 hf
  refine ite_c hf (fun h1 hf => ?_) (fun h1 hf => ?_)
  · refine V_lookup X (off := 279) (tgt := 308) dX2_endOfSingle_29 (by decide) (by exact off_neg h0 (off_pos h1)) (by decide) ?_
    refine V_gload_n X dX2_endOfSingle_308 rfl rfl ?_
    refine V_iload_n X dX2_endOfSingle_309 rfl rfl ?_
    refine V_cVI X hf [vi r1] _ 1 (fun _ h => m_X2_endOfBreak h) ob_39 rfl tw_1071 tw_90 tw_1068 tw_1070 tw_21 dX2_endOfSingle_310 ⟨by decide +kernel, by decide +kernel, by decide +kernel⟩ ⟨rfl, rfl⟩ ⟨Nat.le_of_ble_eq_true rfl, Nat.le_of_ble_eq_true rfl⟩ rfl (Nat.le_of_ble_eq_true rfl) ⟨Nat.zero_le _, Nat.zero_le _⟩ (fun r3 w3 hf => ?_)
    exact V_iret X hE dX2_endOfSingle_313 hf
  refine ite_c hf (fun h2 hf => ?_) (fun h2 hf => ?_)
  · refine V_lookup X (off := 107) (tgt := 136) dX2_endOfSingle_29 (by decide) (by exact off_neg h0 (off_neg h1 (off_pos h2))) (by decide) ?_
    refine V_gload_n X dX2_endOfSingle_136 rfl rfl ?_
    refine V_getr X ob_39 rfl rfl hin_X2 3 (Nat.le_of_ble_eq_true rfl) tw_209 rfl dX2_endOfSingle_137 ?_
    refine V_iconst X dX2_endOfSingle_140 ?_
    refine V_gload_n X dX2_endOfSingle_141 rfl rfl ?_
    refine V_geti X ob_39 rfl rfl hin_X2 14 (Nat.le_of_ble_eq_true rfl) tw_222 rfl dX2_endOfSingle_142 ?_
    refine V_gload_n X dX2_endOfSingle_145 rfl rfl ?_
    refine V_getr X ob_39 rfl rfl hin_X2 1 (Nat.le_of_ble_eq_true rfl) tw_207 rfl dX2_endOfSingle_146 ?_
    refine V_iload_n X dX2_endOfSingle_149 rfl rfl ?_
    refine V_cVI X hf [vi 0, vi (w2 39 14), gr G 4, vi r1] _ 4 (fun _ h => m_X6_hasThere is_13 is_4 h) ob_13 rfl tw_1014 tw_87 tw_1058 tw_1012 tw_1013 dX2_endOfSingle_150 ⟨by decide +kernel, by decide +kernel, by decide +kernel⟩ ⟨rfl, rfl⟩ ⟨Nat.le_of_ble_eq_true rfl, Nat.le_of_ble_eq_true rfl⟩ rfl (Nat.le_of_ble_eq_true rfl) ⟨Nat.zero_le _, Nat.zero_le _⟩ (fun r4 w4 hf => ?_)
    refine V_if_eq X (tgt := 172) dX2_endOfSingle_153 (by decide) hf (fun hf => ?_) (fun hf => ?_)
    · refine V_iconst X dX2_endOfSingle_172 ?_
      exact V_iret X hE dX2_endOfSingle_173 hf
    · refine V_gload_n X dX2_endOfSingle_156 rfl rfl ?_
      refine V_geti X ob_39 rfl rfl hin_X2 14 (Nat.le_of_ble_eq_true rfl) tw_222 rfl dX2_endOfSingle_157 ?_
      refine V_gload_n X dX2_endOfSingle_160 rfl rfl ?_
      refine V_getr X ob_39 rfl rfl hin_X2 1 (Nat.le_of_ble_eq_true rfl) tw_207 rfl dX2_endOfSingle_161 ?_
      refine V_iload_n X dX2_endOfSingle_164 rfl rfl ?_
      refine V_cVI X hf [vi r1] _ 1 (fun _ h => m_X6_length is_4 h) ob_4 rfl tw_466 tw_87 tw_1025 tw_464 tw_465 dX2_endOfSingle_165 ⟨by decide +kernel, by decide +kernel, by decide +kernel⟩ ⟨rfl, rfl⟩ ⟨Nat.le_of_ble_eq_true rfl, Nat.le_of_ble_eq_true rfl⟩ rfl (Nat.le_of_ble_eq_true rfl) ⟨Nat.zero_le _, Nat.zero_le _⟩ (fun r5 w5 hf => ?_)
      refine V_iadd X dX2_endOfSingle_168 ?_
      refine V_goto X (tgt := 173) dX2_endOfSingle_169 (by decide) ?_
      exact V_iret X hE dX2_endOfSingle_173 hf
  refine ite_c hf (fun h3 hf => ?_) (fun h3 hf => ?_)
  · refine V_lookup X (off := 394) (tgt := 423) dX2_endOfSingle_29 (by decide) (by exact off_neg h0 (off_neg h1 (off_neg h2 (off_pos h3)))) (by decide) ?_
    refine V_gload_n X dX2_endOfSingle_423 rfl rfl ?_
    refine V_geti X ob_39 rfl rfl hin_X2 10 (Nat.le_of_ble_eq_true rfl) tw_216 rfl dX2_endOfSingle_424 ?_
    exact V_iret X hE dX2_endOfSingle_427 hf
  refine ite_c hf (fun h4 hf => ?_) (fun h4 hf => ?_)
  · refine V_lookup X (off := 183) (tgt := 212) dX2_endOfSingle_29 (by decide) (by exact off_neg h0 (off_neg h1 (off_neg h2 (off_neg h3 (off_pos h4))))) (by decide) ?_
    refine V_gload_n X dX2_endOfSingle_212 rfl rfl ?_
    refine V_geti X ob_39 rfl rfl hin_X2 14 (Nat.le_of_ble_eq_true rfl) tw_222 rfl dX2_endOfSingle_213 ?_
    refine V_gload_n X dX2_endOfSingle_216 rfl rfl ?_
    refine V_geti X ob_39 rfl rfl hin_X2 10 (Nat.le_of_ble_eq_true rfl) tw_216 rfl dX2_endOfSingle_217 ?_
    refine V_icmp_ge X (tgt := 255) dX2_endOfSingle_220 (by decide) hf (fun hf => ?_) (fun hf => ?_)
    · refine V_gload_n X dX2_endOfSingle_223 rfl rfl ?_
      refine V_getr X ob_39 rfl rfl hin_X2 1 (Nat.le_of_ble_eq_true rfl) tw_207 rfl dX2_endOfSingle_224 ?_
      refine V_iload_n X dX2_endOfSingle_227 rfl rfl ?_
      refine V_gload_n X dX2_endOfSingle_228 rfl rfl ?_
      refine V_getr X ob_39 rfl rfl hin_X2 3 (Nat.le_of_ble_eq_true rfl) tw_209 rfl dX2_endOfSingle_229 ?_
      refine V_iconst X dX2_endOfSingle_232 ?_
      refine V_gload_n X dX2_endOfSingle_233 rfl rfl ?_
      refine V_geti X ob_39 rfl rfl hin_X2 14 (Nat.le_of_ble_eq_true rfl) tw_222 rfl dX2_endOfSingle_234 ?_
      refine V_cVI X hf [vi 0, vi (w2 39 14)] _ 2 (fun _ h => m_X6_sign is_13 h) ob_13 rfl tw_488 tw_87 tw_1059 tw_486 tw_487 dX2_endOfSingle_237 ⟨by decide +kernel, by decide +kernel, by decide +kernel⟩ ⟨rfl, rfl⟩ ⟨Nat.le_of_ble_eq_true rfl, Nat.le_of_ble_eq_true rfl⟩ rfl (Nat.le_of_ble_eq_true rfl) ⟨Nat.zero_le _, Nat.zero_le _⟩ (fun r6 w6 hf => ?_)
      refine V_cVI X hf [vi r1, vi r6] _ 2 (fun _ h => m_X6_contains is_4 h) ob_4 rfl tw_1063 tw_87 tw_1060 tw_1061 tw_1062 dX2_endOfSingle_240 ⟨by decide +kernel, by decide +kernel, by decide +kernel⟩ ⟨rfl, rfl⟩ ⟨Nat.le_of_ble_eq_true rfl, Nat.le_of_ble_eq_true rfl⟩ rfl (Nat.le_of_ble_eq_true rfl) ⟨Nat.zero_le _, Nat.zero_le _⟩ (fun r7 w7 hf => ?_)
      refine V_if_eq X (tgt := 255) dX2_endOfSingle_243 (by decide) hf (fun hf => ?_) (fun hf => ?_)
      · refine V_iconst X dX2_endOfSingle_255 ?_
        exact V_iret X hE dX2_endOfSingle_256 hf
      · refine V_gload_n X dX2_endOfSingle_246 rfl rfl ?_
        refine V_geti X ob_39 rfl rfl hin_X2 14 (Nat.le_of_ble_eq_true rfl) tw_222 rfl dX2_endOfSingle_247 ?_
        refine V_iconst X dX2_endOfSingle_250 ?_
        refine V_iadd X dX2_endOfSingle_251 ?_
        refine V_goto X (tgt := 256) dX2_endOfSingle_252 (by decide) ?_
        exact V_iret X hE dX2_endOfSingle_256 hf
    · refine V_iconst X dX2_endOfSingle_255 ?_
      exact V_iret X hE dX2_endOfSingle_256 hf
  refine ite_c hf (fun h5 hf => ?_) (fun h5 hf => ?_)
  · refine V_lookup X (off := 228) (tgt := 257) dX2_endOfSingle_29 (by decide) (by exact off_neg h0 (off_neg h1 (off_neg h2 (off_neg h3 (off_neg h4 (off_pos h5)))))) (by decide) ?_
    refine V_gload_n X dX2_endOfSingle_257 rfl rfl ?_
    refine V_geti X ob_39 rfl rfl hin_X2 14 (Nat.le_of_ble_eq_true rfl) tw_222 rfl dX2_endOfSingle_258 ?_
    refine V_gload_n X dX2_endOfSingle_261 rfl rfl ?_
    refine V_geti X ob_39 rfl rfl hin_X2 10 (Nat.le_of_ble_eq_true rfl) tw_216 rfl dX2_endOfSingle_262 ?_
    refine V_icmp_ge X (tgt := 300) dX2_endOfSingle_265 (by decide) hf (fun hf => ?_) (fun hf => ?_)
    · refine V_gload_n X dX2_endOfSingle_268 rfl rfl ?_
      refine V_getr X ob_39 rfl rfl hin_X2 1 (Nat.le_of_ble_eq_true rfl) tw_207 rfl dX2_endOfSingle_269 ?_
      refine V_iload_n X dX2_endOfSingle_272 rfl rfl ?_
      refine V_gload_n X dX2_endOfSingle_273 rfl rfl ?_
      refine V_getr X ob_39 rfl rfl hin_X2 3 (Nat.le_of_ble_eq_true rfl) tw_209 rfl dX2_endOfSingle_274 ?_
      refine V_iconst X dX2_endOfSingle_277 ?_
      refine V_gload_n X dX2_endOfSingle_278 rfl rfl ?_
      refine V_geti X ob_39 rfl rfl hin_X2 14 (Nat.le_of_ble_eq_true rfl) tw_222 rfl dX2_endOfSingle_279 ?_
      refine V_cVI X hf [vi 0, vi (w2 39 14)] _ 2 (fun _ h => m_X6_sign is_13 h) ob_13 rfl tw_488 tw_87 tw_1059 tw_486 tw_487 dX2_endOfSingle_282 ⟨by decide +kernel, by decide +kernel, by decide +kernel⟩ ⟨rfl, rfl⟩ ⟨Nat.le_of_ble_eq_true rfl, Nat.le_of_ble_eq_true rfl⟩ rfl (Nat.le_of_ble_eq_true rfl) ⟨Nat.zero_le _, Nat.zero_le _⟩ (fun r8 w8 hf => ?_)
      refine V_cVI X hf [vi r1, vi r8] _ 2 (fun _ h => m_X6_contains is_4 h) ob_4 rfl tw_1063 tw_87 tw_1060 tw_1061 tw_1062 dX2_endOfSingle_285 ⟨by decide +kernel, by decide +kernel, by decide +kernel⟩ ⟨rfl, rfl⟩ ⟨Nat.le_of_ble_eq_true rfl, Nat.le_of_ble_eq_true rfl⟩ rfl (Nat.le_of_ble_eq_true rfl) ⟨Nat.zero_le _, Nat.zero_le _⟩ (fun r9 w9 hf => ?_)
      refine V_if_ne X (tgt := 300) dX2_endOfSingle_288 (by decide) hf (fun hf => ?_) (fun hf => ?_)
      · refine V_gload_n X dX2_endOfSingle_291 rfl rfl ?_
        refine V_geti X ob_39 rfl rfl hin_X2 14 (Nat.le_of_ble_eq_true rfl) tw_222 rfl dX2_endOfSingle_292 ?_
        refine V_iconst X dX2_endOfSingle_295 ?_
        refine V_iadd X dX2_endOfSingle_296 ?_
        refine V_goto X (tgt := 301) dX2_endOfSingle_297 (by decide) ?_
        exact V_iret X hE dX2_endOfSingle_301 hf
      · refine V_iconst X dX2_endOfSingle_300 ?_
        exact V_iret X hE dX2_endOfSingle_301 hf
    · refine V_iconst X dX2_endOfSingle_300 ?_
      exact V_iret X hE dX2_endOfSingle_301 hf
  refine ite_c hf (fun h6 hf => ?_) (fun h6 hf => ?_)
  · refine V_lookup X (off := 355) (tgt := 384) dX2_endOfSingle_29 (by decide) (by exact off_neg h0 (off_neg h1 (off_neg h2 (off_neg h3 (off_neg h4 (off_neg h5 (off_pos h6))))))) (by decide) ?_
    refine V_gload_n X dX2_endOfSingle_384 rfl rfl ?_
    refine V_geti X ob_39 rfl rfl hin_X2 14 (Nat.le_of_ble_eq_true rfl) tw_222 rfl dX2_endOfSingle_385 ?_
    refine V_iload_n X dX2_endOfSingle_388 rfl rfl ?_
    refine V_icmp_ne X (tgt := 399) dX2_endOfSingle_389 (by decide) hf (fun hf => ?_) (fun hf => ?_)
    · refine V_gload_n X dX2_endOfSingle_392 rfl rfl ?_
      refine V_geti X ob_39 rfl rfl hin_X2 14 (Nat.le_of_ble_eq_true rfl) tw_222 rfl dX2_endOfSingle_393 ?_
      refine V_goto X (tgt := 400) dX2_endOfSingle_396 (by decide) ?_
      exact V_iret X hE dX2_endOfSingle_400 hf
    · refine V_iconst X dX2_endOfSingle_399 ?_
      exact V_iret X hE dX2_endOfSingle_400 hf
  refine ite_c hf (fun h7 hf => ?_) (fun h7 hf => ?_)
  · refine V_lookup X (off := 372) (tgt := 401) dX2_endOfSingle_29 (by decide) (by exact off_neg h0 (off_neg h1 (off_neg h2 (off_neg h3 (off_neg h4 (off_neg h5 (off_neg h6 (off_pos h7)))))))) (by decide) ?_
    refine V_gload_n X dX2_endOfSingle_401 rfl rfl ?_
    refine V_geti X ob_39 rfl rfl hin_X2 14 (Nat.le_of_ble_eq_true rfl) tw_222 rfl dX2_endOfSingle_402 ?_
    refine V_gload_n X dX2_endOfSingle_405 rfl rfl ?_
    refine V_geti X ob_39 rfl rfl hin_X2 10 (Nat.le_of_ble_eq_true rfl) tw_216 rfl dX2_endOfSingle_406 ?_
    refine V_iload_n X dX2_endOfSingle_409 rfl rfl ?_
    refine V_isub X dX2_endOfSingle_410 ?_
    refine V_icmp_ne X (tgt := 421) dX2_endOfSingle_411 (by decide) hf (fun hf => ?_) (fun hf => ?_)
    · refine V_gload_n X dX2_endOfSingle_414 rfl rfl ?_
      refine V_geti X ob_39 rfl rfl hin_X2 14 (Nat.le_of_ble_eq_true rfl) tw_222 rfl dX2_endOfSingle_415 ?_
      refine V_goto X (tgt := 422) dX2_endOfSingle_418 (by decide) ?_
      exact V_iret X hE dX2_endOfSingle_422 hf
    · refine V_iconst X dX2_endOfSingle_421 ?_
      exact V_iret X hE dX2_endOfSingle_422 hf
  refine ite_c hf (fun h8 hf => ?_) (fun h8 hf => ?_)
  · refine V_lookup X (off := 331) (tgt := 360) dX2_endOfSingle_29 (by decide) (by exact off_neg h0 (off_neg h1 (off_neg h2 (off_neg h3 (off_neg h4 (off_neg h5 (off_neg h6 (off_neg h7 (off_pos h8))))))))) (by decide) ?_
    refine V_gload_n X dX2_endOfSingle_360 rfl rfl ?_
    refine V_geti X ob_39 rfl rfl hin_X2 10 (Nat.le_of_ble_eq_true rfl) tw_216 rfl dX2_endOfSingle_361 ?_
    refine V_iload_n X dX2_endOfSingle_364 rfl rfl ?_
    refine V_isub X dX2_endOfSingle_365 ?_
    refine V_gload_n X dX2_endOfSingle_366 rfl rfl ?_
    refine V_geti X ob_39 rfl rfl hin_X2 14 (Nat.le_of_ble_eq_true rfl) tw_222 rfl dX2_endOfSingle_367 ?_
    refine V_icmp_lt X (tgt := 382) dX2_endOfSingle_370 (by decide) hf (fun hf => ?_) (fun hf => ?_)
    · refine V_iconst X dX2_endOfSingle_382 ?_
      exact V_iret X hE dX2_endOfSingle_383 hf
    · refine V_gload_n X dX2_endOfSingle_373 rfl rfl ?_
      refine V_geti X ob_39 rfl rfl hin_X2 10 (Nat.le_of_ble_eq_true rfl) tw_216 rfl dX2_endOfSingle_374 ?_
      refine V_iload_n X dX2_endOfSingle_377 rfl rfl ?_
      refine V_isub X dX2_endOfSingle_378 ?_
      refine V_goto X (tgt := 383) dX2_endOfSingle_379 (by decide) ?_
      exact V_iret X hE dX2_endOfSingle_383 hf
  refine ite_c hf (fun h9 hf => ?_) (fun h9 hf => ?_)
  · refine V_lookup X (off := 273) (tgt := 302) dX2_endOfSingle_29 (by decide) (by exact off_neg h0 (off_neg h1 (off_neg h2 (off_neg h3 (off_neg h4 (off_neg h5 (off_neg h6 (off_neg h7 (off_neg h8 (off_pos h9)))))))))) (by decide) ?_
    refine V_gload_n X dX2_endOfSingle_302 rfl rfl ?_
    refine V_iload_n X dX2_endOfSingle_303 rfl rfl ?_
    refine V_cVI X hf [vi r1] _ 1 (fun _ h => m_X2_endOfSpan h) ob_39 rfl tw_1067 tw_90 tw_1064 tw_1066 tw_20 dX2_endOfSingle_304 ⟨by decide +kernel, by decide +kernel, by decide +kernel⟩ ⟨rfl, rfl⟩ ⟨Nat.le_of_ble_eq_true rfl, Nat.le_of_ble_eq_true rfl⟩ rfl (Nat.le_of_ble_eq_true rfl) ⟨Nat.zero_le _, Nat.zero_le _⟩ (fun r10 w10 hf => ?_)
    exact V_iret X hE dX2_endOfSingle_307 hf
  refine ite_c hf (fun h10 hf => ?_) (fun h10 hf => ?_)
  · refine V_lookup X (off := 309) (tgt := 338) dX2_endOfSingle_29 (by decide) (by exact off_neg h0 (off_neg h1 (off_neg h2 (off_neg h3 (off_neg h4 (off_neg h5 (off_neg h6 (off_neg h7 (off_neg h8 (off_neg h9 (off_pos h10))))))))))) (by decide) ?_
    refine V_iload_n X dX2_endOfSingle_338 rfl rfl ?_
    refine V_gload_n X dX2_endOfSingle_339 rfl rfl ?_
    refine V_geti X ob_39 rfl rfl hin_X2 14 (Nat.le_of_ble_eq_true rfl) tw_222 rfl dX2_endOfSingle_340 ?_
    refine V_icmp_lt X (tgt := 358) dX2_endOfSingle_343 (by decide) hf (fun hf => ?_) (fun hf => ?_)
    · refine V_iconst X dX2_endOfSingle_358 ?_
      exact V_iret X hE dX2_endOfSingle_359 hf
    · refine V_iload_n X dX2_endOfSingle_346 rfl rfl ?_
      refine V_gload_n X dX2_endOfSingle_347 rfl rfl ?_
      refine V_geti X ob_39 rfl rfl hin_X2 10 (Nat.le_of_ble_eq_true rfl) tw_216 rfl dX2_endOfSingle_348 ?_
      refine V_icmp_gt X (tgt := 358) dX2_endOfSingle_351 (by decide) hf (fun hf => ?_) (fun hf => ?_)
      · refine V_iconst X dX2_endOfSingle_358 ?_
        exact V_iret X hE dX2_endOfSingle_359 hf
      · refine V_iload_n X dX2_endOfSingle_354 rfl rfl ?_
        refine V_goto X (tgt := 359) dX2_endOfSingle_355 (by decide) ?_
        exact V_iret X hE dX2_endOfSingle_359 hf
  refine ite_c hf (fun h11 hf => ?_) (fun h11 hf => ?_)
  · refine V_lookup X (off := 145) (tgt := 174) dX2_endOfSingle_29 (by decide) (by exact off_neg h0 (off_neg h1 (off_neg h2 (off_neg h3 (off_neg h4 (off_neg h5 (off_neg h6 (off_neg h7 (off_neg h8 (off_neg h9 (off_neg h10 (off_pos h11)))))))))))) (by decide) ?_
    refine V_gload_n X dX2_endOfSingle_174 rfl rfl ?_
    refine V_getr X ob_39 rfl rfl hin_X2 3 (Nat.le_of_ble_eq_true rfl) tw_209 rfl dX2_endOfSingle_175 ?_
    refine V_iconst X dX2_endOfSingle_178 ?_
    refine V_gload_n X dX2_endOfSingle_179 rfl rfl ?_
    refine V_geti X ob_39 rfl rfl hin_X2 14 (Nat.le_of_ble_eq_true rfl) tw_222 rfl dX2_endOfSingle_180 ?_
    refine V_gload_n X dX2_endOfSingle_183 rfl rfl ?_
    refine V_getr X ob_39 rfl rfl hin_X2 2 (Nat.le_of_ble_eq_true rfl) tw_208 rfl dX2_endOfSingle_184 ?_
    refine V_iload_n X dX2_endOfSingle_187 rfl rfl ?_
    refine V_cVI X hf [vi 0, vi (w2 39 14), gr G 7, vi r1] _ 4 (fun _ h => m_X6_hasThere is_13 is_7 h) ob_13 rfl tw_1014 tw_87 tw_1058 tw_1012 tw_1013 dX2_endOfSingle_188 ⟨by decide +kernel, by decide +kernel, by decide +kernel⟩ ⟨rfl, rfl⟩ ⟨Nat.le_of_ble_eq_true rfl, Nat.le_of_ble_eq_true rfl⟩ rfl (Nat.le_of_ble_eq_true rfl) ⟨Nat.zero_le _, Nat.zero_le _⟩ (fun r11 w11 hf => ?_)
    refine V_if_eq X (tgt := 210) dX2_endOfSingle_191 (by decide) hf (fun hf => ?_) (fun hf => ?_)
    · refine V_iconst X dX2_endOfSingle_210 ?_
      exact V_iret X hE dX2_endOfSingle_211 hf
    · refine V_gload_n X dX2_endOfSingle_194 rfl rfl ?_
      refine V_geti X ob_39 rfl rfl hin_X2 14 (Nat.le_of_ble_eq_true rfl) tw_222 rfl dX2_endOfSingle_195 ?_
      refine V_gload_n X dX2_endOfSingle_198 rfl rfl ?_
      refine V_getr X ob_39 rfl rfl hin_X2 2 (Nat.le_of_ble_eq_true rfl) tw_208 rfl dX2_endOfSingle_199 ?_
      refine V_iload_n X dX2_endOfSingle_202 rfl rfl ?_
      refine V_cVI X hf [vi r1] _ 1 (fun _ h => m_X6_length is_7 h) ob_7 rfl tw_466 tw_87 tw_1025 tw_464 tw_465 dX2_endOfSingle_203 ⟨by decide +kernel, by decide +kernel, by decide +kernel⟩ ⟨rfl, rfl⟩ ⟨Nat.le_of_ble_eq_true rfl, Nat.le_of_ble_eq_true rfl⟩ rfl (Nat.le_of_ble_eq_true rfl) ⟨Nat.zero_le _, Nat.zero_le _⟩ (fun r12 w12 hf => ?_)
      refine V_iadd X dX2_endOfSingle_206 ?_
      refine V_goto X (tgt := 211) dX2_endOfSingle_207 (by decide) ?_
      exact V_iret X hE dX2_endOfSingle_211 hf
  refine V_lookup X (off := 399) (tgt := 428) dX2_endOfSingle_29 (by decide) (by exact off_neg h0 (off_neg h1 (off_neg h2 (off_neg h3 (off_neg h4 (off_neg h5 (off_neg h6 (off_neg h7 (off_neg h8 (off_neg h9 (off_neg h10 (off_neg h11 (rfl))))))))))))) (by decide) ?_
  refine V_iconst X dX2_endOfSingle_428 ?_
  exact V_iret X hE dX2_endOfSingle_429 hf
abbrev rmX2_goTo : Room := { frames := 0, cells := 0, slots := 0, locals := 0 }
set_option maxRecDepth 20000 in
theorem m_X2_goTo {G : GG} {a1 : Int} {w : WS} {q : (Int × WS)}  (hf : f_X2_goTo a1 w = some q) : MI G yX2_goTo cX2_goTo 2 (some .int) rmX2_goTo [gr G 39, vi a1] w q := by
  refine MI_of (by decide +kernel) (Nat.le_of_ble_eq_true rfl) (fun E X hE => ?_)
  have X : Cx G E cX2_goTo RX2 (some .int) rmX2_goTo 2 := X
  unfold f_X2_goTo at hf
  refine V_iload_n X dX2_goTo_0 rfl rfl ?_
  refine V_iconst X dX2_goTo_1 ?_
  refine V_icmp_ne X (tgt := 8) dX2_goTo_2 (by decide) hf (fun hf => ?_) (fun hf => ?_)
  · refine V_bipush X dX2_goTo_5 (by decide) ?_
    exact V_iret X hE dX2_goTo_7 hf
  · refine V_gload_n X dX2_goTo_8 rfl rfl ?_
    refine V_iload_n X dX2_goTo_9 rfl rfl ?_
    refine V_puti X ob_39 rfl rfl hin_X2 14 (Nat.le_of_ble_eq_true rfl) tw_222 tyX2 tyX2_ok nmX2 rfl (by decide +kernel) rfl dX2_goTo_10 ?_
    refine V_bipush X dX2_goTo_13 (by decide) ?_
    exact V_iret X hE dX2_goTo_15 hf
abbrev rmX2_balance : Room := { frames := 1, cells := 0, slots := 0, locals := 23 }
set_option maxRecDepth 20000 in
theorem v_X2_balance_47 {G : GG} {E : EE} (X : Cx G E cX2_balance RX2 (some .int) rmX2_balance 4) {q : (Int × WS)} (hE : EndI G E q)   {k7 : Int → Int → WS → Option (Int × WS)} (hk7 : ∀ (a1 a2 : Int) (w : WS), k7 a1 a2 w = some q → VV G E 0 0 7 [(0, gr G 39), (1, vi a1), (2, vi a2)] [] w) {a2 s0 s1 : Int} {w : WS} (hf : f_X2_balance_47  k7 a2 s0 s1 w = some q) : VV G E 0 0 47 [(0, gr G 39), (2, vi a2)] [vi s0, vi s1] w := by
  unfold f_X2_balance_47 at hf
  refine V_iadd X dX2_balance_47 ?_
  refine V_istore_n X dX2_balance_48 rfl (by decide) ?_
  refine V_iload_n X dX2_balance_49 rfl rfl ?_
  refine V_if_ge X (tgt := 56) dX2_balance_50 (by decide) hf (fun hf => ?_) (fun hf => ?_)
  · refine V_bipush X dX2_balance_53 (by decide) ?_
    exact V_iret X hE dX2_balance_55 hf
  · refine V_iload_n X dX2_balance_56 rfl rfl ?_
    refine V_if_ne X (tgt := 70) dX2_balance_57 (by decide) hf (fun hf => ?_) (fun hf => ?_)
    · refine V_gload_n X dX2_balance_60 rfl rfl ?_
      refine V_iload_n X dX2_balance_61 rfl rfl ?_
      refine V_iconst X dX2_balance_62 ?_
      refine V_iadd X dX2_balance_63 ?_
      refine V_puti X ob_39 rfl rfl hin_X2 14 (Nat.le_of_ble_eq_true rfl) tw_222 tyX2 tyX2_ok nmX2 rfl (by decide +kernel) rfl dX2_balance_64 ?_
      refine V_bipush X dX2_balance_67 (by decide) ?_
      exact V_iret X hE dX2_balance_69 hf
    · refine V_iinc X dX2_balance_70 rfl (by decide) ?_
      refine V_goto X (tgt := 7) dX2_balance_73 (by decide) ?_
      exact V_cut [0, 1, 2] rfl (hk7 _ _ _ hf)
set_option maxRecDepth 20000 in
theorem v_X2_balance_7 {G : GG} {E : EE} (X : Cx G E cX2_balance RX2 (some .int) rmX2_balance 4) {q : (Int × WS)} (hE : EndI G E q)   : ∀ (n : Nat) (a1 a2 : Int) (w : WS), f_X2_balance_7   n a1 a2 w = some q → VV G E 0 0 7 [(0, gr G 39), (1, vi a1), (2, vi a2)] [] w := by
  intro n
  induction n with
  | zero => intro a1 a2 w hf; cases hf
  | succ n ih =>
    intro a1 a2 w hf
    rw [f_X2_balance_7_s] at hf
    refine V_iload_n X dX2_balance_7 rfl rfl ?_
    refine V_gload_n X dX2_balance_8 rfl rfl ?_
    refine V_geti X ob_39 rfl rfl hin_X2 10 (Nat.le_of_ble_eq_true rfl) tw_216 rfl dX2_balance_9 ?_
    refine V_icmp_ge X (tgt := 76) dX2_balance_12 (by decide) hf (fun hf => ?_) (fun hf => ?_)
    · refine V_gload_n X dX2_balance_15 rfl rfl ?_
      refine V_getr X ob_39 rfl rfl hin_X2 3 (Nat.le_of_ble_eq_true rfl) tw_209 rfl dX2_balance_16 ?_
      refine V_iconst X dX2_balance_19 ?_
      refine V_iload_n X dX2_balance_20 rfl rfl ?_
      refine V_cVI X hf [vi 0, vi a2] _ 2 (fun _ h => m_X6_sign is_13 h) ob_13 rfl tw_488 tw_87 tw_1059 tw_486 tw_487 dX2_balance_21 ⟨by decide +kernel, by decide +kernel, by decide +kernel⟩ ⟨rfl, rfl⟩ ⟨Nat.le_of_ble_eq_true rfl, Nat.le_of_ble_eq_true rfl⟩ rfl (Nat.le_of_ble_eq_true rfl) ⟨Nat.zero_le _, Nat.zero_le _⟩ (fun r1 w1 hf => ?_)
      refine V_istore_n X dX2_balance_24 rfl (by decide) ?_
      refine V_iload_n X dX2_balance_25 rfl rfl ?_
      refine V_iload_n X dX2_balance_26 rfl rfl ?_
      refine V_bipush X dX2_balance_27 (by decide) ?_
      refine V_icmp_ne X (tgt := 36) dX2_balance_29 (by decide) hf (fun hf => ?_) (fun hf => ?_)
      · refine V_iconst X dX2_balance_32 ?_
        refine V_goto X (tgt := 47) dX2_balance_33 (by decide) ?_
        exact V_cut [0, 2] rfl (v_X2_balance_47 X hE (fun x0 x1 x hf => ih x0 x1 x hf) hf)
      · refine V_iload_n X dX2_balance_36 rfl rfl ?_
        refine V_bipush X dX2_balance_37 (by decide) ?_
        refine V_icmp_ne X (tgt := 46) dX2_balance_39 (by decide) hf (fun hf => ?_) (fun hf => ?_)
        · refine V_iconst X dX2_balance_42 ?_
          refine V_goto X (tgt := 47) dX2_balance_43 (by decide) ?_
          exact V_cut [0, 2] rfl (v_X2_balance_47 X hE (fun x0 x1 x hf => ih x0 x1 x hf) hf)
        · refine V_iconst X dX2_balance_46 ?_
          exact V_cut [0, 2] rfl (v_X2_balance_47 X hE (fun x0 x1 x hf => ih x0 x1 x hf) hf)
    · refine V_bipush X dX2_balance_76 (by decide) ?_
      exact V_iret X hE dX2_balance_78 hf
set_option maxRecDepth 20000 in
theorem m_X2_balance {G : GG}  {w : WS} {q : (Int × WS)}  (hf : f_X2_balance  w = some q) : MI G yX2_balance cX2_balance 4 (some .int) rmX2_balance [gr G 39] w q := by
  refine MI_of (by decide +kernel) (Nat.le_of_ble_eq_true rfl) (fun E X hE => ?_)
  have X : Cx G E cX2_balance RX2 (some .int) rmX2_balance 4 := X
  unfold f_X2_balance at hf
  refine V_iconst X dX2_balance_0 ?_
  refine V_istore_n X dX2_balance_1 rfl (by decide) ?_
  refine V_gload_n X dX2_balance_2 rfl rfl ?_
  refine V_geti X ob_39 rfl rfl hin_X2 14 (Nat.le_of_ble_eq_true rfl) tw_222 rfl dX2_balance_3 ?_
  refine V_istore_n X dX2_balance_6 rfl (by decide) ?_
  exact V_cut [0, 1, 2] rfl (v_X2_balance_7 X hE FU _ _ _ hf)
abbrev rmX3_first : Room := { frames := 0, cells := 0, slots := 0, locals := 0 }
set_option maxRecDepth 20000 in
theorem m_X3_first {G : GG} {i : Nat} {a1 : Int} {w : WS} {q : (Int × WS)} (hi : isX3 i) (hf : f_X3_first i a1 w = some q) : MI G yX3_first cX3_first 2 (some .int) rmX3_first [gr G i, vi a1] w q := by
  refine MI_of (by decide +kernel) (Nat.le_of_ble_eq_true rfl) (fun E X hE => ?_)
  have X : Cx G E cX3_first RX3 (some .int) rmX3_first 2 := X
  unfold f_X3_first at hf
  refine V_iload_n X dX3_first_0 rfl rfl ?_
  refine V_if_lt X (tgt := 22) dX3_first_1 (by decide) hf (fun hf => ?_) (fun hf => ?_)
  · refine V_iconst X dX3_first_22 ?_
    exact V_iret X hE dX3_first_23 hf
  · refine V_iload_n X dX3_first_4 rfl rfl ?_
    refine V_gload_n X dX3_first_5 rfl rfl ?_
    refine V_getr X (ob_X3 hi) rfl rfl hin_X3 0 (Nat.le_of_ble_eq_true rfl) tw_190 (rr_X3_0 hi) dX3_first_6 ?_
    refine V_alen X (ar_X3_1 hi) (by decide) dX3_first_9 ?_
    refine V_icmp_ge X (tgt := 22) dX3_first_10 (by decide) hf (fun hf => ?_) (fun hf => ?_)
    · refine V_gload_n X dX3_first_13 rfl rfl ?_
      refine V_getr X (ob_X3 hi) rfl rfl hin_X3 0 (Nat.le_of_ble_eq_true rfl) tw_190 (rr_X3_0 hi) dX3_first_14 ?_
      refine V_iload_n X dX3_first_17 rfl rfl ?_
      refine V_iald X (ar_X3_1 hi) dX3_first_18 hf (fun hf => ?_)
      refine V_goto X (tgt := 23) dX3_first_19 (by decide) ?_
      exact V_iret X hE dX3_first_23 hf
    · refine V_iconst X dX3_first_22 ?_
      exact V_iret X hE dX3_first_23 hf
abbrev rmX3_second : Room := { frames := 0, cells := 0, slots := 0, locals := 0 }
set_option maxRecDepth 20000 in
theorem m_X3_second {G : GG} {i : Nat} {a1 : Int} {w : WS} {q : (Int × WS)} (hi : isX3 i) (hf : f_X3_second i a1 w = some q) : MI G yX3_second cX3_second 2 (some .int) rmX3_second [gr G i, vi a1] w q := by
  refine MI_of (by decide +kernel) (Nat.le_of_ble_eq_true rfl) (fun E X hE => ?_)
  have X : Cx G E cX3_second RX3 (some .int) rmX3_second 2 := X
  unfold f_X3_second at hf
  refine V_iload_n X dX3_second_0 rfl rfl ?_
  refine V_if_lt X (tgt := 22) dX3_second_1 (by decide) hf (fun hf => ?_) (fun hf => ?_)
  · refine V_iconst X dX3_second_22 ?_
    exact V_iret X hE dX3_second_23 hf
  · refine V_iload_n X dX3_second_4 rfl rfl ?_
    refine V_gload_n X dX3_second_5 rfl rfl ?_
    refine V_getr X (ob_X3 hi) rfl rfl hin_X3 1 (Nat.le_of_ble_eq_true rfl) tw_191 (rr_X3_1 hi) dX3_second_6 ?_
    refine V_alen X (ar_X3_2 hi) (by decide) dX3_second_9 ?_
    refine V_icmp_ge X (tgt := 22) dX3_second_10 (by decide) hf (fun hf => ?_) (fun hf => ?_)
    · refine V_gload_n X dX3_second_13 rfl rfl ?_
      refine V_getr X (ob_X3 hi) rfl rfl hin_X3 1 (Nat.le_of_ble_eq_true rfl) tw_191 (rr_X3_1 hi) dX3_second_14 ?_
      refine V_iload_n X dX3_second_17 rfl rfl ?_
      refine V_iald X (ar_X3_2 hi) dX3_second_18 hf (fun hf => ?_)
      refine V_goto X (tgt := 23) dX3_second_19 (by decide) ?_
      exact V_iret X hE dX3_second_23 hf
    · refine V_iconst X dX3_second_22 ?_
      exact V_iret X hE dX3_second_23 hf
abbrev rmX3_third : Room := { frames := 0, cells := 0, slots := 0, locals := 0 }
set_option maxRecDepth 20000 in
theorem m_X3_third {G : GG} {i : Nat} {a1 : Int} {w : WS} {q : (Int × WS)} (hi : isX3 i) (hf : f_X3_third i a1 w = some q) : MI G yX3_third cX3_third 2 (some .int) rmX3_third [gr G i, vi a1] w q := by
  refine MI_of (by decide +kernel) (Nat.le_of_ble_eq_true rfl) (fun E X hE => ?_)
  have X : Cx G E cX3_third RX3 (some .int) rmX3_third 2 := X
  unfold f_X3_third at hf
  refine V_iload_n X dX3_third_0 rfl rfl ?_
  refine V_if_lt X (tgt := 22) dX3_third_1 (by decide) hf (fun hf => ?_) (fun hf => ?_)
  · refine V_iconst X dX3_third_22 ?_
    exact V_iret X hE dX3_third_23 hf
  · refine V_iload_n X dX3_third_4 rfl rfl ?_
    refine V_gload_n X dX3_third_5 rfl rfl ?_
    refine V_getr X (ob_X3 hi) rfl rfl hin_X3 2 (Nat.le_of_ble_eq_true rfl) tw_192 (rr_X3_2 hi) dX3_third_6 ?_
    refine V_alen X (ar_X3_3 hi) (by decide) dX3_third_9 ?_
    refine V_icmp_ge X (tgt := 22) dX3_third_10 (by decide) hf (fun hf => ?_) (fun hf => ?_)
    · refine V_gload_n X dX3_third_13 rfl rfl ?_
      refine V_getr X (ob_X3 hi) rfl rfl hin_X3 2 (Nat.le_of_ble_eq_true rfl) tw_192 (rr_X3_2 hi) dX3_third_14 ?_
      refine V_iload_n X dX3_third_17 rfl rfl ?_
      refine V_iald X (ar_X3_3 hi) dX3_third_18 hf (fun hf => ?_)
      refine V_goto X (tgt := 23) dX3_third_19 (by decide) ?_
      exact V_iret X hE dX3_third_23 hf
    · refine V_iconst X dX3_third_22 ?_
      exact V_iret X hE dX3_third_23 hf
abbrev rmX2_capture : Room := { frames := 1, cells := 0, slots := 0, locals := 31 }
set_option maxRecDepth 20000 in
theorem m_X2_capture {G : GG} {a1 : Int} {a2 : Int} {a3 : Int} {w : WS} {q : (Int × WS)}  (hf : f_X2_capture a1 a2 a3 w = some q) : MV G yX2_capture cX2_capture 4 none rmX2_capture [gr G 39, vi a1, vi a2, vi a3] w q := by
  refine MV_of (by decide +kernel) (Nat.le_of_ble_eq_true rfl) (fun E X hE => ?_)
  have X : Cx G E cX2_capture RX2 none rmX2_capture 4 := X
  unfold f_X2_capture at hf
  refine V_gload_n X dX2_capture_0 rfl rfl ?_
  refine V_getr X ob_39 rfl rfl hin_X2 2 (Nat.le_of_ble_eq_true rfl) tw_208 rfl dX2_capture_1 ?_
  refine V_iload_n X dX2_capture_4 rfl rfl ?_
  refine V_cVV X hf [vi a1] _ 1 (fun _ h => m_X6_clear is_7 h) ob_7 rfl tw_470 tw_87 tw_1100 tw_468 tw_469 dX2_capture_5 ⟨by decide +kernel, by decide +kernel, by decide +kernel⟩ ⟨rfl, rfl⟩ ⟨Nat.le_of_ble_eq_true rfl, Nat.le_of_ble_eq_true rfl⟩ rfl (Nat.le_of_ble_eq_true rfl) ⟨Nat.zero_le _, Nat.zero_le _⟩ (fun r1 w1 hf => ?_)
  refine V_gload_n X dX2_capture_8 rfl rfl ?_
  refine V_getr X ob_39 rfl rfl hin_X2 2 (Nat.le_of_ble_eq_true rfl) tw_208 rfl dX2_capture_9 ?_
  refine V_iload_n X dX2_capture_12 rfl rfl ?_
  refine V_gload_n X dX2_capture_13 rfl rfl ?_
  refine V_getr X ob_39 rfl rfl hin_X2 3 (Nat.le_of_ble_eq_true rfl) tw_209 rfl dX2_capture_14 ?_
  refine V_iconst X dX2_capture_17 ?_
  refine V_iload_n X dX2_capture_18 rfl rfl ?_
  refine V_iload_n X dX2_capture_19 rfl rfl ?_
  refine V_cVI X hf [vi a1, gr G 13, vi 0, vi a2, vi a3] _ 5 (fun _ h => m_X6_append is_7 is_13 h) ob_7 rfl tw_641 tw_87 tw_1101 tw_639 tw_640 dX2_capture_20 ⟨by decide +kernel, by decide +kernel, by decide +kernel⟩ ⟨rfl, rfl⟩ ⟨Nat.le_of_ble_eq_true rfl, Nat.le_of_ble_eq_true rfl⟩ rfl (Nat.le_of_ble_eq_true rfl) ⟨Nat.zero_le _, Nat.zero_le _⟩ (fun r2 w2 hf => ?_)
  refine V_pop X dX2_capture_23 rfl ?_
  exact V_vret X hE dX2_capture_24 hf
abbrev rmX2_goOn : Room := { frames := 2, cells := 0, slots := 0, locals := 54 }
set_option maxRecDepth 20000 in
theorem m_X2_goOn {G : GG}  {w : WS} {q : (Int × WS)}  (hf : f_X2_goOn  w = some q) : MI G yX2_goOn cX2_goOn 2 (some .int) rmX2_goOn [gr G 39] w q := by
  refine MI_of (by decide +kernel) (Nat.le_of_ble_eq_true rfl) (fun E X hE => ?_)
  have X : Cx G E cX2_goOn RX2 (some .int) rmX2_goOn 2 := X
  unfold f_X2_goOn at hf
  refine V_gload_n X dX2_goOn_0 rfl rfl ?_
  refine V_geti X ob_39 rfl rfl hin_X2 15 (Nat.le_of_ble_eq_true rfl) tw_224 rfl dX2_goOn_1 ?_
  refine V_iconst X dX2_goOn_4 ?_
  refine V_icmp_ne X (tgt := 10) dX2_goOn_5 (by decide) hf (fun hf => ?_) (fun hf => ?_)
  · refine V_iconst X dX2_goOn_8 ?_
    exact V_iret X hE dX2_goOn_9 hf
  · refine V_gload_n X dX2_goOn_10 rfl rfl ?_
    refine V_gload_n X dX2_goOn_11 rfl rfl ?_
    refine V_getr X ob_39 rfl rfl hin_X2 4 (Nat.le_of_ble_eq_true rfl) tw_210 rfl dX2_goOn_12 ?_
    refine V_gload_n X dX2_goOn_15 rfl rfl ?_
    refine V_geti X ob_39 rfl rfl hin_X2 15 (Nat.le_of_ble_eq_true rfl) tw_224 rfl dX2_goOn_16 ?_
    refine V_cVI X hf [vi (w 39 15)] _ 1 (fun _ h => m_X3_first is_40 h) ob_40 rfl tw_1087 tw_91 tw_1084 tw_1085 tw_1086 dX2_goOn_19 ⟨by decide +kernel, by decide +kernel, by decide +kernel⟩ ⟨rfl, rfl⟩ ⟨Nat.le_of_ble_eq_true rfl, Nat.le_of_ble_eq_true rfl⟩ rfl (Nat.le_of_ble_eq_true rfl) ⟨Nat.zero_le _, Nat.zero_le _⟩ (fun r1 w1 hf => ?_)
    refine V_puti X ob_39 rfl rfl hin_X2 13 (Nat.le_of_ble_eq_true rfl) tw_221 tyX2 tyX2_ok nmX2 rfl (by decide +kernel) rfl dX2_goOn_22 ?_
    refine V_gload_n X dX2_goOn_25 rfl rfl ?_
    refine V_getr X ob_39 rfl rfl hin_X2 4 (Nat.le_of_ble_eq_true rfl) tw_210 rfl dX2_goOn_26 ?_
    refine V_gload_n X dX2_goOn_29 rfl rfl ?_
    refine V_geti X ob_39 rfl rfl hin_X2 15 (Nat.le_of_ble_eq_true rfl) tw_224 rfl dX2_goOn_30 ?_
    refine V_cVI X hf [vi ((up w1 39 13 r1) 39 15)] _ 1 (fun _ h => m_X3_second is_40 h) ob_40 rfl tw_1091 tw_91 tw_1088 tw_1089 tw_1090 dX2_goOn_33 ⟨by decide +kernel, by decide +kernel, by decide +kernel⟩ ⟨rfl, rfl⟩ ⟨Nat.le_of_ble_eq_true rfl, Nat.le_of_ble_eq_true rfl⟩ rfl (Nat.le_of_ble_eq_true rfl) ⟨Nat.zero_le _, Nat.zero_le _⟩ (fun r2 w2 hf => ?_)
    refine V_istore_n X dX2_goOn_36 rfl (by decide) ?_
    refine V_gload_n X dX2_goOn_37 rfl rfl ?_
    refine V_gload_n X dX2_goOn_38 rfl rfl ?_
    refine V_getr X ob_39 rfl rfl hin_X2 4 (Nat.le_of_ble_eq_true rfl) tw_210 rfl dX2_goOn_39 ?_
    refine V_gload_n X dX2_goOn_42 rfl rfl ?_
    refine V_geti X ob_39 rfl rfl hin_X2 15 (Nat.le_of_ble_eq_true rfl) tw_224 rfl dX2_goOn_43 ?_
    refine V_cVI X hf [vi (w2 39 15)] _ 1 (fun _ h => m_X3_third is_40 h) ob_40 rfl tw_1095 tw_91 tw_1092 tw_1093 tw_1094 dX2_goOn_46 ⟨by decide +kernel, by decide +kernel, by decide +kernel⟩ ⟨rfl, rfl⟩ ⟨Nat.le_of_ble_eq_true rfl, Nat.le_of_ble_eq_true rfl⟩ rfl (Nat.le_of_ble_eq_true rfl) ⟨Nat.zero_le _, Nat.zero_le _⟩ (fun r3 w3 hf => ?_)
    refine V_puti X ob_39 rfl rfl hin_X2 15 (Nat.le_of_ble_eq_true rfl) tw_224 tyX2 tyX2_ok nmX2 rfl (by decide +kernel) rfl dX2_goOn_49 ?_
    refine V_gload_n X dX2_goOn_52 rfl rfl ?_
    refine V_getr X ob_39 rfl rfl hin_X2 0 (Nat.le_of_ble_eq_true rfl) tw_206 rfl dX2_goOn_53 ?_
    refine V_getrN X ob_25 rfl rfl hin_X0 1 (Nat.le_of_ble_eq_true rfl) nw_1 rfl dX2_goOn_56 ?_
    refine V_gload_n X dX2_goOn_59 rfl rfl ?_
    refine V_geti X ob_39 rfl rfl hin_X2 13 (Nat.le_of_ble_eq_true rfl) tw_221 rfl dX2_goOn_60 ?_
    refine V_cVI X hf [vi ((up w3 39 15 r3) 39 13)] _ 1 (fun _ h => m_X1_get is_26 h) ob_26 rfl tw_500 tw_89 tw_1035 tw_498 tw_499 dX2_goOn_63 ⟨by decide +kernel, by decide +kernel, by decide +kernel⟩ ⟨rfl, rfl⟩ ⟨Nat.le_of_ble_eq_true rfl, Nat.le_of_ble_eq_true rfl⟩ rfl (Nat.le_of_ble_eq_true rfl) ⟨Nat.zero_le _, Nat.zero_le _⟩ (fun r4 w4 hf => ?_)
    refine ite_c hf (fun h0 hf => ?_) (fun h0 hf => ?_)
    · refine V_lookup X (off := 53) (tgt := 119) dX2_goOn_66 (by decide) (by exact off_pos h0) (by decide) ?_
      refine V_gload_n X dX2_goOn_119 rfl rfl ?_
      refine V_gload_n X dX2_goOn_120 rfl rfl ?_
      refine V_getr X ob_39 rfl rfl hin_X2 0 (Nat.le_of_ble_eq_true rfl) tw_206 rfl dX2_goOn_121 ?_
      refine V_getrN X ob_25 rfl rfl hin_X0 3 (Nat.le_of_ble_eq_true rfl) nw_5 rfl dX2_goOn_124 ?_
      refine V_gload_n X dX2_goOn_127 rfl rfl ?_
      refine V_geti X ob_39 rfl rfl hin_X2 13 (Nat.le_of_ble_eq_true rfl) tw_221 rfl dX2_goOn_128 ?_
      refine V_cVI X hf [vi (w4 39 13)] _ 1 (fun _ h => m_X1_get is_30 h) ob_30 rfl tw_500 tw_89 tw_1035 tw_498 tw_499 dX2_goOn_131 ⟨by decide +kernel, by decide +kernel, by decide +kernel⟩ ⟨rfl, rfl⟩ ⟨Nat.le_of_ble_eq_true rfl, Nat.le_of_ble_eq_true rfl⟩ rfl (Nat.le_of_ble_eq_true rfl) ⟨Nat.zero_le _, Nat.zero_le _⟩ (fun r5 w5 hf => ?_)
      refine V_iload_n X dX2_goOn_134 rfl rfl ?_
      refine V_gload_n X dX2_goOn_135 rfl rfl ?_
      refine V_geti X ob_39 rfl rfl hin_X2 14 (Nat.le_of_ble_eq_true rfl) tw_222 rfl dX2_goOn_136 ?_
      refine V_cVV X hf [vi r5, vi r2, vi (w5 39 14)] _ 3 (fun _ h => m_X2_capture h) ob_39 rfl tw_1099 tw_90 tw_1096 tw_1098 tw_25 dX2_goOn_139 ⟨by decide +kernel, by decide +kernel, by decide +kernel⟩ ⟨rfl, rfl⟩ ⟨Nat.le_of_ble_eq_true rfl, Nat.le_of_ble_eq_true rfl⟩ rfl (Nat.le_of_ble_eq_true rfl) ⟨Nat.zero_le _, Nat.zero_le _⟩ (fun r6 w6 hf => ?_)
      refine V_bipush X dX2_goOn_142 (by decide) ?_
      exact V_iret X hE dX2_goOn_144 hf
    refine ite_c hf (fun h1 hf => ?_) (fun h1 hf => ?_)
    · refine V_lookup X (off := 34) (tgt := 100) dX2_goOn_66 (by decide) (by exact off_neg h0 (off_pos h1)) (by decide) ?_
      refine V_gload_n X dX2_goOn_100 rfl rfl ?_
      refine V_gload_n X dX2_goOn_101 rfl rfl ?_
      refine V_getr X ob_39 rfl rfl hin_X2 0 (Nat.le_of_ble_eq_true rfl) tw_206 rfl dX2_goOn_102 ?_
      refine V_getrN X ob_25 rfl rfl hin_X0 3 (Nat.le_of_ble_eq_true rfl) nw_5 rfl dX2_goOn_105 ?_
      refine V_gload_n X dX2_goOn_108 rfl rfl ?_
      refine V_geti X ob_39 rfl rfl hin_X2 13 (Nat.le_of_ble_eq_true rfl) tw_221 rfl dX2_goOn_109 ?_
      refine V_cVI X hf [vi (w4 39 13)] _ 1 (fun _ h => m_X1_get is_30 h) ob_30 rfl tw_500 tw_89 tw_1035 tw_498 tw_499 dX2_goOn_112 ⟨by decide +kernel, by decide +kernel, by decide +kernel⟩ ⟨rfl, rfl⟩ ⟨Nat.le_of_ble_eq_true rfl, Nat.le_of_ble_eq_true rfl⟩ rfl (Nat.le_of_ble_eq_true rfl) ⟨Nat.zero_le _, Nat.zero_le _⟩ (fun r7 w7 hf => ?_)
      refine V_cVI X hf [vi r7] _ 1 (fun _ h => m_X2_beginPart h) ob_39 rfl tw_1047 tw_90 tw_1044 tw_1046 tw_17 dX2_goOn_115 ⟨by decide +kernel, by decide +kernel, by decide +kernel⟩ ⟨rfl, rfl⟩ ⟨Nat.le_of_ble_eq_true rfl, Nat.le_of_ble_eq_true rfl⟩ rfl (Nat.le_of_ble_eq_true rfl) ⟨Nat.zero_le _, Nat.zero_le _⟩ (fun r8 w8 hf => ?_)
      exact V_iret X hE dX2_goOn_118 hf
    refine ite_c hf (fun h2 hf => ?_) (fun h2 hf => ?_)
    · refine V_lookup X (off := 79) (tgt := 145) dX2_goOn_66 (by decide) (by exact off_neg h0 (off_neg h1 (off_pos h2))) (by decide) ?_
      refine V_gload_n X dX2_goOn_145 rfl rfl ?_
      refine V_getr X ob_39 rfl rfl hin_X2 7 (Nat.le_of_ble_eq_true rfl) tw_213 rfl dX2_goOn_146 ?_
      refine V_gload_n X dX2_goOn_149 rfl rfl ?_
      refine V_getr X ob_39 rfl rfl hin_X2 0 (Nat.le_of_ble_eq_true rfl) tw_206 rfl dX2_goOn_150 ?_
      refine V_getrN X ob_25 rfl rfl hin_X0 3 (Nat.le_of_ble_eq_true rfl) nw_5 rfl dX2_goOn_153 ?_
      refine V_gload_n X dX2_goOn_156 rfl rfl ?_
      refine V_geti X ob_39 rfl rfl hin_X2 13 (Nat.le_of_ble_eq_true rfl) tw_221 rfl dX2_goOn_157 ?_
      refine V_cVI X hf [vi (w4 39 13)] _ 1 (fun _ h => m_X1_get is_30 h) ob_30 rfl tw_500 tw_89 tw_1035 tw_498 tw_499 dX2_goOn_160 ⟨by decide +kernel, by decide +kernel, by decide +kernel⟩ ⟨rfl, rfl⟩ ⟨Nat.le_of_ble_eq_true rfl, Nat.le_of_ble_eq_true rfl⟩ rfl (Nat.le_of_ble_eq_true rfl) ⟨Nat.zero_le _, Nat.zero_le _⟩ (fun r9 w9 hf => ?_)
      refine V_iload_n X dX2_goOn_163 rfl rfl ?_
      refine V_gload_n X dX2_goOn_164 rfl rfl ?_
      refine V_geti X ob_39 rfl rfl hin_X2 14 (Nat.le_of_ble_eq_true rfl) tw_222 rfl dX2_goOn_165 ?_
      refine V_cVV X hf [vi r9, vi r2, vi (w9 39 14)] _ 3 (fun _ h => m_X3_push is_50 h) ob_50 rfl tw_1043 tw_91 tw_1040 tw_1041 tw_1042 dX2_goOn_168 ⟨by decide +kernel, by decide +kernel, by decide +kernel⟩ ⟨rfl, rfl⟩ ⟨Nat.le_of_ble_eq_true rfl, Nat.le_of_ble_eq_true rfl⟩ rfl (Nat.le_of_ble_eq_true rfl) ⟨Nat.zero_le _, Nat.zero_le _⟩ (fun r10 w10 hf => ?_)
      refine V_bipush X dX2_goOn_171 (by decide) ?_
      exact V_iret X hE dX2_goOn_173 hf
    refine V_lookup X (off := 108) (tgt := 174) dX2_goOn_66 (by decide) (by exact off_neg h0 (off_neg h1 (off_neg h2 (rfl)))) (by decide) ?_
    refine V_gload_n X dX2_goOn_174 rfl rfl ?_
    refine V_geti X ob_39 rfl rfl hin_X2 14 (Nat.le_of_ble_eq_true rfl) tw_222 rfl dX2_goOn_175 ?_
    refine V_iload_n X dX2_goOn_178 rfl rfl ?_
    refine V_icmp_ne X (tgt := 187) dX2_goOn_179 (by decide) hf (fun hf => ?_) (fun hf => ?_)
    · refine V_bipush X dX2_goOn_182 (by decide) ?_
      refine V_goto X (tgt := 189) dX2_goOn_184 (by decide) ?_
      exact V_iret X hE dX2_goOn_189 hf
    · refine V_bipush X dX2_goOn_187 (by decide) ?_
      exact V_iret X hE dX2_goOn_189 hf
abbrev rmX2_beginAtNextCursor : Room := { frames := 1, cells := 0, slots := 0, locals := 21 }
set_option maxRecDepth 20000 in
theorem v_X2_beginAtNextCursor_37 {G : GG} {E : EE} (X : Cx G E cX2_beginAtNextCursor RX2 (some .int) rmX2_beginAtNextCursor 1) {q : (Int × WS)} (hE : EndI G E q)   {w : WS} (hf : f_X2_beginAtNextCursor_37    w = some q) : VV G E 0 0 37 [(0, gr G 39)] [] w := by
  unfold f_X2_beginAtNextCursor_37 at hf
  refine V_gload_n X dX2_beginAtNextCursor_37 rfl rfl ?_
  refine V_gload_n X dX2_beginAtNextCursor_38 rfl rfl ?_
  refine V_geti X ob_39 rfl rfl hin_X2 11 (Nat.le_of_ble_eq_true rfl) tw_217 rfl dX2_beginAtNextCursor_39 ?_
  refine V_puti X ob_39 rfl rfl hin_X2 14 (Nat.le_of_ble_eq_true rfl) tw_222 tyX2 tyX2_ok nmX2 rfl (by decide +kernel) rfl dX2_beginAtNextCursor_42 ?_
  refine V_gload_n X dX2_beginAtNextCursor_45 rfl rfl ?_
  refine V_iconst X dX2_beginAtNextCursor_46 ?_
  refine V_puti X ob_39 rfl rfl hin_X2 15 (Nat.le_of_ble_eq_true rfl) tw_224 tyX2 tyX2_ok nmX2 rfl (by decide +kernel) rfl dX2_beginAtNextCursor_47 ?_
  refine V_gload_n X dX2_beginAtNextCursor_50 rfl rfl ?_
  refine V_getr X ob_39 rfl rfl hin_X2 7 (Nat.le_of_ble_eq_true rfl) tw_213 rfl dX2_beginAtNextCursor_51 ?_
  refine V_iconst X dX2_beginAtNextCursor_54 ?_
  refine V_putiN X ob_50 rfl rfl hin_X3 3 (Nat.le_of_ble_eq_true rfl) nw_7 tyX3 tyX3_ok nmX3 rfl (by decide +kernel) rfl dX2_beginAtNextCursor_55 ?_
  refine V_gload_n X dX2_beginAtNextCursor_58 rfl rfl ?_
  refine V_gload_n X dX2_beginAtNextCursor_59 rfl rfl ?_
  refine V_geti X ob_39 rfl rfl hin_X2 8 (Nat.le_of_ble_eq_true rfl) tw_214 rfl dX2_beginAtNextCursor_60 ?_
  refine V_cVI X hf [vi ((up (up (up w 39 14 (w 39 11)) 39 15 (-1)) 50 3 0) 39 8)] _ 1 (fun _ h => m_X2_beginPart h) ob_39 rfl tw_1047 tw_90 tw_1044 tw_1046 tw_17 dX2_beginAtNextCursor_63 ⟨by decide +kernel, by decide +kernel, by decide +kernel⟩ ⟨rfl, rfl⟩ ⟨Nat.le_of_ble_eq_true rfl, Nat.le_of_ble_eq_true rfl⟩ rfl (Nat.le_of_ble_eq_true rfl) ⟨Nat.zero_le _, Nat.zero_le _⟩ (fun r1 w1 hf => ?_)
  exact V_iret X hE dX2_beginAtNextCursor_66 hf
set_option maxRecDepth 20000 in
theorem m_X2_beginAtNextCursor {G : GG}  {w : WS} {q : (Int × WS)}  (hf : f_X2_beginAtNextCursor  w = some q) : MI G yX2_beginAtNextCursor cX2_beginAtNextCursor 1 (some .int) rmX2_beginAtNextCursor [gr G 39] w q := by
  refine MI_of (by decide +kernel) (Nat.le_of_ble_eq_true rfl) (fun E X hE => ?_)
  have X : Cx G E cX2_beginAtNextCursor RX2 (some .int) rmX2_beginAtNextCursor 1 := X
  unfold f_X2_beginAtNextCursor at hf
  refine V_gload_n X dX2_beginAtNextCursor_0 rfl rfl ?_
  refine V_dup X dX2_beginAtNextCursor_1 rfl ?_
  refine V_geti X ob_39 rfl rfl hin_X2 11 (Nat.le_of_ble_eq_true rfl) tw_217 rfl dX2_beginAtNextCursor_2 ?_
  refine V_iconst X dX2_beginAtNextCursor_5 ?_
  refine V_iadd X dX2_beginAtNextCursor_6 ?_
  refine V_puti X ob_39 rfl rfl hin_X2 11 (Nat.le_of_ble_eq_true rfl) tw_217 tyX2 tyX2_ok nmX2 rfl (by decide +kernel) rfl dX2_beginAtNextCursor_7 ?_
  refine V_gload_n X dX2_beginAtNextCursor_10 rfl rfl ?_
  refine V_geti X ob_39 rfl rfl hin_X2 11 (Nat.le_of_ble_eq_true rfl) tw_217 rfl dX2_beginAtNextCursor_11 ?_
  refine V_gload_n X dX2_beginAtNextCursor_14 rfl rfl ?_
  refine V_geti X ob_39 rfl rfl hin_X2 10 (Nat.le_of_ble_eq_true rfl) tw_216 rfl dX2_beginAtNextCursor_15 ?_
  refine V_icmp_gt X (tgt := 35) dX2_beginAtNextCursor_18 (by decide) hf (fun hf => ?_) (fun hf => ?_)
  · refine V_iconst X dX2_beginAtNextCursor_35 ?_
    exact V_iret X hE dX2_beginAtNextCursor_36 hf
  · refine V_gload_n X dX2_beginAtNextCursor_21 rfl rfl ?_
    refine V_geti X ob_39 rfl rfl hin_X2 9 (Nat.le_of_ble_eq_true rfl) tw_215 rfl dX2_beginAtNextCursor_22 ?_
    refine V_if_eq X (tgt := 37) dX2_beginAtNextCursor_25 (by decide) hf (fun hf => ?_) (fun hf => ?_)
    · exact V_cut [0] rfl (v_X2_beginAtNextCursor_37 X hE hf)
    · refine V_gload_n X dX2_beginAtNextCursor_28 rfl rfl ?_
      refine V_geti X ob_39 rfl rfl hin_X2 11 (Nat.le_of_ble_eq_true rfl) tw_217 rfl dX2_beginAtNextCursor_29 ?_
      refine V_if_le X (tgt := 37) dX2_beginAtNextCursor_32 (by decide) hf (fun hf => ?_) (fun hf => ?_)
      · refine V_iconst X dX2_beginAtNextCursor_35 ?_
        exact V_iret X hE dX2_beginAtNextCursor_36 hf
      · exact V_cut [0] rfl (v_X2_beginAtNextCursor_37 X hE hf)
abbrev rmX2_goBack : Room := { frames := 2, cells := 0, slots := 0, locals := 43 }
set_option maxRecDepth 20000 in
theorem m_X2_goBack {G : GG}  {w : WS} {q : (Int × WS)}  (hf : f_X2_goBack  w = some q) : MI G yX2_goBack cX2_goBack 1 (some .int) rmX2_goBack [gr G 39] w q := by
  refine MI_of (by decide +kernel) (Nat.le_of_ble_eq_true rfl) (fun E X hE => ?_)
  have X : Cx G E cX2_goBack RX2 (some .int) rmX2_goBack 1 := X
  unfold f_X2_goBack at hf
  refine V_gload_n X dX2_goBack_0 rfl rfl ?_
  refine V_getr X ob_39 rfl rfl hin_X2 5 (Nat.le_of_ble_eq_true rfl) tw_211 rfl dX2_goBack_1 ?_
  refine V_getiN X ob_44 rfl rfl hin_X3 3 (Nat.le_of_ble_eq_true rfl) nw_7 rfl dX2_goBack_4 ?_
  refine V_if_gt X (tgt := 15) dX2_goBack_7 (by decide) hf (fun hf => ?_) (fun hf => ?_)
  · refine V_gload_n X dX2_goBack_15 rfl rfl ?_
    refine V_getr X ob_39 rfl rfl hin_X2 5 (Nat.le_of_ble_eq_true rfl) tw_211 rfl dX2_goBack_16 ?_
    refine V_dup X dX2_goBack_19 rfl ?_
    refine V_getiN X ob_44 rfl rfl hin_X3 3 (Nat.le_of_ble_eq_true rfl) nw_7 rfl dX2_goBack_20 ?_
    refine V_iconst X dX2_goBack_23 ?_
    refine V_isub X dX2_goBack_24 ?_
    refine V_putiN X ob_44 rfl rfl hin_X3 3 (Nat.le_of_ble_eq_true rfl) nw_7 tyX3 tyX3_ok nmX3 rfl (by decide +kernel) rfl dX2_goBack_25 ?_
    refine V_gload_n X dX2_goBack_28 rfl rfl ?_
    refine V_gload_n X dX2_goBack_29 rfl rfl ?_
    refine V_getr X ob_39 rfl rfl hin_X2 5 (Nat.le_of_ble_eq_true rfl) tw_211 rfl dX2_goBack_30 ?_
    refine V_gload_n X dX2_goBack_33 rfl rfl ?_
    refine V_getr X ob_39 rfl rfl hin_X2 5 (Nat.le_of_ble_eq_true rfl) tw_211 rfl dX2_goBack_34 ?_
    refine V_getiN X ob_44 rfl rfl hin_X3 3 (Nat.le_of_ble_eq_true rfl) nw_7 rfl dX2_goBack_37 ?_
    refine V_cVI X hf [vi ((up w 44 3 ((w 44 3) - 1)) 44 3)] _ 1 (fun _ h => m_X3_first is_44 h) ob_44 rfl tw_1087 tw_91 tw_1084 tw_1085 tw_1086 dX2_goBack_40 ⟨by decide +kernel, by decide +kernel, by decide +kernel⟩ ⟨rfl, rfl⟩ ⟨Nat.le_of_ble_eq_true rfl, Nat.le_of_ble_eq_true rfl⟩ rfl (Nat.le_of_ble_eq_true rfl) ⟨Nat.zero_le _, Nat.zero_le _⟩ (fun r1 w1 hf => ?_)
    refine V_puti X ob_39 rfl rfl hin_X2 13 (Nat.le_of_ble_eq_true rfl) tw_221 tyX2 tyX2_ok nmX2 rfl (by decide +kernel) rfl dX2_goBack_43 ?_
    refine V_gload_n X dX2_goBack_46 rfl rfl ?_
    refine V_gload_n X dX2_goBack_47 rfl rfl ?_
    refine V_getr X ob_39 rfl rfl hin_X2 5 (Nat.le_of_ble_eq_true rfl) tw_211 rfl dX2_goBack_48 ?_
    refine V_gload_n X dX2_goBack_51 rfl rfl ?_
    refine V_getr X ob_39 rfl rfl hin_X2 5 (Nat.le_of_ble_eq_true rfl) tw_211 rfl dX2_goBack_52 ?_
    refine V_getiN X ob_44 rfl rfl hin_X3 3 (Nat.le_of_ble_eq_true rfl) nw_7 rfl dX2_goBack_55 ?_
    refine V_cVI X hf [vi ((up w1 39 13 r1) 44 3)] _ 1 (fun _ h => m_X3_second is_44 h) ob_44 rfl tw_1091 tw_91 tw_1088 tw_1089 tw_1090 dX2_goBack_58 ⟨by decide +kernel, by decide +kernel, by decide +kernel⟩ ⟨rfl, rfl⟩ ⟨Nat.le_of_ble_eq_true rfl, Nat.le_of_ble_eq_true rfl⟩ rfl (Nat.le_of_ble_eq_true rfl) ⟨Nat.zero_le _, Nat.zero_le _⟩ (fun r2 w2 hf => ?_)
    refine V_puti X ob_39 rfl rfl hin_X2 14 (Nat.le_of_ble_eq_true rfl) tw_222 tyX2 tyX2_ok nmX2 rfl (by decide +kernel) rfl dX2_goBack_61 ?_
    refine V_gload_n X dX2_goBack_64 rfl rfl ?_
    refine V_gload_n X dX2_goBack_65 rfl rfl ?_
    refine V_getr X ob_39 rfl rfl hin_X2 5 (Nat.le_of_ble_eq_true rfl) tw_211 rfl dX2_goBack_66 ?_
    refine V_gload_n X dX2_goBack_69 rfl rfl ?_
    refine V_getr X ob_39 rfl rfl hin_X2 5 (Nat.le_of_ble_eq_true rfl) tw_211 rfl dX2_goBack_70 ?_
    refine V_getiN X ob_44 rfl rfl hin_X3 3 (Nat.le_of_ble_eq_true rfl) nw_7 rfl dX2_goBack_73 ?_
    refine V_cVI X hf [vi ((up w2 39 14 r2) 44 3)] _ 1 (fun _ h => m_X3_third is_44 h) ob_44 rfl tw_1095 tw_91 tw_1092 tw_1093 tw_1094 dX2_goBack_76 ⟨by decide +kernel, by decide +kernel, by decide +kernel⟩ ⟨rfl, rfl⟩ ⟨Nat.le_of_ble_eq_true rfl, Nat.le_of_ble_eq_true rfl⟩ rfl (Nat.le_of_ble_eq_true rfl) ⟨Nat.zero_le _, Nat.zero_le _⟩ (fun r3 w3 hf => ?_)
    refine V_puti X ob_39 rfl rfl hin_X2 15 (Nat.le_of_ble_eq_true rfl) tw_224 tyX2 tyX2_ok nmX2 rfl (by decide +kernel) rfl dX2_goBack_79 ?_
    refine V_gload_n X dX2_goBack_82 rfl rfl ?_
    refine V_getr X ob_39 rfl rfl hin_X2 7 (Nat.le_of_ble_eq_true rfl) tw_213 rfl dX2_goBack_83 ?_
    refine V_gload_n X dX2_goBack_86 rfl rfl ?_
    refine V_getr X ob_39 rfl rfl hin_X2 6 (Nat.le_of_ble_eq_true rfl) tw_212 rfl dX2_goBack_87 ?_
    refine V_gload_n X dX2_goBack_90 rfl rfl ?_
    refine V_getr X ob_39 rfl rfl hin_X2 5 (Nat.le_of_ble_eq_true rfl) tw_211 rfl dX2_goBack_91 ?_
    refine V_getiN X ob_44 rfl rfl hin_X3 3 (Nat.le_of_ble_eq_true rfl) nw_7 rfl dX2_goBack_94 ?_
    refine V_cVI X hf [vi ((up w3 39 15 r3) 44 3)] _ 1 (fun _ h => m_X1_get is_48 h) ob_48 rfl tw_500 tw_89 tw_1035 tw_498 tw_499 dX2_goBack_97 ⟨by decide +kernel, by decide +kernel, by decide +kernel⟩ ⟨rfl, rfl⟩ ⟨Nat.le_of_ble_eq_true rfl, Nat.le_of_ble_eq_true rfl⟩ rfl (Nat.le_of_ble_eq_true rfl) ⟨Nat.zero_le _, Nat.zero_le _⟩ (fun r4 w4 hf => ?_)
    refine V_putiN X ob_50 rfl rfl hin_X3 3 (Nat.le_of_ble_eq_true rfl) nw_7 tyX3 tyX3_ok nmX3 rfl (by decide +kernel) rfl dX2_goBack_100 ?_
    refine V_gload_n X dX2_goBack_103 rfl rfl ?_
    refine V_getr X ob_39 rfl rfl hin_X2 0 (Nat.le_of_ble_eq_true rfl) tw_206 rfl dX2_goBack_104 ?_
    refine V_getrN X ob_25 rfl rfl hin_X0 1 (Nat.le_of_ble_eq_true rfl) nw_1 rfl dX2_goBack_107 ?_
    refine V_gload_n X dX2_goBack_110 rfl rfl ?_
    refine V_geti X ob_39 rfl rfl hin_X2 13 (Nat.le_of_ble_eq_true rfl) tw_221 rfl dX2_goBack_111 ?_
    refine V_cVI X hf [vi ((up w4 50 3 r4) 39 13)] _ 1 (fun _ h => m_X1_get is_26 h) ob_26 rfl tw_500 tw_89 tw_1035 tw_498 tw_499 dX2_goBack_114 ⟨by decide +kernel, by decide +kernel, by decide +kernel⟩ ⟨rfl, rfl⟩ ⟨Nat.le_of_ble_eq_true rfl, Nat.le_of_ble_eq_true rfl⟩ rfl (Nat.le_of_ble_eq_true rfl) ⟨Nat.zero_le _, Nat.zero_le _⟩ (fun r5 w5 hf => ?_)
    refine ite_c hf (fun h0 hf => ?_) (fun h0 hf => ?_)
    · refine V_lookup X (off := 85) (tgt := 202) dX2_goBack_117 (by decide) (by exact off_pos h0) (by decide) ?_
      refine V_gload_n X dX2_goBack_202 rfl rfl ?_
      refine V_dup X dX2_goBack_203 rfl ?_
      refine V_geti X ob_39 rfl rfl hin_X2 14 (Nat.le_of_ble_eq_true rfl) tw_222 rfl dX2_goBack_204 ?_
      refine V_iconst X dX2_goBack_207 ?_
      refine V_iadd X dX2_goBack_208 ?_
      refine V_puti X ob_39 rfl rfl hin_X2 14 (Nat.le_of_ble_eq_true rfl) tw_222 tyX2 tyX2_ok nmX2 rfl (by decide +kernel) rfl dX2_goBack_209 ?_
      refine V_gload_n X dX2_goBack_212 rfl rfl ?_
      refine V_geti X ob_39 rfl rfl hin_X2 14 (Nat.le_of_ble_eq_true rfl) tw_222 rfl dX2_goBack_213 ?_
      refine V_gload_n X dX2_goBack_216 rfl rfl ?_
      refine V_geti X ob_39 rfl rfl hin_X2 10 (Nat.le_of_ble_eq_true rfl) tw_216 rfl dX2_goBack_217 ?_
      refine V_icmp_gt X (tgt := 228) dX2_goBack_220 (by decide) hf (fun hf => ?_) (fun hf => ?_)
      · refine V_bipush X dX2_goBack_228 (by decide) ?_
        exact V_iret X hE dX2_goBack_230 hf
      · refine V_bipush X dX2_goBack_223 (by decide) ?_
        refine V_goto X (tgt := 230) dX2_goBack_225 (by decide) ?_
        exact V_iret X hE dX2_goBack_230 hf
    refine ite_c hf (fun h1 hf => ?_) (fun h1 hf => ?_)
    · refine V_lookup X (off := 62) (tgt := 179) dX2_goBack_117 (by decide) (by exact off_neg h0 (off_pos h1)) (by decide) ?_
      refine V_gload_n X dX2_goBack_179 rfl rfl ?_
      refine V_cVV X hf [] _ 0 (fun _ h => m_X2_addNode h) ob_39 rfl tw_1039 tw_90 tw_1036 tw_1038 tw_16 dX2_goBack_180 ⟨by decide +kernel, by decide +kernel, by decide +kernel⟩ ⟨rfl, rfl⟩ ⟨Nat.le_of_ble_eq_true rfl, Nat.le_of_ble_eq_true rfl⟩ rfl (Nat.le_of_ble_eq_true rfl) ⟨Nat.zero_le _, Nat.zero_le _⟩ (fun r6 w6 hf => ?_)
      refine V_gload_n X dX2_goBack_183 rfl rfl ?_
      refine V_gload_n X dX2_goBack_184 rfl rfl ?_
      refine V_getr X ob_39 rfl rfl hin_X2 0 (Nat.le_of_ble_eq_true rfl) tw_206 rfl dX2_goBack_185 ?_
      refine V_getrN X ob_25 rfl rfl hin_X0 2 (Nat.le_of_ble_eq_true rfl) nw_3 rfl dX2_goBack_188 ?_
      refine V_gload_n X dX2_goBack_191 rfl rfl ?_
      refine V_geti X ob_39 rfl rfl hin_X2 13 (Nat.le_of_ble_eq_true rfl) tw_221 rfl dX2_goBack_192 ?_
      refine V_cVI X hf [vi (w6 39 13)] _ 1 (fun _ h => m_X1_get is_28 h) ob_28 rfl tw_500 tw_89 tw_1035 tw_498 tw_499 dX2_goBack_195 ⟨by decide +kernel, by decide +kernel, by decide +kernel⟩ ⟨rfl, rfl⟩ ⟨Nat.le_of_ble_eq_true rfl, Nat.le_of_ble_eq_true rfl⟩ rfl (Nat.le_of_ble_eq_true rfl) ⟨Nat.zero_le _, Nat.zero_le _⟩ (fun r7 w7 hf => ?_)
      refine V_cVI X hf [vi r7] _ 1 (fun _ h => m_X2_beginPart h) ob_39 rfl tw_1047 tw_90 tw_1044 tw_1046 tw_17 dX2_goBack_198 ⟨by decide +kernel, by decide +kernel, by decide +kernel⟩ ⟨rfl, rfl⟩ ⟨Nat.le_of_ble_eq_true rfl, Nat.le_of_ble_eq_true rfl⟩ rfl (Nat.le_of_ble_eq_true rfl) ⟨Nat.zero_le _, Nat.zero_le _⟩ (fun r8 w8 hf => ?_)
      exact V_iret X hE dX2_goBack_201 hf
    refine ite_c hf (fun h2 hf => ?_) (fun h2 hf => ?_)
    · refine V_lookup X (off := 114) (tgt := 231) dX2_goBack_117 (by decide) (by exact off_neg h0 (off_neg h1 (off_pos h2))) (by decide) ?_
      refine V_bipush X dX2_goBack_231 (by decide) ?_
      exact V_iret X hE dX2_goBack_233 hf
    refine ite_c hf (fun h3 hf => ?_) (fun h3 hf => ?_)
    · refine V_lookup X (off := 43) (tgt := 160) dX2_goBack_117 (by decide) (by exact off_neg h0 (off_neg h1 (off_neg h2 (off_pos h3)))) (by decide) ?_
      refine V_gload_n X dX2_goBack_160 rfl rfl ?_
      refine V_gload_n X dX2_goBack_161 rfl rfl ?_
      refine V_getr X ob_39 rfl rfl hin_X2 0 (Nat.le_of_ble_eq_true rfl) tw_206 rfl dX2_goBack_162 ?_
      refine V_getrN X ob_25 rfl rfl hin_X0 3 (Nat.le_of_ble_eq_true rfl) nw_5 rfl dX2_goBack_165 ?_
      refine V_gload_n X dX2_goBack_168 rfl rfl ?_
      refine V_geti X ob_39 rfl rfl hin_X2 13 (Nat.le_of_ble_eq_true rfl) tw_221 rfl dX2_goBack_169 ?_
      refine V_cVI X hf [vi (w5 39 13)] _ 1 (fun _ h => m_X1_get is_30 h) ob_30 rfl tw_500 tw_89 tw_1035 tw_498 tw_499 dX2_goBack_172 ⟨by decide +kernel, by decide +kernel, by decide +kernel⟩ ⟨rfl, rfl⟩ ⟨Nat.le_of_ble_eq_true rfl, Nat.le_of_ble_eq_true rfl⟩ rfl (Nat.le_of_ble_eq_true rfl) ⟨Nat.zero_le _, Nat.zero_le _⟩ (fun r9 w9 hf => ?_)
      refine V_cVI X hf [vi r9] _ 1 (fun _ h => m_X2_beginPart h) ob_39 rfl tw_1047 tw_90 tw_1044 tw_1046 tw_17 dX2_goBack_175 ⟨by decide +kernel, by decide +kernel, by decide +kernel⟩ ⟨rfl, rfl⟩ ⟨Nat.le_of_ble_eq_true rfl, Nat.le_of_ble_eq_true rfl⟩ rfl (Nat.le_of_ble_eq_true rfl) ⟨Nat.zero_le _, Nat.zero_le _⟩ (fun r10 w10 hf => ?_)
      exact V_iret X hE dX2_goBack_178 hf
    refine V_lookup X (off := 117) (tgt := 234) dX2_goBack_117 (by decide) (by exact off_neg h0 (off_neg h1 (off_neg h2 (off_neg h3 (rfl))))) (by decide) ?_
    refine V_iconst X dX2_goBack_234 ?_
    exact V_iret X hE dX2_goBack_235 hf
  · refine V_gload_n X dX2_goBack_10 rfl rfl ?_
    refine V_cVI X hf [] _ 0 (fun _ h => m_X2_beginAtNextCursor h) ob_39 rfl tw_1109 tw_90 tw_1106 tw_1108 tw_27 dX2_goBack_11 ⟨by decide +kernel, by decide +kernel, by decide +kernel⟩ ⟨rfl, rfl⟩ ⟨Nat.le_of_ble_eq_true rfl, Nat.le_of_ble_eq_true rfl⟩ rfl (Nat.le_of_ble_eq_true rfl) ⟨Nat.zero_le _, Nat.zero_le _⟩ (fun r11 w11 hf => ?_)
    exact V_iret X hE dX2_goBack_14 hf
abbrev rmX2_seek : Room := { frames := 3, cells := 0, slots := 0, locals := 75 }
set_option maxRecDepth 20000 in
theorem v_X2_seek_5 {G : GG} {E : EE} (X : Cx G E cX2_seek RX2 (some .int) rmX2_seek 3) {q : (Int × WS)} (hE : EndI G E q)   : ∀ (n : Nat) (a1 a2 : Int) (w : WS), f_X2_seek_5   n a1 a2 w = some q → VV G E 0 0 5 [(0, gr G 39), (1, vi a1), (2, vi a2)] [] w := by
  intro n
  induction n with
  | zero => intro a1 a2 w hf; cases hf
  | succ n ih =>
    intro a1 a2 w hf
    rw [f_X2_seek_5_s] at hf
    refine V_iload_n X dX2_seek_5 rfl rfl ?_
    refine V_ldc (a := 10000000) X tw_1030 dX2_seek_6 (by decide) ?_
    refine V_icmp_ge X (tgt := 114) dX2_seek_8 (by decide) hf (fun hf => ?_) (fun hf => ?_)
    · refine V_iload_n X dX2_seek_11 rfl rfl ?_
      refine ite_c hf (fun h0 hf => ?_) (fun h0 hf => ?_)
      · refine V_tin X (off := 40) (tgt := 52) dX2_seek_12 4 h0 (by decide) rfl (by decide) ?_
        refine V_gload_n X dX2_seek_52 rfl rfl ?_
        refine V_cVI X hf [] _ 0 (fun _ h => m_X2_begin h) ob_39 rfl tw_1034 tw_90 tw_1031 tw_1033 tw_15 dX2_seek_53 ⟨by decide +kernel, by decide +kernel, by decide +kernel⟩ ⟨rfl, rfl⟩ ⟨Nat.le_of_ble_eq_true rfl, Nat.le_of_ble_eq_true rfl⟩ rfl (Nat.le_of_ble_eq_true rfl) ⟨Nat.zero_le _, Nat.zero_le _⟩ (fun r1 w1 hf => ?_)
        refine V_istore_n X dX2_seek_56 rfl (by decide) ?_
        refine V_goto X (tgt := 108) dX2_seek_57 (by decide) ?_
        refine V_iinc X dX2_seek_108 rfl (by decide) ?_
        refine V_goto X (tgt := 5) dX2_seek_111 (by decide) ?_
        exact V_cut [0, 1, 2] rfl (ih _ _ _ hf)
      refine ite_c hf (fun h1 hf => ?_) (fun h1 hf => ?_)
      · refine V_tin X (off := 48) (tgt := 60) dX2_seek_12 5 h1 (by decide) rfl (by decide) ?_
        refine V_gload_n X dX2_seek_60 rfl rfl ?_
        refine V_gload_n X dX2_seek_61 rfl rfl ?_
        refine V_cVI X hf [] _ 0 (fun _ h => m_X2_endOfSingle h) ob_39 rfl tw_1057 tw_90 tw_1054 tw_1056 tw_19 dX2_seek_62 ⟨by decide +kernel, by decide +kernel, by decide +kernel⟩ ⟨rfl, rfl⟩ ⟨Nat.le_of_ble_eq_true rfl, Nat.le_of_ble_eq_true rfl⟩ rfl (Nat.le_of_ble_eq_true rfl) ⟨Nat.zero_le _, Nat.zero_le _⟩ (fun r2 w2 hf => ?_)
        refine V_cVI X hf [vi r2] _ 1 (fun _ h => m_X2_goTo h) ob_39 rfl tw_1075 tw_90 tw_1072 tw_1074 tw_22 dX2_seek_65 ⟨by decide +kernel, by decide +kernel, by decide +kernel⟩ ⟨rfl, rfl⟩ ⟨Nat.le_of_ble_eq_true rfl, Nat.le_of_ble_eq_true rfl⟩ rfl (Nat.le_of_ble_eq_true rfl) ⟨Nat.zero_le _, Nat.zero_le _⟩ (fun r3 w3 hf => ?_)
        refine V_istore_n X dX2_seek_68 rfl (by decide) ?_
        refine V_goto X (tgt := 108) dX2_seek_69 (by decide) ?_
        refine V_iinc X dX2_seek_108 rfl (by decide) ?_
        refine V_goto X (tgt := 5) dX2_seek_111 (by decide) ?_
        exact V_cut [0, 1, 2] rfl (ih _ _ _ hf)
      refine ite_c hf (fun h2 hf => ?_) (fun h2 hf => ?_)
      · refine V_tin X (off := 60) (tgt := 72) dX2_seek_12 6 h2 (by decide) rfl (by decide) ?_
        refine V_gload_n X dX2_seek_72 rfl rfl ?_
        refine V_cVI X hf [] _ 0 (fun _ h => m_X2_balance h) ob_39 rfl tw_1079 tw_90 tw_1076 tw_1078 tw_23 dX2_seek_73 ⟨by decide +kernel, by decide +kernel, by decide +kernel⟩ ⟨rfl, rfl⟩ ⟨Nat.le_of_ble_eq_true rfl, Nat.le_of_ble_eq_true rfl⟩ rfl (Nat.le_of_ble_eq_true rfl) ⟨Nat.zero_le _, Nat.zero_le _⟩ (fun r4 w4 hf => ?_)
        refine V_istore_n X dX2_seek_76 rfl (by decide) ?_
        refine V_goto X (tgt := 108) dX2_seek_77 (by decide) ?_
        refine V_iinc X dX2_seek_108 rfl (by decide) ?_
        refine V_goto X (tgt := 5) dX2_seek_111 (by decide) ?_
        exact V_cut [0, 1, 2] rfl (ih _ _ _ hf)
      refine ite_c hf (fun h3 hf => ?_) (fun h3 hf => ?_)
      · refine V_tin X (off := 68) (tgt := 80) dX2_seek_12 7 h3 (by decide) rfl (by decide) ?_
        refine V_gload_n X dX2_seek_80 rfl rfl ?_
        refine V_cVV X hf [] _ 0 (fun _ h => m_X2_addChoice h) ob_39 rfl tw_1051 tw_90 tw_1048 tw_1050 tw_18 dX2_seek_81 ⟨by decide +kernel, by decide +kernel, by decide +kernel⟩ ⟨rfl, rfl⟩ ⟨Nat.le_of_ble_eq_true rfl, Nat.le_of_ble_eq_true rfl⟩ rfl (Nat.le_of_ble_eq_true rfl) ⟨Nat.zero_le _, Nat.zero_le _⟩ (fun r5 w5 hf => ?_)
        refine V_bipush X dX2_seek_84 (by decide) ?_
        refine V_istore_n X dX2_seek_86 rfl (by decide) ?_
        refine V_goto X (tgt := 108) dX2_seek_87 (by decide) ?_
        refine V_iinc X dX2_seek_108 rfl (by decide) ?_
        refine V_goto X (tgt := 5) dX2_seek_111 (by decide) ?_
        exact V_cut [0, 1, 2] rfl (ih _ _ _ hf)
      refine ite_c hf (fun h4 hf => ?_) (fun h4 hf => ?_)
      · refine V_tin X (off := 78) (tgt := 90) dX2_seek_12 8 h4 (by decide) rfl (by decide) ?_
        refine V_gload_n X dX2_seek_90 rfl rfl ?_
        refine V_cVI X hf [] _ 0 (fun _ h => m_X2_goOn h) ob_39 rfl tw_1083 tw_90 tw_1080 tw_1082 tw_24 dX2_seek_91 ⟨by decide +kernel, by decide +kernel, by decide +kernel⟩ ⟨rfl, rfl⟩ ⟨Nat.le_of_ble_eq_true rfl, Nat.le_of_ble_eq_true rfl⟩ rfl (Nat.le_of_ble_eq_true rfl) ⟨Nat.zero_le _, Nat.zero_le _⟩ (fun r6 w6 hf => ?_)
        refine V_istore_n X dX2_seek_94 rfl (by decide) ?_
        refine V_goto X (tgt := 108) dX2_seek_95 (by decide) ?_
        refine V_iinc X dX2_seek_108 rfl (by decide) ?_
        refine V_goto X (tgt := 5) dX2_seek_111 (by decide) ?_
        exact V_cut [0, 1, 2] rfl (ih _ _ _ hf)
      refine ite_c hf (fun h5 hf => ?_) (fun h5 hf => ?_)
      · refine V_tin X (off := 86) (tgt := 98) dX2_seek_12 9 h5 (by decide) rfl (by decide) ?_
        refine V_gload_n X dX2_seek_98 rfl rfl ?_
        refine V_cVI X hf [] _ 0 (fun _ h => m_X2_goBack h) ob_39 rfl tw_1105 tw_90 tw_1102 tw_1104 tw_26 dX2_seek_99 ⟨by decide +kernel, by decide +kernel, by decide +kernel⟩ ⟨rfl, rfl⟩ ⟨Nat.le_of_ble_eq_true rfl, Nat.le_of_ble_eq_true rfl⟩ rfl (Nat.le_of_ble_eq_true rfl) ⟨Nat.zero_le _, Nat.zero_le _⟩ (fun r7 w7 hf => ?_)
        refine V_istore_n X dX2_seek_102 rfl (by decide) ?_
        refine V_goto X (tgt := 108) dX2_seek_103 (by decide) ?_
        refine V_iinc X dX2_seek_108 rfl (by decide) ?_
        refine V_goto X (tgt := 5) dX2_seek_111 (by decide) ?_
        exact V_cut [0, 1, 2] rfl (ih _ _ _ hf)
      refine V_tout X (tgt := 106) dX2_seek_12 (by omega) (by decide) ?_
      refine V_iload_n X dX2_seek_106 rfl rfl ?_
      exact V_iret X hE dX2_seek_107 hf
    · refine V_iconst X dX2_seek_114 ?_
      exact V_iret X hE dX2_seek_115 hf
set_option maxRecDepth 20000 in
theorem m_X2_seek {G : GG}  {w : WS} {q : (Int × WS)}  (hf : f_X2_seek  w = some q) : MI G yX2_seek cX2_seek 3 (some .int) rmX2_seek [gr G 39] w q := by
  refine MI_of (by decide +kernel) (Nat.le_of_ble_eq_true rfl) (fun E X hE => ?_)
  have X : Cx G E cX2_seek RX2 (some .int) rmX2_seek 3 := X
  unfold f_X2_seek at hf
  refine V_bipush X dX2_seek_0 (by decide) ?_
  refine V_istore_n X dX2_seek_2 rfl (by decide) ?_
  refine V_iconst X dX2_seek_3 ?_
  refine V_istore_n X dX2_seek_4 rfl (by decide) ?_
  exact V_cut [0, 1, 2] rfl (v_X2_seek_5 X hE FU _ _ _ hf)
abbrev rmX8_findWays : Room := { frames := 4, cells := 0, slots := 0, locals := 97 }
set_option maxRecDepth 20000 in
theorem v_X8_findWays_30 {G : GG} {E : EE} (X : Cx G E cX8_findWays RX8 (some .int) rmX8_findWays 4) {q : (Int × WS)} (hE : EndI G E q)   : ∀ (n : Nat) (a2 : Int) (w : WS), f_X8_findWays_30   n a2 w = some q → VV G E 0 0 30 [(0, gr G 0), (2, vi a2)] [] w := by
  intro n
  induction n with
  | zero => intro a2 w hf; cases hf
  | succ n ih =>
    intro a2 w hf
    rw [f_X8_findWays_30_s] at hf
    refine V_iload_n X dX8_findWays_30 rfl rfl ?_
    refine V_sipush X dX8_findWays_31 (by decide) ?_
    refine V_icmp_ge X (tgt := 91) dX8_findWays_34 (by decide) hf (fun hf => ?_) (fun hf => ?_)
    · refine V_gload_n X dX8_findWays_37 rfl rfl ?_
      refine V_getr X ob_0 rfl rfl hin_X8 7 (Nat.le_of_ble_eq_true rfl) tw_408 rfl dX8_findWays_38 ?_
      refine V_cVI X hf [] _ 0 (fun _ h => m_X2_seek h) ob_39 rfl tw_1029 tw_90 tw_1222 tw_1027 tw_1028 dX8_findWays_41 ⟨by decide +kernel, by decide +kernel, by decide +kernel⟩ ⟨rfl, rfl⟩ ⟨Nat.le_of_ble_eq_true rfl, Nat.le_of_ble_eq_true rfl⟩ rfl (Nat.le_of_ble_eq_true rfl) ⟨Nat.zero_le _, Nat.zero_le _⟩ (fun r3 w3 hf => ?_)
      refine V_istore_n X dX8_findWays_44 rfl (by decide) ?_
      refine V_iload_n X dX8_findWays_45 rfl rfl ?_
      refine V_iconst X dX8_findWays_46 ?_
      refine V_icmp_ne X (tgt := 52) dX8_findWays_47 (by decide) hf (fun hf => ?_) (fun hf => ?_)
      · refine V_iconst X dX8_findWays_50 ?_
        exact V_iret X hE dX8_findWays_51 hf
      · refine V_iload_n X dX8_findWays_52 rfl rfl ?_
        refine V_iconst X dX8_findWays_53 ?_
        refine V_icmp_eq X (tgt := 59) dX8_findWays_54 (by decide) hf (fun hf => ?_) (fun hf => ?_)
        · refine V_gload_n X dX8_findWays_59 rfl rfl ?_
          refine V_getr X ob_0 rfl rfl hin_X8 11 (Nat.le_of_ble_eq_true rfl) tw_412 rfl dX8_findWays_60 ?_
          refine V_iload_n X dX8_findWays_63 rfl rfl ?_
          refine V_bipush X dX8_findWays_64 (by decide) ?_
          refine V_gload_n X dX8_findWays_66 rfl rfl ?_
          refine V_getr X ob_0 rfl rfl hin_X8 7 (Nat.le_of_ble_eq_true rfl) tw_408 rfl dX8_findWays_67 ?_
          refine V_getiN X ob_39 rfl rfl hin_X2 11 (Nat.le_of_ble_eq_true rfl) nw_8 rfl dX8_findWays_70 ?_
          refine V_imul X dX8_findWays_73 ?_
          refine V_gload_n X dX8_findWays_74 rfl rfl ?_
          refine V_getr X ob_0 rfl rfl hin_X8 7 (Nat.le_of_ble_eq_true rfl) tw_408 rfl dX8_findWays_75 ?_
          refine V_getiN X ob_39 rfl rfl hin_X2 14 (Nat.le_of_ble_eq_true rfl) nw_10 rfl dX8_findWays_78 ?_
          refine V_iadd X dX8_findWays_81 ?_
          refine V_cVV X hf [vi a2, vi ((100 * (w3 39 11)) + (w3 39 14))] _ 2 (fun _ h => m_X1_put is_83 h) ob_83 rfl tw_839 tw_89 tw_1269 tw_837 tw_838 dX8_findWays_82 ⟨by decide +kernel, by decide +kernel, by decide +kernel⟩ ⟨rfl, rfl⟩ ⟨Nat.le_of_ble_eq_true rfl, Nat.le_of_ble_eq_true rfl⟩ rfl (Nat.le_of_ble_eq_true rfl) ⟨Nat.zero_le _, Nat.zero_le _⟩ (fun r4 w4 hf => ?_)
          refine V_iinc X dX8_findWays_85 rfl (by decide) ?_
          refine V_goto X (tgt := 30) dX8_findWays_88 (by decide) ?_
          exact V_cut [0, 2] rfl (ih _ _ hf)
        · refine V_iload_n X dX8_findWays_57 rfl rfl ?_
          exact V_iret X hE dX8_findWays_58 hf
    · refine V_sipush X dX8_findWays_91 (by decide) ?_
      exact V_iret X hE dX8_findWays_94 hf
set_option maxRecDepth 20000 in
theorem m_X8_findWays {G : GG} {a1 : Int} {w : WS} {q : (Int × WS)}  (hf : f_X8_findWays a1 w = some q) : MI G yX8_findWays cX8_findWays 4 (some .int) rmX8_findWays [gr G 0, vi a1] w q := by
  refine MI_of (by decide +kernel) (Nat.le_of_ble_eq_true rfl) (fun E X hE => ?_)
  have X : Cx G E cX8_findWays RX8 (some .int) rmX8_findWays 4 := X
  unfold f_X8_findWays at hf
  refine V_gload_n X dX8_findWays_0 rfl rfl ?_
  refine V_getr X ob_0 rfl rfl hin_X8 4 (Nat.le_of_ble_eq_true rfl) tw_405 rfl dX8_findWays_1 ?_
  refine V_gload_n X dX8_findWays_4 rfl rfl ?_
  refine V_getr X ob_0 rfl rfl hin_X8 3 (Nat.le_of_ble_eq_true rfl) tw_404 rfl dX8_findWays_5 ?_
  refine V_cVV X hf [gr G 7] _ 1 (fun _ h => m_X6_copyAll is_10 is_7 h) ob_10 rfl tw_1219 tw_87 tw_1216 tw_1217 tw_1218 dX8_findWays_8 ⟨by decide +kernel, by decide +kernel, by decide +kernel⟩ ⟨rfl, rfl⟩ ⟨Nat.le_of_ble_eq_true rfl, Nat.le_of_ble_eq_true rfl⟩ rfl (Nat.le_of_ble_eq_true rfl) ⟨Nat.zero_le _, Nat.zero_le _⟩ (fun r1 w1 hf => ?_)
  refine V_gload_n X dX8_findWays_11 rfl rfl ?_
  refine V_getr X ob_0 rfl rfl hin_X8 7 (Nat.le_of_ble_eq_true rfl) tw_408 rfl dX8_findWays_12 ?_
  refine V_gload_n X dX8_findWays_15 rfl rfl ?_
  refine V_getr X ob_0 rfl rfl hin_X8 0 (Nat.le_of_ble_eq_true rfl) tw_401 rfl dX8_findWays_16 ?_
  refine V_iconst X dX8_findWays_19 ?_
  refine V_iload_n X dX8_findWays_20 rfl rfl ?_
  refine V_gload_n X dX8_findWays_21 rfl rfl ?_
  refine V_geti X ob_0 rfl rfl hin_X8 12 (Nat.le_of_ble_eq_true rfl) tw_413 rfl dX8_findWays_22 ?_
  refine V_cVV X hf [gr G 1, vi 0, vi a1, vi (w1 0 12)] _ 4 (fun _ h => m_X2_prepare is_1 h) ob_39 rfl tw_1023 tw_90 tw_1221 tw_1021 tw_1022 dX8_findWays_25 ⟨by decide +kernel, by decide +kernel, by decide +kernel⟩ ⟨rfl, rfl⟩ ⟨Nat.le_of_ble_eq_true rfl, Nat.le_of_ble_eq_true rfl⟩ rfl (Nat.le_of_ble_eq_true rfl) ⟨Nat.zero_le _, Nat.zero_le _⟩ (fun r2 w2 hf => ?_)
  refine V_iconst X dX8_findWays_28 ?_
  refine V_istore_n X dX8_findWays_29 rfl (by decide) ?_
  exact V_cut [0, 2] rfl (v_X8_findWays_30 X hE FU _ _ hf)
abbrev rmX0_isFull : Room := { frames := 0, cells := 0, slots := 0, locals := 0 }
set_option maxRecDepth 20000 in
theorem m_X0_isFull {G : GG} {i : Nat} {w : WS} {q : (Int × WS)} (hi : isX0 i) (hf : f_X0_isFull i w = some q) : MI G yX0_isFull cX0_isFull 1 (some .boolean) rmX0_isFull [gr G i] w q := by
  refine MI_of (by decide +kernel) (Nat.le_of_ble_eq_true rfl) (fun E X hE => ?_)
  have X : Cx G E cX0_isFull RX0 (some .boolean) rmX0_isFull 1 := X
  unfold f_X0_isFull at hf
  refine V_gload_n X dX0_isFull_0 rfl rfl ?_
  refine V_geti X (ob_X0 hi) rfl rfl hin_X0 4 (Nat.le_of_ble_eq_true rfl) tw_163 (ri_X0_4 hi) dX0_isFull_1 ?_
  refine V_gload_n X dX0_isFull_4 rfl rfl ?_
  refine V_getc X (ob_X0 hi) rfl rfl hin_X0 0 (Nat.le_of_ble_eq_true rfl) tw_153 (rc_X0_0 hi) dX0_isFull_5 ?_
  refine V_icmp_lt X (tgt := 15) dX0_isFull_8 (by decide) hf (fun hf => ?_) (fun hf => ?_)
  · refine V_iconst X dX0_isFull_15 ?_
    exact V_zret X hE dX0_isFull_16 (Or.inl rfl) hf
  · refine V_iconst X dX0_isFull_11 ?_
    refine V_goto X (tgt := 16) dX0_isFull_12 (by decide) ?_
    exact V_zret X hE dX0_isFull_16 (Or.inr rfl) hf
abbrev rmX0_add : Room := { frames := 1, cells := 0, slots := 0, locals := 22 }
set_option maxRecDepth 20000 in
theorem m_X0_add {G : GG} {i : Nat} {a1 : Int} {a2 : Int} {a3 : Int} {w : WS} {q : (Int × WS)} (hi : isX0 i) (hf : f_X0_add i a1 a2 a3 w = some q) : MI G yX0_add cX0_add 5 (some .int) rmX0_add [gr G i, vi a1, vi a2, vi a3] w q := by
  refine MI_of (by decide +kernel) (Nat.le_of_ble_eq_true rfl) (fun E X hE => ?_)
  have X : Cx G E cX0_add RX0 (some .int) rmX0_add 5 := X
  unfold f_X0_add at hf
  refine V_gload_n X dX0_add_0 rfl rfl ?_
  refine V_geti X (ob_X0 hi) rfl rfl hin_X0 4 (Nat.le_of_ble_eq_true rfl) tw_163 (ri_X0_4 hi) dX0_add_1 ?_
  refine V_istore X dX0_add_4 (by decide) ?_
  refine V_gload_n X dX0_add_6 rfl rfl ?_
  refine V_getr X (ob_X0 hi) rfl rfl hin_X0 1 (Nat.le_of_ble_eq_true rfl) tw_154 (rr_X0_1 hi) dX0_add_7 ?_
  refine V_iload X dX0_add_10 rfl ?_
  refine V_iload_n X dX0_add_12 rfl rfl ?_
  refine V_cVV X hf [vi (w i 4), vi a1] _ 2 (fun _ h => m_X1_put (is_X0_1 hi) h) (ob_X1 (is_X0_1 hi)) rfl tw_839 tw_89 tw_836 tw_837 tw_838 dX0_add_13 ⟨by decide +kernel, by decide +kernel, by decide +kernel⟩ ⟨rfl, rfl⟩ ⟨Nat.le_of_ble_eq_true rfl, Nat.le_of_ble_eq_true rfl⟩ rfl (Nat.le_of_ble_eq_true rfl) ⟨Nat.zero_le _, Nat.zero_le _⟩ (fun r1 w1 hf => ?_)
  refine V_gload_n X dX0_add_16 rfl rfl ?_
  refine V_getr X (ob_X0 hi) rfl rfl hin_X0 2 (Nat.le_of_ble_eq_true rfl) tw_157 (rr_X0_2 hi) dX0_add_17 ?_
  refine V_iload X dX0_add_20 rfl ?_
  refine V_iload_n X dX0_add_22 rfl rfl ?_
  refine V_cVV X hf [vi (w i 4), vi a2] _ 2 (fun _ h => m_X1_put (is_X0_3 hi) h) (ob_X1 (is_X0_3 hi)) rfl tw_839 tw_89 tw_836 tw_837 tw_838 dX0_add_23 ⟨by decide +kernel, by decide +kernel, by decide +kernel⟩ ⟨rfl, rfl⟩ ⟨Nat.le_of_ble_eq_true rfl, Nat.le_of_ble_eq_true rfl⟩ rfl (Nat.le_of_ble_eq_true rfl) ⟨Nat.zero_le _, Nat.zero_le _⟩ (fun r2 w2 hf => ?_)
  refine V_gload_n X dX0_add_26 rfl rfl ?_
  refine V_getr X (ob_X0 hi) rfl rfl hin_X0 3 (Nat.le_of_ble_eq_true rfl) tw_160 (rr_X0_3 hi) dX0_add_27 ?_
  refine V_iload X dX0_add_30 rfl ?_
  refine V_iload_n X dX0_add_32 rfl rfl ?_
  refine V_cVV X hf [vi (w i 4), vi a3] _ 2 (fun _ h => m_X1_put (is_X0_5 hi) h) (ob_X1 (is_X0_5 hi)) rfl tw_839 tw_89 tw_836 tw_837 tw_838 dX0_add_33 ⟨by decide +kernel, by decide +kernel, by decide +kernel⟩ ⟨rfl, rfl⟩ ⟨Nat.le_of_ble_eq_true rfl, Nat.le_of_ble_eq_true rfl⟩ rfl (Nat.le_of_ble_eq_true rfl) ⟨Nat.zero_le _, Nat.zero_le _⟩ (fun r3 w3 hf => ?_)
  refine V_gload_n X dX0_add_36 rfl rfl ?_
  refine V_dup X dX0_add_37 rfl ?_
  refine V_geti X (ob_X0 hi) rfl rfl hin_X0 4 (Nat.le_of_ble_eq_true rfl) tw_163 (ri_X0_4 hi) dX0_add_38 ?_
  refine V_iconst X dX0_add_41 ?_
  refine V_iadd X dX0_add_42 ?_
  refine V_puti X (ob_X0 hi) rfl rfl hin_X0 4 (Nat.le_of_ble_eq_true rfl) tw_163 tyX0 tyX0_ok nmX0 rfl (by decide +kernel) (ri_X0_4 hi) dX0_add_43 ?_
  refine V_iload X dX0_add_46 rfl ?_
  exact V_iret X hE dX0_add_48 hf
abbrev rmX1_increase : Room := { frames := 1, cells := 0, slots := 0, locals := 22 }
set_option maxRecDepth 20000 in
theorem m_X1_increase {G : GG} {i : Nat} {a1 : Int} {w : WS} {q : (Int × WS)} (hi : isX1 i) (hf : f_X1_increase i a1 w = some q) : MV G yX1_increase cX1_increase 2 none rmX1_increase [gr G i, vi a1] w q := by
  refine MV_of (by decide +kernel) (Nat.le_of_ble_eq_true rfl) (fun E X hE => ?_)
  have X : Cx G E cX1_increase RX1 none rmX1_increase 2 := X
  unfold f_X1_increase at hf
  refine V_gload_n X dX1_increase_0 rfl rfl ?_
  refine V_iload_n X dX1_increase_1 rfl rfl ?_
  refine V_gload_n X dX1_increase_2 rfl rfl ?_
  refine V_iload_n X dX1_increase_3 rfl rfl ?_
  refine V_cVI X hf [vi a1] _ 1 (fun _ h => m_X1_get hi h) (ob_X1 hi) rfl tw_500 tw_89 tw_497 tw_498 tw_499 dX1_increase_4 ⟨by decide +kernel, by decide +kernel, by decide +kernel⟩ ⟨rfl, rfl⟩ ⟨Nat.le_of_ble_eq_true rfl, Nat.le_of_ble_eq_true rfl⟩ rfl (Nat.le_of_ble_eq_true rfl) ⟨Nat.zero_le _, Nat.zero_le _⟩ (fun r1 w1 hf => ?_)
  refine V_iconst X dX1_increase_7 ?_
  refine V_iadd X dX1_increase_8 ?_
  refine V_cVV X hf [vi a1, vi (r1 + 1)] _ 2 (fun _ h => m_X1_put hi h) (ob_X1 hi) rfl tw_839 tw_89 tw_943 tw_837 tw_838 dX1_increase_9 ⟨by decide +kernel, by decide +kernel, by decide +kernel⟩ ⟨rfl, rfl⟩ ⟨Nat.le_of_ble_eq_true rfl, Nat.le_of_ble_eq_true rfl⟩ rfl (Nat.le_of_ble_eq_true rfl) ⟨Nat.zero_le _, Nat.zero_le _⟩ (fun r2 w2 hf => ?_)
  exact V_vret X hE dX1_increase_12 hf
abbrev rmX1_clearAll : Room := { frames := 0, cells := 0, slots := 0, locals := 0 }
set_option maxRecDepth 20000 in
theorem v_X1_clearAll_2 {G : GG} {E : EE} (X : Cx G E cX1_clearAll RX1 none rmX1_clearAll 2) {q : (Int × WS)} (hE : EndV G E q) {i : Nat} (hi : isX1 i) : ∀ (n : Nat) (a1 : Int) (w : WS), f_X1_clearAll_2 i  n a1 w = some q → VV G E 0 0 2 [(0, gr G i), (1, vi a1)] [] w := by
  intro n
  induction n with
  | zero => intro a1 w hf; cases hf
  | succ n ih =>
    intro a1 w hf
    rw [f_X1_clearAll_2_s] at hf
    refine V_iload_n X dX1_clearAll_2 rfl rfl ?_
    refine V_gload_n X dX1_clearAll_3 rfl rfl ?_
    refine V_getr X (ob_X1 hi) rfl rfl hin_X1 0 (Nat.le_of_ble_eq_true rfl) tw_149 (rr_X1_0 hi) dX1_clearAll_4 ?_
    refine V_alen X (ar_X1_1 hi) (by decide) dX1_clearAll_7 ?_
    refine V_icmp_ge X (tgt := 24) dX1_clearAll_8 (by decide) hf (fun hf => ?_) (fun hf => ?_)
    · refine V_gload_n X dX1_clearAll_11 rfl rfl ?_
      refine V_getr X (ob_X1 hi) rfl rfl hin_X1 0 (Nat.le_of_ble_eq_true rfl) tw_149 (rr_X1_0 hi) dX1_clearAll_12 ?_
      refine V_iload_n X dX1_clearAll_15 rfl rfl ?_
      refine V_iconst X dX1_clearAll_16 ?_
      refine V_iast X (ar_X1_1 hi) dX1_clearAll_17 hf (fun hf => ?_)
      refine V_iinc X dX1_clearAll_18 rfl (by decide) ?_
      refine V_goto X (tgt := 2) dX1_clearAll_21 (by decide) ?_
      exact V_cut [0, 1] rfl (ih _ _ hf)
    · exact V_vret X hE dX1_clearAll_24 hf
set_option maxRecDepth 20000 in
theorem m_X1_clearAll {G : GG} {i : Nat} {w : WS} {q : (Int × WS)} (hi : isX1 i) (hf : f_X1_clearAll i w = some q) : MV G yX1_clearAll cX1_clearAll 2 none rmX1_clearAll [gr G i] w q := by
  refine MV_of (by decide +kernel) (Nat.le_of_ble_eq_true rfl) (fun E X hE => ?_)
  have X : Cx G E cX1_clearAll RX1 none rmX1_clearAll 2 := X
  unfold f_X1_clearAll at hf
  refine V_iconst X dX1_clearAll_0 ?_
  refine V_istore_n X dX1_clearAll_1 rfl (by decide) ?_
  exact V_cut [0, 1] rfl (v_X1_clearAll_2 X hE hi FU _ _ hf)
abbrev rmX2_assignTaken : Room := { frames := 2, cells := 0, slots := 0, locals := 54 }
set_option maxRecDepth 20000 in
theorem v_X2_assignTaken_2 {G : GG} {E : EE} (X : Cx G E cX2_assignTaken RX2 none rmX2_assignTaken 2) {q : (Int × WS)} (hE : EndV G E q)   : ∀ (n : Nat) (a1 : Int) (w : WS), f_X2_assignTaken_2   n a1 w = some q → VV G E 0 0 2 [(0, gr G 39), (1, vi a1)] [] w := by
  intro n
  induction n with
  | zero => intro a1 w hf; cases hf
  | succ n ih =>
    intro a1 w hf
    rw [f_X2_assignTaken_2_s] at hf
    refine V_iload_n X dX2_assignTaken_2 rfl rfl ?_
    refine V_gload_n X dX2_assignTaken_3 rfl rfl ?_
    refine V_getr X ob_39 rfl rfl hin_X2 7 (Nat.le_of_ble_eq_true rfl) tw_213 rfl dX2_assignTaken_4 ?_
    refine V_getiN X ob_50 rfl rfl hin_X3 3 (Nat.le_of_ble_eq_true rfl) nw_7 rfl dX2_assignTaken_7 ?_
    refine V_icmp_ge X (tgt := 47) dX2_assignTaken_10 (by decide) hf (fun hf => ?_) (fun hf => ?_)
    · refine V_gload_n X dX2_assignTaken_13 rfl rfl ?_
      refine V_gload_n X dX2_assignTaken_14 rfl rfl ?_
      refine V_getr X ob_39 rfl rfl hin_X2 7 (Nat.le_of_ble_eq_true rfl) tw_213 rfl dX2_assignTaken_15 ?_
      refine V_iload_n X dX2_assignTaken_18 rfl rfl ?_
      refine V_cVI X hf [vi a1] _ 1 (fun _ h => m_X3_first is_50 h) ob_50 rfl tw_1087 tw_91 tw_1084 tw_1085 tw_1086 dX2_assignTaken_19 ⟨by decide +kernel, by decide +kernel, by decide +kernel⟩ ⟨rfl, rfl⟩ ⟨Nat.le_of_ble_eq_true rfl, Nat.le_of_ble_eq_true rfl⟩ rfl (Nat.le_of_ble_eq_true rfl) ⟨Nat.zero_le _, Nat.zero_le _⟩ (fun r1 w1 hf => ?_)
      refine V_gload_n X dX2_assignTaken_22 rfl rfl ?_
      refine V_getr X ob_39 rfl rfl hin_X2 7 (Nat.le_of_ble_eq_true rfl) tw_213 rfl dX2_assignTaken_23 ?_
      refine V_iload_n X dX2_assignTaken_26 rfl rfl ?_
      refine V_cVI X hf [vi a1] _ 1 (fun _ h => m_X3_second is_50 h) ob_50 rfl tw_1091 tw_91 tw_1088 tw_1089 tw_1090 dX2_assignTaken_27 ⟨by decide +kernel, by decide +kernel, by decide +kernel⟩ ⟨rfl, rfl⟩ ⟨Nat.le_of_ble_eq_true rfl, Nat.le_of_ble_eq_true rfl⟩ rfl (Nat.le_of_ble_eq_true rfl) ⟨Nat.zero_le _, Nat.zero_le _⟩ (fun r2 w2 hf => ?_)
      refine V_gload_n X dX2_assignTaken_30 rfl rfl ?_
      refine V_getr X ob_39 rfl rfl hin_X2 7 (Nat.le_of_ble_eq_true rfl) tw_213 rfl dX2_assignTaken_31 ?_
      refine V_iload_n X dX2_assignTaken_34 rfl rfl ?_
      refine V_cVI X hf [vi a1] _ 1 (fun _ h => m_X3_third is_50 h) ob_50 rfl tw_1095 tw_91 tw_1092 tw_1093 tw_1094 dX2_assignTaken_35 ⟨by decide +kernel, by decide +kernel, by decide +kernel⟩ ⟨rfl, rfl⟩ ⟨Nat.le_of_ble_eq_true rfl, Nat.le_of_ble_eq_true rfl⟩ rfl (Nat.le_of_ble_eq_true rfl) ⟨Nat.zero_le _, Nat.zero_le _⟩ (fun r3 w3 hf => ?_)
      refine V_cVV X hf [vi r1, vi r2, vi r3] _ 3 (fun _ h => m_X2_capture h) ob_39 rfl tw_1099 tw_90 tw_1096 tw_1098 tw_25 dX2_assignTaken_38 ⟨by decide +kernel, by decide +kernel, by decide +kernel⟩ ⟨rfl, rfl⟩ ⟨Nat.le_of_ble_eq_true rfl, Nat.le_of_ble_eq_true rfl⟩ rfl (Nat.le_of_ble_eq_true rfl) ⟨Nat.zero_le _, Nat.zero_le _⟩ (fun r4 w4 hf => ?_)
      refine V_iinc X dX2_assignTaken_41 rfl (by decide) ?_
      refine V_goto X (tgt := 2) dX2_assignTaken_44 (by decide) ?_
      exact V_cut [0, 1] rfl (ih _ _ hf)
    · exact V_vret X hE dX2_assignTaken_47 hf
set_option maxRecDepth 20000 in
theorem m_X2_assignTaken {G : GG}  {w : WS} {q : (Int × WS)}  (hf : f_X2_assignTaken  w = some q) : MV G yX2_assignTaken cX2_assignTaken 2 none rmX2_assignTaken [gr G 39] w q := by
  refine MV_of (by decide +kernel) (Nat.le_of_ble_eq_true rfl) (fun E X hE => ?_)
  have X : Cx G E cX2_assignTaken RX2 none rmX2_assignTaken 2 := X
  unfold f_X2_assignTaken at hf
  refine V_iconst X dX2_assignTaken_0 ?_
  refine V_istore_n X dX2_assignTaken_1 rfl (by decide) ?_
  exact V_cut [0, 1] rfl (v_X2_assignTaken_2 X hE FU _ _ hf)
abbrev rmX6_appendAll : Room := { frames := 1, cells := 0, slots := 0, locals := 31 }
set_option maxRecDepth 20000 in
theorem m_X6_appendAll {G : GG} {i : Nat} {a1 : Int} {j : Nat} {a3 : Int} {w : WS} {q : (Int × WS)} (hi : isX6 i) (hj : isX6 j) (hf : f_X6_appendAll i a1 j a3 w = some q) : MI G yX6_appendAll cX6_appendAll 4 (some .boolean) rmX6_appendAll [gr G i, vi a1, gr G j, vi a3] w q := by
  refine MI_of (by decide +kernel) (Nat.le_of_ble_eq_true rfl) (fun E X hE => ?_)
  have X : Cx G E cX6_appendAll RX6 (some .boolean) rmX6_appendAll 4 := X
  unfold f_X6_appendAll at hf
  refine V_gload_n X dX6_appendAll_0 rfl rfl ?_
  refine V_iload_n X dX6_appendAll_1 rfl rfl ?_
  refine V_gload_n X dX6_appendAll_2 rfl rfl ?_
  refine V_iload_n X dX6_appendAll_3 rfl rfl ?_
  refine V_iconst X dX6_appendAll_4 ?_
  refine V_gload_n X dX6_appendAll_5 rfl rfl ?_
  refine V_iload_n X dX6_appendAll_6 rfl rfl ?_
  refine V_cVI X hf [vi a3] _ 1 (fun _ h => m_X6_length hj h) (ob_X6 hj) rfl tw_466 tw_87 tw_637 tw_464 tw_465 dX6_appendAll_7 ⟨by decide +kernel, by decide +kernel, by decide +kernel⟩ ⟨rfl, rfl⟩ ⟨Nat.le_of_ble_eq_true rfl, Nat.le_of_ble_eq_true rfl⟩ rfl (Nat.le_of_ble_eq_true rfl) ⟨Nat.zero_le _, Nat.zero_le _⟩ (fun r1 w1 hf => ?_)
  refine V_cVI X hf [vi a1, gr G j, vi a3, vi 0, vi r1] _ 5 (fun _ h => m_X6_append hi hj h) (ob_X6 hi) rfl tw_641 tw_87 tw_638 tw_639 tw_640 dX6_appendAll_10 ⟨by decide +kernel, by decide +kernel, by decide +kernel⟩ ⟨rfl, rfl⟩ ⟨Nat.le_of_ble_eq_true rfl, Nat.le_of_ble_eq_true rfl⟩ rfl (Nat.le_of_ble_eq_true rfl) ⟨Nat.zero_le _, Nat.zero_le _⟩ (fun r2 w2 hf => ?_)
  obtain ⟨hz, hf⟩ := ite_n hf
  exact V_zret X hE dX6_appendAll_13 hz hf
abbrev rmX2_replace : Room := { frames := 2, cells := 0, slots := 0, locals := 54 }
set_option maxRecDepth 20000 in
theorem m_X2_replace {G : GG} {j : Nat} {a2 : Int} {j2 : Nat} {a4 : Int} {w : WS} {q : (Int × WS)} (hj : isX6 j) (hj2 : isX6 j2) (hf : f_X2_replace j a2 j2 a4 w = some q) : MI G yX2_replace cX2_replace 5 (some .boolean) rmX2_replace [gr G 39, gr G j, vi a2, gr G j2, vi a4] w q := by
  refine MI_of (by decide +kernel) (Nat.le_of_ble_eq_true rfl) (fun E X hE => ?_)
  have X : Cx G E cX2_replace RX2 (some .boolean) rmX2_replace 5 := X
  unfold f_X2_replace at hf
  refine V_gload_n X dX2_replace_0 rfl rfl ?_
  refine V_iload_n X dX2_replace_1 rfl rfl ?_
  refine V_cVV X hf [vi a2] _ 1 (fun _ h => m_X6_clear hj h) (ob_X6 hj) rfl tw_470 tw_87 tw_1100 tw_468 tw_469 dX2_replace_2 ⟨by decide +kernel, by decide +kernel, by decide +kernel⟩ ⟨rfl, rfl⟩ ⟨Nat.le_of_ble_eq_true rfl, Nat.le_of_ble_eq_true rfl⟩ rfl (Nat.le_of_ble_eq_true rfl) ⟨Nat.zero_le _, Nat.zero_le _⟩ (fun r1 w1 hf => ?_)
  refine V_gload_n X dX2_replace_5 rfl rfl ?_
  refine V_iload_n X dX2_replace_6 rfl rfl ?_
  refine V_gload_n X dX2_replace_7 rfl rfl ?_
  refine V_getr X ob_39 rfl rfl hin_X2 3 (Nat.le_of_ble_eq_true rfl) tw_209 rfl dX2_replace_8 ?_
  refine V_iconst X dX2_replace_11 ?_
  refine V_iconst X dX2_replace_12 ?_
  refine V_gload_n X dX2_replace_13 rfl rfl ?_
  refine V_geti X ob_39 rfl rfl hin_X2 11 (Nat.le_of_ble_eq_true rfl) tw_217 rfl dX2_replace_14 ?_
  refine V_cVI X hf [vi a2, gr G 13, vi 0, vi 0, vi (w1 39 11)] _ 5 (fun _ h => m_X6_append hj is_13 h) (ob_X6 hj) rfl tw_641 tw_87 tw_1101 tw_639 tw_640 dX2_replace_17 ⟨by decide +kernel, by decide +kernel, by decide +kernel⟩ ⟨rfl, rfl⟩ ⟨Nat.le_of_ble_eq_true rfl, Nat.le_of_ble_eq_true rfl⟩ rfl (Nat.le_of_ble_eq_true rfl) ⟨Nat.zero_le _, Nat.zero_le _⟩ (fun r2 w2 hf => ?_)
  refine V_if_eq X (tgt := 59) dX2_replace_20 (by decide) hf (fun hf => ?_) (fun hf => ?_)
  · refine V_iconst X dX2_replace_59 ?_
    exact V_zret X hE dX2_replace_60 (Or.inl rfl) hf
  · refine V_gload_n X dX2_replace_23 rfl rfl ?_
    refine V_iload_n X dX2_replace_24 rfl rfl ?_
    refine V_gload_n X dX2_replace_25 rfl rfl ?_
    refine V_iload X dX2_replace_26 rfl ?_
    refine V_cVI X hf [vi a2, gr G j2, vi a4] _ 3 (fun _ h => m_X6_appendAll hj hj2 h) (ob_X6 hj) rfl tw_1005 tw_87 tw_1118 tw_1003 tw_1004 dX2_replace_28 ⟨by decide +kernel, by decide +kernel, by decide +kernel⟩ ⟨rfl, rfl⟩ ⟨Nat.le_of_ble_eq_true rfl, Nat.le_of_ble_eq_true rfl⟩ rfl (Nat.le_of_ble_eq_true rfl) ⟨Nat.zero_le _, Nat.zero_le _⟩ (fun r3 w3 hf => ?_)
    refine V_if_eq X (tgt := 59) dX2_replace_31 (by decide) hf (fun hf => ?_) (fun hf => ?_)
    · refine V_iconst X dX2_replace_59 ?_
      exact V_zret X hE dX2_replace_60 (Or.inl rfl) hf
    · refine V_gload_n X dX2_replace_34 rfl rfl ?_
      refine V_iload_n X dX2_replace_35 rfl rfl ?_
      refine V_gload_n X dX2_replace_36 rfl rfl ?_
      refine V_getr X ob_39 rfl rfl hin_X2 3 (Nat.le_of_ble_eq_true rfl) tw_209 rfl dX2_replace_37 ?_
      refine V_iconst X dX2_replace_40 ?_
      refine V_gload_n X dX2_replace_41 rfl rfl ?_
      refine V_geti X ob_39 rfl rfl hin_X2 14 (Nat.le_of_ble_eq_true rfl) tw_222 rfl dX2_replace_42 ?_
      refine V_gload_n X dX2_replace_45 rfl rfl ?_
      refine V_geti X ob_39 rfl rfl hin_X2 10 (Nat.le_of_ble_eq_true rfl) tw_216 rfl dX2_replace_46 ?_
      refine V_cVI X hf [vi a2, gr G 13, vi 0, vi (w3 39 14), vi (w3 39 10)] _ 5 (fun _ h => m_X6_append hj is_13 h) (ob_X6 hj) rfl tw_641 tw_87 tw_1101 tw_639 tw_640 dX2_replace_49 ⟨by decide +kernel, by decide +kernel, by decide +kernel⟩ ⟨rfl, rfl⟩ ⟨Nat.le_of_ble_eq_true rfl, Nat.le_of_ble_eq_true rfl⟩ rfl (Nat.le_of_ble_eq_true rfl) ⟨Nat.zero_le _, Nat.zero_le _⟩ (fun r4 w4 hf => ?_)
      refine V_if_eq X (tgt := 59) dX2_replace_52 (by decide) hf (fun hf => ?_) (fun hf => ?_)
      · refine V_iconst X dX2_replace_59 ?_
        exact V_zret X hE dX2_replace_60 (Or.inl rfl) hf
      · refine V_iconst X dX2_replace_55 ?_
        refine V_goto X (tgt := 60) dX2_replace_56 (by decide) ?_
        exact V_zret X hE dX2_replace_60 (Or.inr rfl) hf
abbrev rmX4_isWay : Room := { frames := 0, cells := 0, slots := 0, locals := 0 }
set_option maxRecDepth 20000 in
theorem m_X4_isWay {G : GG} {a0 : Int} {w : WS} {q : (Int × WS)}  (hf : f_X4_isWay a0 w = some q) : MI G yX4_isWay cX4_isWay 1 (some .boolean) rmX4_isWay [vi a0] w q := by
  refine MI_of (by decide +kernel) (Nat.le_of_ble_eq_true rfl) (fun E X hE => ?_)
  have X : Cx G E cX4_isWay RX4 (some .boolean) rmX4_isWay 1 := X
  unfold f_X4_isWay at hf
  refine V_iload_n X dX4_isWay_0 rfl rfl ?_
  refine V_bipush X dX4_isWay_1 (by decide) ?_
  refine V_icmp_lt X (tgt := 16) dX4_isWay_3 (by decide) hf (fun hf => ?_) (fun hf => ?_)
  · refine V_iconst X dX4_isWay_16 ?_
    exact V_zret X hE dX4_isWay_17 (Or.inl rfl) hf
  · refine V_iload_n X dX4_isWay_6 rfl rfl ?_
    refine V_bipush X dX4_isWay_7 (by decide) ?_
    refine V_icmp_ge X (tgt := 16) dX4_isWay_9 (by decide) hf (fun hf => ?_) (fun hf => ?_)
    · refine V_iconst X dX4_isWay_12 ?_
      refine V_goto X (tgt := 17) dX4_isWay_13 (by decide) ?_
      exact V_zret X hE dX4_isWay_17 (Or.inr rfl) hf
    · refine V_iconst X dX4_isWay_16 ?_
      exact V_zret X hE dX4_isWay_17 (Or.inl rfl) hf
abbrev rmX4_add : Room := { frames := 1, cells := 0, slots := 0, locals := 22 }
set_option maxRecDepth 20000 in
theorem m_X4_add {G : GG} {a1 : Int} {a2 : Int} {a3 : Int} {a4 : Int} {a5 : Int} {a6 : Int} {w : WS} {q : (Int × WS)}  (hf : f_X4_add a1 a2 a3 a4 a5 a6 w = some q) : MI G yX4_add cX4_add 8 (some .int) rmX4_add [gr G 57, vi a1, vi a2, vi a3, vi a4, vi a5, vi a6] w q := by
  refine MI_of (by decide +kernel) (Nat.le_of_ble_eq_true rfl) (fun E X hE => ?_)
  have X : Cx G E cX4_add RX4 (some .int) rmX4_add 8 := X
  unfold f_X4_add at hf
  refine V_gload_n X dX4_add_0 rfl rfl ?_
  refine V_geti X ob_57 rfl rfl hin_X4 6 (Nat.le_of_ble_eq_true rfl) tw_306 rfl dX4_add_1 ?_
  refine V_istore X dX4_add_4 (by decide) ?_
  refine V_gload_n X dX4_add_6 rfl rfl ?_
  refine V_getr X ob_57 rfl rfl hin_X4 0 (Nat.le_of_ble_eq_true rfl) tw_294 rfl dX4_add_7 ?_
  refine V_iload X dX4_add_10 rfl ?_
  refine V_iload_n X dX4_add_12 rfl rfl ?_
  refine V_cVV X hf [vi (w 57 6), vi a1] _ 2 (fun _ h => m_X1_put is_58 h) ob_58 rfl tw_839 tw_89 tw_883 tw_837 tw_838 dX4_add_13 ⟨by decide +kernel, by decide +kernel, by decide +kernel⟩ ⟨rfl, rfl⟩ ⟨Nat.le_of_ble_eq_true rfl, Nat.le_of_ble_eq_true rfl⟩ rfl (Nat.le_of_ble_eq_true rfl) ⟨Nat.zero_le _, Nat.zero_le _⟩ (fun r1 w1 hf => ?_)
  refine V_gload_n X dX4_add_16 rfl rfl ?_
  refine V_getr X ob_57 rfl rfl hin_X4 1 (Nat.le_of_ble_eq_true rfl) tw_296 rfl dX4_add_17 ?_
  refine V_iload X dX4_add_20 rfl ?_
  refine V_iload_n X dX4_add_22 rfl rfl ?_
  refine V_cVV X hf [vi (w 57 6), vi a2] _ 2 (fun _ h => m_X1_put is_60 h) ob_60 rfl tw_839 tw_89 tw_883 tw_837 tw_838 dX4_add_23 ⟨by decide +kernel, by decide +kernel, by decide +kernel⟩ ⟨rfl, rfl⟩ ⟨Nat.le_of_ble_eq_true rfl, Nat.le_of_ble_eq_true rfl⟩ rfl (Nat.le_of_ble_eq_true rfl) ⟨Nat.zero_le _, Nat.zero_le _⟩ (fun r2 w2 hf => ?_)
  refine V_gload_n X dX4_add_26 rfl rfl ?_
  refine V_getr X ob_57 rfl rfl hin_X4 2 (Nat.le_of_ble_eq_true rfl) tw_298 rfl dX4_add_27 ?_
  refine V_iload X dX4_add_30 rfl ?_
  refine V_iload_n X dX4_add_32 rfl rfl ?_
  refine V_cVV X hf [vi (w 57 6), vi a3] _ 2 (fun _ h => m_X1_put is_62 h) ob_62 rfl tw_839 tw_89 tw_883 tw_837 tw_838 dX4_add_33 ⟨by decide +kernel, by decide +kernel, by decide +kernel⟩ ⟨rfl, rfl⟩ ⟨Nat.le_of_ble_eq_true rfl, Nat.le_of_ble_eq_true rfl⟩ rfl (Nat.le_of_ble_eq_true rfl) ⟨Nat.zero_le _, Nat.zero_le _⟩ (fun r3 w3 hf => ?_)
  refine V_gload_n X dX4_add_36 rfl rfl ?_
  refine V_getr X ob_57 rfl rfl hin_X4 3 (Nat.le_of_ble_eq_true rfl) tw_300 rfl dX4_add_37 ?_
  refine V_iload X dX4_add_40 rfl ?_
  refine V_iload X dX4_add_42 rfl ?_
  refine V_cVV X hf [vi (w 57 6), vi a4] _ 2 (fun _ h => m_X1_put is_64 h) ob_64 rfl tw_839 tw_89 tw_883 tw_837 tw_838 dX4_add_44 ⟨by decide +kernel, by decide +kernel, by decide +kernel⟩ ⟨rfl, rfl⟩ ⟨Nat.le_of_ble_eq_true rfl, Nat.le_of_ble_eq_true rfl⟩ rfl (Nat.le_of_ble_eq_true rfl) ⟨Nat.zero_le _, Nat.zero_le _⟩ (fun r4 w4 hf => ?_)
  refine V_gload_n X dX4_add_47 rfl rfl ?_
  refine V_getr X ob_57 rfl rfl hin_X4 4 (Nat.le_of_ble_eq_true rfl) tw_302 rfl dX4_add_48 ?_
  refine V_iload X dX4_add_51 rfl ?_
  refine V_iload X dX4_add_53 rfl ?_
  refine V_cVV X hf [vi (w 57 6), vi a5] _ 2 (fun _ h => m_X1_put is_66 h) ob_66 rfl tw_839 tw_89 tw_883 tw_837 tw_838 dX4_add_55 ⟨by decide +kernel, by decide +kernel, by decide +kernel⟩ ⟨rfl, rfl⟩ ⟨Nat.le_of_ble_eq_true rfl, Nat.le_of_ble_eq_true rfl⟩ rfl (Nat.le_of_ble_eq_true rfl) ⟨Nat.zero_le _, Nat.zero_le _⟩ (fun r5 w5 hf => ?_)
  refine V_gload_n X dX4_add_58 rfl rfl ?_
  refine V_getr X ob_57 rfl rfl hin_X4 5 (Nat.le_of_ble_eq_true rfl) tw_304 rfl dX4_add_59 ?_
  refine V_iload X dX4_add_62 rfl ?_
  refine V_iload X dX4_add_64 rfl ?_
  refine V_cVV X hf [vi (w 57 6), vi a6] _ 2 (fun _ h => m_X1_put is_68 h) ob_68 rfl tw_839 tw_89 tw_883 tw_837 tw_838 dX4_add_66 ⟨by decide +kernel, by decide +kernel, by decide +kernel⟩ ⟨rfl, rfl⟩ ⟨Nat.le_of_ble_eq_true rfl, Nat.le_of_ble_eq_true rfl⟩ rfl (Nat.le_of_ble_eq_true rfl) ⟨Nat.zero_le _, Nat.zero_le _⟩ (fun r6 w6 hf => ?_)
  refine V_gload_n X dX4_add_69 rfl rfl ?_
  refine V_dup X dX4_add_70 rfl ?_
  refine V_geti X ob_57 rfl rfl hin_X4 6 (Nat.le_of_ble_eq_true rfl) tw_306 rfl dX4_add_71 ?_
  refine V_iconst X dX4_add_74 ?_
  refine V_iadd X dX4_add_75 ?_
  refine V_puti X ob_57 rfl rfl hin_X4 6 (Nat.le_of_ble_eq_true rfl) tw_306 tyX4 tyX4_ok nmX4 rfl (by decide +kernel) rfl dX4_add_76 ?_
  refine V_iload X dX4_add_79 rfl ?_
  exact V_iret X hE dX4_add_81 hf
abbrev rmX4_tell : Room := { frames := 1, cells := 0, slots := 0, locals := 22 }
set_option maxRecDepth 20000 in
theorem v_X4_tell_17 {G : GG} {E : EE} (X : Cx G E cX4_tell RX4 (some .boolean) rmX4_tell 7) {q : (Int × WS)} (hE : EndI G E q)   {a1 a2 a3 a4 a5 s0 : Int} {w : WS} (hf : f_X4_tell_17   a1 a2 a3 a4 a5 s0 w = some q) : VV G E 0 0 17 [(0, gr G 57), (1, vi a1), (2, vi a2), (3, vi a3), (4, vi a4), (5, vi a5)] [vi s0] w := by
  unfold f_X4_tell_17 at hf
  refine V_istore X dX4_tell_17 (by decide) ?_
  refine V_gload_n X dX4_tell_19 rfl rfl ?_
  refine V_getr X ob_57 rfl rfl hin_X4 7 (Nat.le_of_ble_eq_true rfl) tw_309 rfl dX4_tell_20 ?_
  refine V_iload_n X dX4_tell_23 rfl rfl ?_
  refine V_iconst X dX4_tell_24 ?_
  refine V_cVV X hf [vi a1, vi 1] _ 2 (fun _ h => m_X1_put is_70 h) ob_70 rfl tw_839 tw_89 tw_883 tw_837 tw_838 dX4_tell_25 ⟨by decide +kernel, by decide +kernel, by decide +kernel⟩ ⟨rfl, rfl⟩ ⟨Nat.le_of_ble_eq_true rfl, Nat.le_of_ble_eq_true rfl⟩ rfl (Nat.le_of_ble_eq_true rfl) ⟨Nat.zero_le _, Nat.zero_le _⟩ (fun r2 w2 hf => ?_)
  refine V_gload_n X dX4_tell_28 rfl rfl ?_
  refine V_getr X ob_57 rfl rfl hin_X4 8 (Nat.le_of_ble_eq_true rfl) tw_311 rfl dX4_tell_29 ?_
  refine V_iload_n X dX4_tell_32 rfl rfl ?_
  refine V_iload_n X dX4_tell_33 rfl rfl ?_
  refine V_cVV X hf [vi a1, vi a2] _ 2 (fun _ h => m_X1_put is_72 h) ob_72 rfl tw_839 tw_89 tw_883 tw_837 tw_838 dX4_tell_34 ⟨by decide +kernel, by decide +kernel, by decide +kernel⟩ ⟨rfl, rfl⟩ ⟨Nat.le_of_ble_eq_true rfl, Nat.le_of_ble_eq_true rfl⟩ rfl (Nat.le_of_ble_eq_true rfl) ⟨Nat.zero_le _, Nat.zero_le _⟩ (fun r3 w3 hf => ?_)
  refine V_gload_n X dX4_tell_37 rfl rfl ?_
  refine V_getr X ob_57 rfl rfl hin_X4 9 (Nat.le_of_ble_eq_true rfl) tw_313 rfl dX4_tell_38 ?_
  refine V_iconst X dX4_tell_41 ?_
  refine V_iload_n X dX4_tell_42 rfl rfl ?_
  refine V_imul X dX4_tell_43 ?_
  refine V_iload_n X dX4_tell_44 rfl rfl ?_
  refine V_cVV X hf [vi (3 * a1), vi a3] _ 2 (fun _ h => m_X1_put is_74 h) ob_74 rfl tw_839 tw_89 tw_883 tw_837 tw_838 dX4_tell_45 ⟨by decide +kernel, by decide +kernel, by decide +kernel⟩ ⟨rfl, rfl⟩ ⟨Nat.le_of_ble_eq_true rfl, Nat.le_of_ble_eq_true rfl⟩ rfl (Nat.le_of_ble_eq_true rfl) ⟨Nat.zero_le _, Nat.zero_le _⟩ (fun r4 w4 hf => ?_)
  refine V_gload_n X dX4_tell_48 rfl rfl ?_
  refine V_getr X ob_57 rfl rfl hin_X4 9 (Nat.le_of_ble_eq_true rfl) tw_313 rfl dX4_tell_49 ?_
  refine V_iconst X dX4_tell_52 ?_
  refine V_iload_n X dX4_tell_53 rfl rfl ?_
  refine V_imul X dX4_tell_54 ?_
  refine V_iconst X dX4_tell_55 ?_
  refine V_iadd X dX4_tell_56 ?_
  refine V_iload X dX4_tell_57 rfl ?_
  refine V_cVV X hf [vi ((3 * a1) + 1), vi a4] _ 2 (fun _ h => m_X1_put is_74 h) ob_74 rfl tw_839 tw_89 tw_883 tw_837 tw_838 dX4_tell_59 ⟨by decide +kernel, by decide +kernel, by decide +kernel⟩ ⟨rfl, rfl⟩ ⟨Nat.le_of_ble_eq_true rfl, Nat.le_of_ble_eq_true rfl⟩ rfl (Nat.le_of_ble_eq_true rfl) ⟨Nat.zero_le _, Nat.zero_le _⟩ (fun r5 w5 hf => ?_)
  refine V_gload_n X dX4_tell_62 rfl rfl ?_
  refine V_getr X ob_57 rfl rfl hin_X4 9 (Nat.le_of_ble_eq_true rfl) tw_313 rfl dX4_tell_63 ?_
  refine V_iconst X dX4_tell_66 ?_
  refine V_iload_n X dX4_tell_67 rfl rfl ?_
  refine V_imul X dX4_tell_68 ?_
  refine V_iconst X dX4_tell_69 ?_
  refine V_iadd X dX4_tell_70 ?_
  refine V_iload X dX4_tell_71 rfl ?_
  refine V_cVV X hf [vi ((3 * a1) + 2), vi a5] _ 2 (fun _ h => m_X1_put is_74 h) ob_74 rfl tw_839 tw_89 tw_883 tw_837 tw_838 dX4_tell_73 ⟨by decide +kernel, by decide +kernel, by decide +kernel⟩ ⟨rfl, rfl⟩ ⟨Nat.le_of_ble_eq_true rfl, Nat.le_of_ble_eq_true rfl⟩ rfl (Nat.le_of_ble_eq_true rfl) ⟨Nat.zero_le _, Nat.zero_le _⟩ (fun r6 w6 hf => ?_)
  refine V_iload X dX4_tell_76 rfl ?_
  obtain ⟨hz, hf⟩ := ite_n hf
  exact V_zret X hE dX4_tell_78 hz hf
set_option maxRecDepth 20000 in
theorem m_X4_tell {G : GG} {a1 : Int} {a2 : Int} {a3 : Int} {a4 : Int} {a5 : Int} {w : WS} {q : (Int × WS)}  (hf : f_X4_tell a1 a2 a3 a4 a5 w = some q) : MI G yX4_tell cX4_tell 7 (some .boolean) rmX4_tell [gr G 57, vi a1, vi a2, vi a3, vi a4, vi a5] w q := by
  refine MI_of (by decide +kernel) (Nat.le_of_ble_eq_true rfl) (fun E X hE => ?_)
  have X : Cx G E cX4_tell RX4 (some .boolean) rmX4_tell 7 := X
  unfold f_X4_tell at hf
  refine V_gload_n X dX4_tell_0 rfl rfl ?_
  refine V_getr X ob_57 rfl rfl hin_X4 7 (Nat.le_of_ble_eq_true rfl) tw_309 rfl dX4_tell_1 ?_
  refine V_iload_n X dX4_tell_4 rfl rfl ?_
  refine V_cVI X hf [vi a1] _ 1 (fun _ h => m_X1_get is_70 h) ob_70 rfl tw_500 tw_89 tw_917 tw_498 tw_499 dX4_tell_5 ⟨by decide +kernel, by decide +kernel, by decide +kernel⟩ ⟨rfl, rfl⟩ ⟨Nat.le_of_ble_eq_true rfl, Nat.le_of_ble_eq_true rfl⟩ rfl (Nat.le_of_ble_eq_true rfl) ⟨Nat.zero_le _, Nat.zero_le _⟩ (fun r1 w1 hf => ?_)
  refine V_iconst X dX4_tell_8 ?_
  refine V_icmp_ne X (tgt := 16) dX4_tell_9 (by decide) hf (fun hf => ?_) (fun hf => ?_)
  · refine V_iconst X dX4_tell_12 ?_
    refine V_goto X (tgt := 17) dX4_tell_13 (by decide) ?_
    exact V_cut [0, 1, 2, 3, 4, 5] rfl (v_X4_tell_17 X hE hf)
  · refine V_iconst X dX4_tell_16 ?_
    exact V_cut [0, 1, 2, 3, 4, 5] rfl (v_X4_tell_17 X hE hf)
abbrev rmX5_markNeeded : Room := { frames := 1, cells := 0, slots := 0, locals := 22 }
set_option maxRecDepth 20000 in
theorem v_X5_markNeeded_18 {G : GG} {E : EE} (X : Cx G E cX5_markNeeded RX5 none rmX5_markNeeded 4) {q : (Int × WS)} (hE : EndV G E q)   : ∀ (n : Nat) (a2 : Int) (w : WS), f_X5_markNeeded_18   n a2 w = some q → VV G E 0 0 18 [(0, gr G 54), (2, vi a2)] [] w := by
  intro n
  induction n with
  | zero => intro a2 w hf; cases hf
  | succ n ih =>
    intro a2 w hf
    rw [f_X5_markNeeded_18_s] at hf
    refine V_iload_n X dX5_markNeeded_18 rfl rfl ?_
    refine V_if_lt X (tgt := 120) dX5_markNeeded_19 (by decide) hf (fun hf => ?_) (fun hf => ?_)
    · exact V_vret X hE dX5_markNeeded_120 hf
    · refine V_gload_n X dX5_markNeeded_22 rfl rfl ?_
      refine V_getr X ob_54 rfl rfl hin_X5 0 (Nat.le_of_ble_eq_true rfl) tw_268 rfl dX5_markNeeded_23 ?_
      refine V_getrN X ob_32 rfl rfl hin_X0 1 (Nat.le_of_ble_eq_true rfl) nw_0 rfl dX5_markNeeded_26 ?_
      refine V_iload_n X dX5_markNeeded_29 rfl rfl ?_
      refine V_cVI X hf [vi a2] _ 1 (fun _ h => m_X1_get is_33 h) ob_33 rfl tw_500 tw_89 tw_959 tw_498 tw_499 dX5_markNeeded_30 ⟨by decide +kernel, by decide +kernel, by decide +kernel⟩ ⟨rfl, rfl⟩ ⟨Nat.le_of_ble_eq_true rfl, Nat.le_of_ble_eq_true rfl⟩ rfl (Nat.le_of_ble_eq_true rfl) ⟨Nat.zero_le _, Nat.zero_le _⟩ (fun r3 w3 hf => ?_)
      refine V_istore_n X dX5_markNeeded_33 rfl (by decide) ?_
      refine V_gload_n X dX5_markNeeded_34 rfl rfl ?_
      refine V_getr X ob_54 rfl rfl hin_X5 4 (Nat.le_of_ble_eq_true rfl) tw_274 rfl dX5_markNeeded_35 ?_
      refine V_iload_n X dX5_markNeeded_38 rfl rfl ?_
      refine V_cVI X hf [vi a2] _ 1 (fun _ h => m_X1_get is_55 h) ob_55 rfl tw_500 tw_89 tw_959 tw_498 tw_499 dX5_markNeeded_39 ⟨by decide +kernel, by decide +kernel, by decide +kernel⟩ ⟨rfl, rfl⟩ ⟨Nat.le_of_ble_eq_true rfl, Nat.le_of_ble_eq_true rfl⟩ rfl (Nat.le_of_ble_eq_true rfl) ⟨Nat.zero_le _, Nat.zero_le _⟩ (fun r4 w4 hf => ?_)
      refine V_iconst X dX5_markNeeded_42 ?_
      refine V_icmp_ne X (tgt := 114) dX5_markNeeded_43 (by decide) hf (fun hf => ?_) (fun hf => ?_)
      · refine V_iload_n X dX5_markNeeded_46 rfl rfl ?_
        refine V_bipush X dX5_markNeeded_47 (by decide) ?_
        refine V_icmp_eq X (tgt := 114) dX5_markNeeded_49 (by decide) hf (fun hf => ?_) (fun hf => ?_)
        · refine V_iinc X dX5_markNeeded_114 rfl (by decide) ?_
          refine V_goto X (tgt := 18) dX5_markNeeded_117 (by decide) ?_
          exact V_cut [0, 2] rfl (ih _ _ hf)
        · refine V_iload_n X dX5_markNeeded_52 rfl rfl ?_
          refine V_bipush X dX5_markNeeded_53 (by decide) ?_
          refine V_icmp_eq X (tgt := 114) dX5_markNeeded_55 (by decide) hf (fun hf => ?_) (fun hf => ?_)
          · refine V_iinc X dX5_markNeeded_114 rfl (by decide) ?_
            refine V_goto X (tgt := 18) dX5_markNeeded_117 (by decide) ?_
            exact V_cut [0, 2] rfl (ih _ _ hf)
          · refine V_gload_n X dX5_markNeeded_58 rfl rfl ?_
            refine V_getr X ob_54 rfl rfl hin_X5 4 (Nat.le_of_ble_eq_true rfl) tw_274 rfl dX5_markNeeded_59 ?_
            refine V_gload_n X dX5_markNeeded_62 rfl rfl ?_
            refine V_getr X ob_54 rfl rfl hin_X5 0 (Nat.le_of_ble_eq_true rfl) tw_268 rfl dX5_markNeeded_63 ?_
            refine V_getrN X ob_32 rfl rfl hin_X0 2 (Nat.le_of_ble_eq_true rfl) nw_2 rfl dX5_markNeeded_66 ?_
            refine V_iload_n X dX5_markNeeded_69 rfl rfl ?_
            refine V_cVI X hf [vi a2] _ 1 (fun _ h => m_X1_get is_35 h) ob_35 rfl tw_500 tw_89 tw_959 tw_498 tw_499 dX5_markNeeded_70 ⟨by decide +kernel, by decide +kernel, by decide +kernel⟩ ⟨rfl, rfl⟩ ⟨Nat.le_of_ble_eq_true rfl, Nat.le_of_ble_eq_true rfl⟩ rfl (Nat.le_of_ble_eq_true rfl) ⟨Nat.zero_le _, Nat.zero_le _⟩ (fun r5 w5 hf => ?_)
            refine V_iconst X dX5_markNeeded_73 ?_
            refine V_cVV X hf [vi r5, vi 1] _ 2 (fun _ h => m_X1_put is_55 h) ob_55 rfl tw_839 tw_89 tw_958 tw_837 tw_838 dX5_markNeeded_74 ⟨by decide +kernel, by decide +kernel, by decide +kernel⟩ ⟨rfl, rfl⟩ ⟨Nat.le_of_ble_eq_true rfl, Nat.le_of_ble_eq_true rfl⟩ rfl (Nat.le_of_ble_eq_true rfl) ⟨Nat.zero_le _, Nat.zero_le _⟩ (fun r6 w6 hf => ?_)
            refine V_iload_n X dX5_markNeeded_77 rfl rfl ?_
            refine V_bipush X dX5_markNeeded_78 (by decide) ?_
            refine V_icmp_eq X (tgt := 114) dX5_markNeeded_80 (by decide) hf (fun hf => ?_) (fun hf => ?_)
            · refine V_iinc X dX5_markNeeded_114 rfl (by decide) ?_
              refine V_goto X (tgt := 18) dX5_markNeeded_117 (by decide) ?_
              exact V_cut [0, 2] rfl (ih _ _ hf)
            · refine V_iload_n X dX5_markNeeded_83 rfl rfl ?_
              refine V_bipush X dX5_markNeeded_84 (by decide) ?_
              refine V_icmp_eq X (tgt := 114) dX5_markNeeded_86 (by decide) hf (fun hf => ?_) (fun hf => ?_)
              · refine V_iinc X dX5_markNeeded_114 rfl (by decide) ?_
                refine V_goto X (tgt := 18) dX5_markNeeded_117 (by decide) ?_
                exact V_cut [0, 2] rfl (ih _ _ hf)
              · refine V_iload_n X dX5_markNeeded_89 rfl rfl ?_
                refine V_bipush X dX5_markNeeded_90 (by decide) ?_
                refine V_icmp_eq X (tgt := 114) dX5_markNeeded_92 (by decide) hf (fun hf => ?_) (fun hf => ?_)
                · refine V_iinc X dX5_markNeeded_114 rfl (by decide) ?_
                  refine V_goto X (tgt := 18) dX5_markNeeded_117 (by decide) ?_
                  exact V_cut [0, 2] rfl (ih _ _ hf)
                · refine V_gload_n X dX5_markNeeded_95 rfl rfl ?_
                  refine V_getr X ob_54 rfl rfl hin_X5 4 (Nat.le_of_ble_eq_true rfl) tw_274 rfl dX5_markNeeded_96 ?_
                  refine V_gload_n X dX5_markNeeded_99 rfl rfl ?_
                  refine V_getr X ob_54 rfl rfl hin_X5 0 (Nat.le_of_ble_eq_true rfl) tw_268 rfl dX5_markNeeded_100 ?_
                  refine V_getrN X ob_32 rfl rfl hin_X0 3 (Nat.le_of_ble_eq_true rfl) nw_4 rfl dX5_markNeeded_103 ?_
                  refine V_iload_n X dX5_markNeeded_106 rfl rfl ?_
                  refine V_cVI X hf [vi a2] _ 1 (fun _ h => m_X1_get is_37 h) ob_37 rfl tw_500 tw_89 tw_959 tw_498 tw_499 dX5_markNeeded_107 ⟨by decide +kernel, by decide +kernel, by decide +kernel⟩ ⟨rfl, rfl⟩ ⟨Nat.le_of_ble_eq_true rfl, Nat.le_of_ble_eq_true rfl⟩ rfl (Nat.le_of_ble_eq_true rfl) ⟨Nat.zero_le _, Nat.zero_le _⟩ (fun r7 w7 hf => ?_)
                  refine V_iconst X dX5_markNeeded_110 ?_
                  refine V_cVV X hf [vi r7, vi 1] _ 2 (fun _ h => m_X1_put is_55 h) ob_55 rfl tw_839 tw_89 tw_958 tw_837 tw_838 dX5_markNeeded_111 ⟨by decide +kernel, by decide +kernel, by decide +kernel⟩ ⟨rfl, rfl⟩ ⟨Nat.le_of_ble_eq_true rfl, Nat.le_of_ble_eq_true rfl⟩ rfl (Nat.le_of_ble_eq_true rfl) ⟨Nat.zero_le _, Nat.zero_le _⟩ (fun r8 w8 hf => ?_)
                  refine V_iinc X dX5_markNeeded_114 rfl (by decide) ?_
                  refine V_goto X (tgt := 18) dX5_markNeeded_117 (by decide) ?_
                  exact V_cut [0, 2] rfl (ih _ _ hf)
      · refine V_iinc X dX5_markNeeded_114 rfl (by decide) ?_
        refine V_goto X (tgt := 18) dX5_markNeeded_117 (by decide) ?_
        exact V_cut [0, 2] rfl (ih _ _ hf)
set_option maxRecDepth 20000 in
theorem m_X5_markNeeded {G : GG} {a1 : Int} {w : WS} {q : (Int × WS)}  (hf : f_X5_markNeeded a1 w = some q) : MV G yX5_markNeeded cX5_markNeeded 4 none rmX5_markNeeded [gr G 54, vi a1] w q := by
  refine MV_of (by decide +kernel) (Nat.le_of_ble_eq_true rfl) (fun E X hE => ?_)
  have X : Cx G E cX5_markNeeded RX5 none rmX5_markNeeded 4 := X
  unfold f_X5_markNeeded at hf
  refine V_gload_n X dX5_markNeeded_0 rfl rfl ?_
  refine V_getr X ob_54 rfl rfl hin_X5 4 (Nat.le_of_ble_eq_true rfl) tw_274 rfl dX5_markNeeded_1 ?_
  refine V_cVV X hf [] _ 0 (fun _ h => m_X1_clearAll is_55 h) ob_55 rfl tw_938 tw_89 tw_957 tw_936 tw_937 dX5_markNeeded_4 ⟨by decide +kernel, by decide +kernel, by decide +kernel⟩ ⟨rfl, rfl⟩ ⟨Nat.le_of_ble_eq_true rfl, Nat.le_of_ble_eq_true rfl⟩ rfl (Nat.le_of_ble_eq_true rfl) ⟨Nat.zero_le _, Nat.zero_le _⟩ (fun r1 w1 hf => ?_)
  refine V_gload_n X dX5_markNeeded_7 rfl rfl ?_
  refine V_getr X ob_54 rfl rfl hin_X5 4 (Nat.le_of_ble_eq_true rfl) tw_274 rfl dX5_markNeeded_8 ?_
  refine V_iload_n X dX5_markNeeded_11 rfl rfl ?_
  refine V_iconst X dX5_markNeeded_12 ?_
  refine V_cVV X hf [vi a1, vi 1] _ 2 (fun _ h => m_X1_put is_55 h) ob_55 rfl tw_839 tw_89 tw_958 tw_837 tw_838 dX5_markNeeded_13 ⟨by decide +kernel, by decide +kernel, by decide +kernel⟩ ⟨rfl, rfl⟩ ⟨Nat.le_of_ble_eq_true rfl, Nat.le_of_ble_eq_true rfl⟩ rfl (Nat.le_of_ble_eq_true rfl) ⟨Nat.zero_le _, Nat.zero_le _⟩ (fun r2 w2 hf => ?_)
  refine V_iload_n X dX5_markNeeded_16 rfl rfl ?_
  refine V_istore_n X dX5_markNeeded_17 rfl (by decide) ?_
  exact V_cut [0, 2] rfl (v_X5_markNeeded_18 X hE FU _ _ hf)
abbrev rmX5_isOfNumbers : Room := { frames := 0, cells := 0, slots := 0, locals := 0 }
set_option maxRecDepth 20000 in
theorem m_X5_isOfNumbers {G : GG} {a0 : Int} {w : WS} {q : (Int × WS)}  (hf : f_X5_isOfNumbers a0 w = some q) : MI G yX5_isOfNumbers cX5_isOfNumbers 1 (some .boolean) rmX5_isOfNumbers [vi a0] w q := by
  refine MI_of (by decide +kernel) (Nat.le_of_ble_eq_true rfl) (fun E X hE => ?_)
  have X : Cx G E cX5_isOfNumbers RX5 (some .boolean) rmX5_isOfNumbers 1 := X
  unfold f_X5_isOfNumbers at hf
  refine V_iload_n X dX5_isOfNumbers_0 rfl rfl ?_
  refine V_bipush X dX5_isOfNumbers_1 (by decide) ?_
  refine V_icmp_eq X (tgt := 36) dX5_isOfNumbers_3 (by decide) hf (fun hf => ?_) (fun hf => ?_)
  · refine V_iconst X dX5_isOfNumbers_36 ?_
    refine V_goto X (tgt := 41) dX5_isOfNumbers_37 (by decide) ?_
    exact V_zret X hE dX5_isOfNumbers_41 (Or.inr rfl) hf
  · refine V_iload_n X dX5_isOfNumbers_6 rfl rfl ?_
    refine V_bipush X dX5_isOfNumbers_7 (by decide) ?_
    refine V_icmp_eq X (tgt := 36) dX5_isOfNumbers_9 (by decide) hf (fun hf => ?_) (fun hf => ?_)
    · refine V_iconst X dX5_isOfNumbers_36 ?_
      refine V_goto X (tgt := 41) dX5_isOfNumbers_37 (by decide) ?_
      exact V_zret X hE dX5_isOfNumbers_41 (Or.inr rfl) hf
    · refine V_iload_n X dX5_isOfNumbers_12 rfl rfl ?_
      refine V_bipush X dX5_isOfNumbers_13 (by decide) ?_
      refine V_icmp_eq X (tgt := 36) dX5_isOfNumbers_15 (by decide) hf (fun hf => ?_) (fun hf => ?_)
      · refine V_iconst X dX5_isOfNumbers_36 ?_
        refine V_goto X (tgt := 41) dX5_isOfNumbers_37 (by decide) ?_
        exact V_zret X hE dX5_isOfNumbers_41 (Or.inr rfl) hf
      · refine V_iload_n X dX5_isOfNumbers_18 rfl rfl ?_
        refine V_bipush X dX5_isOfNumbers_19 (by decide) ?_
        refine V_icmp_eq X (tgt := 36) dX5_isOfNumbers_21 (by decide) hf (fun hf => ?_) (fun hf => ?_)
        · refine V_iconst X dX5_isOfNumbers_36 ?_
          refine V_goto X (tgt := 41) dX5_isOfNumbers_37 (by decide) ?_
          exact V_zret X hE dX5_isOfNumbers_41 (Or.inr rfl) hf
        · refine V_iload_n X dX5_isOfNumbers_24 rfl rfl ?_
          refine V_bipush X dX5_isOfNumbers_25 (by decide) ?_
          refine V_icmp_eq X (tgt := 36) dX5_isOfNumbers_27 (by decide) hf (fun hf => ?_) (fun hf => ?_)
          · refine V_iconst X dX5_isOfNumbers_36 ?_
            refine V_goto X (tgt := 41) dX5_isOfNumbers_37 (by decide) ?_
            exact V_zret X hE dX5_isOfNumbers_41 (Or.inr rfl) hf
          · refine V_iload_n X dX5_isOfNumbers_30 rfl rfl ?_
            refine V_bipush X dX5_isOfNumbers_31 (by decide) ?_
            refine V_icmp_ne X (tgt := 40) dX5_isOfNumbers_33 (by decide) hf (fun hf => ?_) (fun hf => ?_)
            · refine V_iconst X dX5_isOfNumbers_36 ?_
              refine V_goto X (tgt := 41) dX5_isOfNumbers_37 (by decide) ?_
              exact V_zret X hE dX5_isOfNumbers_41 (Or.inr rfl) hf
            · refine V_iconst X dX5_isOfNumbers_40 ?_
              exact V_zret X hE dX5_isOfNumbers_41 (Or.inl rfl) hf
