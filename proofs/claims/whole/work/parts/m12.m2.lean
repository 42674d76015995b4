abbrev rmX9_isSame : Room := { frames := 0, cells := 0, slots := 0, locals := 0 }
set_option maxRecDepth 20000 in
theorem v_X9_isSame_24 {G : GG} {E : EE} (X : Cx G E cX9_isSame RX9 (some .boolean) rmX9_isSame 5) {q : (Int × WS)} (hE : EndI G E q)   : ∀ (n : Nat) (a1 a2 a3 a4 : Int) (w : WS), f_X9_isSame_24   n a1 a2 a3 a4 w = some q → VV G E 0 0 24 [(0, gr G 85), (1, vi a1), (2, vi a2), (3, vi a3), (4, vi a4)] [] w := by
  intro n
  induction n with
  | zero => intro a1 a2 a3 a4 w hf; cases hf
  | succ n ih =>
    intro a1 a2 a3 a4 w hf
    rw [f_X9_isSame_24_s] at hf
    refine V_iload X dX9_isSame_24 rfl ?_
    refine V_gload_n X dX9_isSame_26 rfl rfl ?_
    refine V_getr X ob_85 rfl rfl hin_X9 18 (Nat.le_of_ble_eq_true rfl) tw_1334 rfl dX9_isSame_27 ?_
    refine V_iload_n X dX9_isSame_30 rfl rfl ?_
    refine V_iald X ar_99 dX9_isSame_31 hf (fun hf => ?_)
    refine V_icmp_ge X (tgt := 78) dX9_isSame_32 (by decide) hf (fun hf => ?_) (fun hf => ?_)
    · refine V_iload_n X dX9_isSame_35 rfl rfl ?_
      refine V_if_eq X (tgt := 78) dX9_isSame_36 (by decide) hf (fun hf => ?_) (fun hf => ?_)
      · refine V_iload_n X dX9_isSame_78 rfl rfl ?_
        obtain ⟨hz, hf⟩ := ite_n hf
        exact V_zret X hE dX9_isSame_79 hz hf
      · refine V_gload_n X dX9_isSame_39 rfl rfl ?_
        refine V_getr X ob_85 rfl rfl hin_X9 17 (Nat.le_of_ble_eq_true rfl) tw_1333 rfl dX9_isSame_40 ?_
        refine V_bipush X dX9_isSame_43 (by decide) ?_
        refine V_iload_n X dX9_isSame_45 rfl rfl ?_
        refine V_imul X dX9_isSame_46 ?_
        refine V_iload X dX9_isSame_47 rfl ?_
        refine V_iadd X dX9_isSame_49 ?_
        refine V_iald X ar_98 dX9_isSame_50 hf (fun hf => ?_)
        refine V_gload_n X dX9_isSame_51 rfl rfl ?_
        refine V_getr X ob_85 rfl rfl hin_X9 17 (Nat.le_of_ble_eq_true rfl) tw_1333 rfl dX9_isSame_52 ?_
        refine V_bipush X dX9_isSame_55 (by decide) ?_
        refine V_iload_n X dX9_isSame_57 rfl rfl ?_
        refine V_imul X dX9_isSame_58 ?_
        refine V_iload X dX9_isSame_59 rfl ?_
        refine V_iadd X dX9_isSame_61 ?_
        refine V_iald X ar_98 dX9_isSame_62 hf (fun hf => ?_)
        refine V_icmp_ne X (tgt := 70) dX9_isSame_63 (by decide) hf (fun hf => ?_) (fun hf => ?_)
        · refine V_iconst X dX9_isSame_66 ?_
          refine V_goto X (tgt := 71) dX9_isSame_67 (by decide) ?_
          refine V_istore_n X dX9_isSame_71 rfl (by decide) ?_
          refine V_iinc X dX9_isSame_72 rfl (by decide) ?_
          refine V_goto X (tgt := 24) dX9_isSame_75 (by decide) ?_
          exact V_cut [0, 1, 2, 3, 4] rfl (ih _ _ _ _ _ hf)
        · refine V_iconst X dX9_isSame_70 ?_
          refine V_istore_n X dX9_isSame_71 rfl (by decide) ?_
          refine V_iinc X dX9_isSame_72 rfl (by decide) ?_
          refine V_goto X (tgt := 24) dX9_isSame_75 (by decide) ?_
          exact V_cut [0, 1, 2, 3, 4] rfl (ih _ _ _ _ _ hf)
    · refine V_iload_n X dX9_isSame_78 rfl rfl ?_
      obtain ⟨hz, hf⟩ := ite_n hf
      exact V_zret X hE dX9_isSame_79 hz hf
set_option maxRecDepth 20000 in
theorem m_X9_isSame {G : GG} {a1 : Int} {a2 : Int} {w : WS} {q : (Int × WS)}  (hf : f_X9_isSame a1 a2 w = some q) : MI G yX9_isSame cX9_isSame 5 (some .boolean) rmX9_isSame [gr G 85, vi a1, vi a2] w q := by
  refine MI_of (by decide +kernel) (Nat.le_of_ble_eq_true rfl) (fun E X hE => ?_)
  have X : Cx G E cX9_isSame RX9 (some .boolean) rmX9_isSame 5 := X
  unfold f_X9_isSame at hf
  refine V_gload_n X dX9_isSame_0 rfl rfl ?_
  refine V_getr X ob_85 rfl rfl hin_X9 18 (Nat.le_of_ble_eq_true rfl) tw_1334 rfl dX9_isSame_1 ?_
  refine V_iload_n X dX9_isSame_4 rfl rfl ?_
  refine V_iald X ar_99 dX9_isSame_5 hf (fun hf => ?_)
  refine V_gload_n X dX9_isSame_6 rfl rfl ?_
  refine V_getr X ob_85 rfl rfl hin_X9 18 (Nat.le_of_ble_eq_true rfl) tw_1334 rfl dX9_isSame_7 ?_
  refine V_iload_n X dX9_isSame_10 rfl rfl ?_
  refine V_iald X ar_99 dX9_isSame_11 hf (fun hf => ?_)
  refine V_icmp_ne X (tgt := 19) dX9_isSame_12 (by decide) hf (fun hf => ?_) (fun hf => ?_)
  · refine V_iconst X dX9_isSame_15 ?_
    refine V_goto X (tgt := 20) dX9_isSame_16 (by decide) ?_
    refine V_istore_n X dX9_isSame_20 rfl (by decide) ?_
    refine V_iconst X dX9_isSame_21 ?_
    refine V_istore X dX9_isSame_22 (by decide) ?_
    exact V_cut [0, 1, 2, 3, 4] rfl (v_X9_isSame_24 X hE FU _ _ _ _ _ hf)
  · refine V_iconst X dX9_isSame_19 ?_
    refine V_istore_n X dX9_isSame_20 rfl (by decide) ?_
    refine V_iconst X dX9_isSame_21 ?_
    refine V_istore X dX9_isSame_22 (by decide) ?_
    exact V_cut [0, 1, 2, 3, 4] rfl (v_X9_isSame_24 X hE FU _ _ _ _ _ hf)
abbrev rmX9_takeVariable : Room := { frames := 0, cells := 0, slots := 0, locals := 0 }
set_option maxRecDepth 20000 in
theorem v_X9_takeVariable_14 {G : GG} {E : EE} (X : Cx G E cX9_takeVariable RX9 none rmX9_takeVariable 4) {q : (Int × WS)} (hE : EndV G E q)   : ∀ (n : Nat) (a1 a2 a3 : Int) (w : WS), f_X9_takeVariable_14   n a1 a2 a3 w = some q → VV G E 0 0 14 [(0, gr G 85), (1, vi a1), (2, vi a2), (3, vi a3)] [] w := by
  intro n
  induction n with
  | zero => intro a1 a2 a3 w hf; cases hf
  | succ n ih =>
    intro a1 a2 a3 w hf
    rw [f_X9_takeVariable_14_s] at hf
    refine V_iload_n X dX9_takeVariable_14 rfl rfl ?_
    refine V_gload_n X dX9_takeVariable_15 rfl rfl ?_
    refine V_getr X ob_85 rfl rfl hin_X9 7 (Nat.le_of_ble_eq_true rfl) tw_1323 rfl dX9_takeVariable_16 ?_
    refine V_iload_n X dX9_takeVariable_19 rfl rfl ?_
    refine V_iald X ar_90 dX9_takeVariable_20 hf (fun hf => ?_)
    refine V_icmp_ge X (tgt := 52) dX9_takeVariable_21 (by decide) hf (fun hf => ?_) (fun hf => ?_)
    · refine V_gload_n X dX9_takeVariable_24 rfl rfl ?_
      refine V_getr X ob_85 rfl rfl hin_X9 17 (Nat.le_of_ble_eq_true rfl) tw_1333 rfl dX9_takeVariable_25 ?_
      refine V_bipush X dX9_takeVariable_28 (by decide) ?_
      refine V_iload_n X dX9_takeVariable_30 rfl rfl ?_
      refine V_imul X dX9_takeVariable_31 ?_
      refine V_iload_n X dX9_takeVariable_32 rfl rfl ?_
      refine V_iadd X dX9_takeVariable_33 ?_
      refine V_gload_n X dX9_takeVariable_34 rfl rfl ?_
      refine V_getr X ob_85 rfl rfl hin_X9 6 (Nat.le_of_ble_eq_true rfl) tw_1322 rfl dX9_takeVariable_35 ?_
      refine V_bipush X dX9_takeVariable_38 (by decide) ?_
      refine V_iload_n X dX9_takeVariable_40 rfl rfl ?_
      refine V_imul X dX9_takeVariable_41 ?_
      refine V_iload_n X dX9_takeVariable_42 rfl rfl ?_
      refine V_iadd X dX9_takeVariable_43 ?_
      refine V_iald X ar_89 dX9_takeVariable_44 hf (fun hf => ?_)
      refine V_iast X ar_98 dX9_takeVariable_45 hf (fun hf => ?_)
      refine V_iinc X dX9_takeVariable_46 rfl (by decide) ?_
      refine V_goto X (tgt := 14) dX9_takeVariable_49 (by decide) ?_
      exact V_cut [0, 1, 2, 3] rfl (ih _ _ _ _ hf)
    · exact V_vret X hE dX9_takeVariable_52 hf
set_option maxRecDepth 20000 in
theorem m_X9_takeVariable {G : GG} {a1 : Int} {a2 : Int} {w : WS} {q : (Int × WS)}  (hf : f_X9_takeVariable a1 a2 w = some q) : MV G yX9_takeVariable cX9_takeVariable 4 none rmX9_takeVariable [gr G 85, vi a1, vi a2] w q := by
  refine MV_of (by decide +kernel) (Nat.le_of_ble_eq_true rfl) (fun E X hE => ?_)
  have X : Cx G E cX9_takeVariable RX9 none rmX9_takeVariable 4 := X
  unfold f_X9_takeVariable at hf
  refine V_gload_n X dX9_takeVariable_0 rfl rfl ?_
  refine V_getr X ob_85 rfl rfl hin_X9 18 (Nat.le_of_ble_eq_true rfl) tw_1334 rfl dX9_takeVariable_1 ?_
  refine V_iload_n X dX9_takeVariable_4 rfl rfl ?_
  refine V_gload_n X dX9_takeVariable_5 rfl rfl ?_
  refine V_getr X ob_85 rfl rfl hin_X9 7 (Nat.le_of_ble_eq_true rfl) tw_1323 rfl dX9_takeVariable_6 ?_
  refine V_iload_n X dX9_takeVariable_9 rfl rfl ?_
  refine V_iald X ar_90 dX9_takeVariable_10 hf (fun hf => ?_)
  refine V_iast X ar_99 dX9_takeVariable_11 hf (fun hf => ?_)
  refine V_iconst X dX9_takeVariable_12 ?_
  refine V_istore_n X dX9_takeVariable_13 rfl (by decide) ?_
  exact V_cut [0, 1, 2, 3] rfl (v_X9_takeVariable_14 X hE FU _ _ _ _ hf)
abbrev rmX9_workOne : Room := { frames := 3, cells := 0, slots := 0, locals := 77 }
set_option maxRecDepth 20000 in
theorem v_X9_workOne_398 {G : GG} {E : EE} (X : Cx G E cX9_workOne RX9 (some .int) rmX9_workOne 7) {q : (Int × WS)} (hE : EndI G E q)   : ∀ (n : Nat) (a1 a3 a5 : Int) (w : WS), f_X9_workOne_398   n a1 a3 a5 w = some q → VV G E 0 0 398 [(0, gr G 85), (1, vi a1), (3, vi a3), (5, vl a5)] [] w := by
  intro n
  induction n with
  | zero => intro a1 a3 a5 w hf; cases hf
  | succ n ih =>
    intro a1 a3 a5 w hf
    rw [f_X9_workOne_398_s] at hf
    refine V_lload X dX9_workOne_398 rfl ?_
    refine V_lconst (a := 0) X dX9_workOne_400 (by decide) ?_
    refine V_lcmp_le X (tgt := 420) (pc2 := 402) dX9_workOne_401 rfl dX9_workOne_402 (by decide) hf (fun hf => ?_) (fun hf => ?_)
    · refine V_gload_n X dX9_workOne_405 rfl rfl ?_
      refine V_iload_n X dX9_workOne_406 rfl rfl ?_
      refine V_iload_n X dX9_workOne_407 rfl rfl ?_
      refine V_cVV X hf [vi a1, vi a3] _ 2 (fun _ h => m_X9_append h) ob_85 rfl tw_1688 tw_95 tw_1685 tw_1687 tw_47 dX9_workOne_408 ⟨by decide +kernel, by decide +kernel, by decide +kernel⟩ ⟨rfl, rfl⟩ ⟨Nat.le_of_ble_eq_true rfl, Nat.le_of_ble_eq_true rfl⟩ rfl (Nat.le_of_ble_eq_true rfl) ⟨Nat.zero_le _, Nat.zero_le _⟩ (fun r10 w10 hf => ?_)
      refine V_lload X dX9_workOne_411 rfl ?_
      refine V_lconst (a := 1) X dX9_workOne_413 (by decide) ?_
      refine V_lsub X dX9_workOne_414 ?_
      refine V_lstore X dX9_workOne_415 (by decide) ?_
      refine V_goto X (tgt := 398) dX9_workOne_417 (by decide) ?_
      exact V_cut [0, 1, 3, 5] rfl (ih _ _ _ _ hf)
    · refine V_iconst X dX9_workOne_420 ?_
      exact V_iret X hE dX9_workOne_421 hf
set_option maxRecDepth 20000 in
theorem v_X9_workOne_288 {G : GG} {E : EE} (X : Cx G E cX9_workOne RX9 (some .int) rmX9_workOne 7) {q : (Int × WS)} (hE : EndI G E q)   : ∀ (n : Nat) (a1 a3 a5 : Int) (w : WS), f_X9_workOne_288   n a1 a3 a5 w = some q → VV G E 0 0 288 [(0, gr G 85), (1, vi a1), (3, vi a3), (5, vi a5)] [] w := by
  intro n
  induction n with
  | zero => intro a1 a3 a5 w hf; cases hf
  | succ n ih =>
    intro a1 a3 a5 w hf
    rw [f_X9_workOne_288_s] at hf
    refine V_iload X dX9_workOne_288 rfl ?_
    refine V_gload_n X dX9_workOne_290 rfl rfl ?_
    refine V_getr X ob_85 rfl rfl hin_X9 18 (Nat.le_of_ble_eq_true rfl) tw_1334 rfl dX9_workOne_291 ?_
    refine V_iload_n X dX9_workOne_294 rfl rfl ?_
    refine V_iald X ar_99 dX9_workOne_295 hf (fun hf => ?_)
    refine V_icmp_ge X (tgt := 338) dX9_workOne_296 (by decide) hf (fun hf => ?_) (fun hf => ?_)
    · refine V_gload_n X dX9_workOne_299 rfl rfl ?_
      refine V_getr X ob_85 rfl rfl hin_X9 17 (Nat.le_of_ble_eq_true rfl) tw_1333 rfl dX9_workOne_300 ?_
      refine V_bipush X dX9_workOne_303 (by decide) ?_
      refine V_iload_n X dX9_workOne_305 rfl rfl ?_
      refine V_imul X dX9_workOne_306 ?_
      refine V_iload X dX9_workOne_307 rfl ?_
      refine V_iadd X dX9_workOne_309 ?_
      refine V_gload_n X dX9_workOne_310 rfl rfl ?_
      refine V_getr X ob_85 rfl rfl hin_X9 17 (Nat.le_of_ble_eq_true rfl) tw_1333 rfl dX9_workOne_311 ?_
      refine V_bipush X dX9_workOne_314 (by decide) ?_
      refine V_iload_n X dX9_workOne_316 rfl rfl ?_
      refine V_imul X dX9_workOne_317 ?_
      refine V_gload_n X dX9_workOne_318 rfl rfl ?_
      refine V_getr X ob_85 rfl rfl hin_X9 18 (Nat.le_of_ble_eq_true rfl) tw_1334 rfl dX9_workOne_319 ?_
      refine V_iload_n X dX9_workOne_322 rfl rfl ?_
      refine V_iald X ar_99 dX9_workOne_323 hf (fun hf => ?_)
      refine V_iadd X dX9_workOne_324 ?_
      refine V_iconst X dX9_workOne_325 ?_
      refine V_isub X dX9_workOne_326 ?_
      refine V_iload X dX9_workOne_327 rfl ?_
      refine V_isub X dX9_workOne_329 ?_
      refine V_iald X ar_98 dX9_workOne_330 hf (fun hf => ?_)
      refine V_iast X ar_98 dX9_workOne_331 hf (fun hf => ?_)
      refine V_iinc X dX9_workOne_332 rfl (by decide) ?_
      refine V_goto X (tgt := 288) dX9_workOne_335 (by decide) ?_
      exact V_cut [0, 1, 3, 5] rfl (ih _ _ _ _ hf)
    · refine V_iconst X dX9_workOne_338 ?_
      exact V_iret X hE dX9_workOne_339 hf
set_option maxRecDepth 20000 in
theorem v_X9_workOne_119 {G : GG} {E : EE} (X : Cx G E cX9_workOne RX9 (some .int) rmX9_workOne 7) {q : (Int × WS)} (hE : EndI G E q)   : ∀ (n : Nat) (a1 a3 a5 : Int) (w : WS), f_X9_workOne_119   n a1 a3 a5 w = some q → VV G E 0 0 119 [(0, gr G 85), (1, vi a1), (3, vi a3), (5, vi a5)] [] w := by
  intro n
  induction n with
  | zero => intro a1 a3 a5 w hf; cases hf
  | succ n ih =>
    intro a1 a3 a5 w hf
    rw [f_X9_workOne_119_s] at hf
    refine V_iload X dX9_workOne_119 rfl ?_
    refine V_gload_n X dX9_workOne_121 rfl rfl ?_
    refine V_getr X ob_85 rfl rfl hin_X9 4 (Nat.le_of_ble_eq_true rfl) tw_1320 rfl dX9_workOne_122 ?_
    refine V_iload_n X dX9_workOne_125 rfl rfl ?_
    refine V_iald X ar_88 dX9_workOne_126 hf (fun hf => ?_)
    refine V_icmp_ge X (tgt := 160) dX9_workOne_127 (by decide) hf (fun hf => ?_) (fun hf => ?_)
    · refine V_gload_n X dX9_workOne_130 rfl rfl ?_
      refine V_getr X ob_85 rfl rfl hin_X9 17 (Nat.le_of_ble_eq_true rfl) tw_1333 rfl dX9_workOne_131 ?_
      refine V_bipush X dX9_workOne_134 (by decide) ?_
      refine V_iload_n X dX9_workOne_136 rfl rfl ?_
      refine V_imul X dX9_workOne_137 ?_
      refine V_iload X dX9_workOne_138 rfl ?_
      refine V_iadd X dX9_workOne_140 ?_
      refine V_gload_n X dX9_workOne_141 rfl rfl ?_
      refine V_getr X ob_85 rfl rfl hin_X9 3 (Nat.le_of_ble_eq_true rfl) tw_1319 rfl dX9_workOne_142 ?_
      refine V_bipush X dX9_workOne_145 (by decide) ?_
      refine V_iload_n X dX9_workOne_147 rfl rfl ?_
      refine V_imul X dX9_workOne_148 ?_
      refine V_iload X dX9_workOne_149 rfl ?_
      refine V_iadd X dX9_workOne_151 ?_
      refine V_iald X ar_87 dX9_workOne_152 hf (fun hf => ?_)
      refine V_iast X ar_98 dX9_workOne_153 hf (fun hf => ?_)
      refine V_iinc X dX9_workOne_154 rfl (by decide) ?_
      refine V_goto X (tgt := 119) dX9_workOne_157 (by decide) ?_
      exact V_cut [0, 1, 3, 5] rfl (ih _ _ _ _ hf)
    · refine V_iconst X dX9_workOne_160 ?_
      exact V_iret X hE dX9_workOne_161 hf
set_option maxRecDepth 20000 in
theorem m_X9_workOne {G : GG} {a1 : Int} {w : WS} {q : (Int × WS)}  (hf : f_X9_workOne a1 w = some q) : MI G yX9_workOne cX9_workOne 7 (some .int) rmX9_workOne [gr G 85, vi a1] w q := by
  refine MI_of (by decide +kernel) (Nat.le_of_ble_eq_true rfl) (fun E X hE => ?_)
  have X : Cx G E cX9_workOne RX9 (some .int) rmX9_workOne 7 := X
  unfold f_X9_workOne at hf
  refine V_gload_n X dX9_workOne_0 rfl rfl ?_
  refine V_getr X ob_85 rfl rfl hin_X9 12 (Nat.le_of_ble_eq_true rfl) tw_1328 rfl dX9_workOne_1 ?_
  refine V_iload_n X dX9_workOne_4 rfl rfl ?_
  refine V_cald X ar_94 dX9_workOne_5 hf (fun hf => ?_)
  refine V_istore_n X dX9_workOne_6 rfl (by decide) ?_
  refine V_gload_n X dX9_workOne_7 rfl rfl ?_
  refine V_getr X ob_85 rfl rfl hin_X9 13 (Nat.le_of_ble_eq_true rfl) tw_1329 rfl dX9_workOne_8 ?_
  refine V_iload_n X dX9_workOne_11 rfl rfl ?_
  refine V_iald X ar_95 dX9_workOne_12 hf (fun hf => ?_)
  refine V_istore_n X dX9_workOne_13 rfl (by decide) ?_
  refine V_gload_n X dX9_workOne_14 rfl rfl ?_
  refine V_getr X ob_85 rfl rfl hin_X9 14 (Nat.le_of_ble_eq_true rfl) tw_1330 rfl dX9_workOne_15 ?_
  refine V_iload_n X dX9_workOne_18 rfl rfl ?_
  refine V_iald X ar_96 dX9_workOne_19 hf (fun hf => ?_)
  refine V_istore X dX9_workOne_20 (by decide) ?_
  refine V_gload_n X dX9_workOne_22 rfl rfl ?_
  refine V_getr X ob_85 rfl rfl hin_X9 18 (Nat.le_of_ble_eq_true rfl) tw_1334 rfl dX9_workOne_23 ?_
  refine V_iload_n X dX9_workOne_26 rfl rfl ?_
  refine V_iconst X dX9_workOne_27 ?_
  refine V_iast X ar_99 dX9_workOne_28 hf (fun hf => ?_)
  refine V_iload_n X dX9_workOne_29 rfl rfl ?_
  refine ite_c hf (fun h0 hf => ?_) (fun h0 hf => ?_)
  · refine V_lookup X (off := 230) (tgt := 260) dX9_workOne_30 (by decide) (by exact off_pos h0) (by decide) ?_
    refine V_gload_n X dX9_workOne_260 rfl rfl ?_
    refine V_iload_n X dX9_workOne_261 rfl rfl ?_
    refine V_gload_n X dX9_workOne_262 rfl rfl ?_
    refine V_getr X ob_85 rfl rfl hin_X9 18 (Nat.le_of_ble_eq_true rfl) tw_1334 rfl dX9_workOne_263 ?_
    refine V_iload_n X dX9_workOne_266 rfl rfl ?_
    refine V_iald X ar_99 dX9_workOne_267 hf (fun hf => ?_)
    refine V_i2l X dX9_workOne_268 ?_
    refine V_cVI X hf [vi a1, vl (wr ((up w 99 (wr a1).toNat 0) 99 (wr (w 95 (wr a1).toNat)).toNat))] _ 2 (fun _ h => m_X9_putNumber h) ob_85 rfl tw_1692 tw_95 tw_1689 tw_1691 tw_48 dX9_workOne_269 ⟨by decide +kernel, by decide +kernel, by decide +kernel⟩ ⟨rfl, rfl⟩ ⟨Nat.le_of_ble_eq_true rfl, Nat.le_of_ble_eq_true rfl⟩ rfl (Nat.le_of_ble_eq_true rfl) ⟨Nat.zero_le _, Nat.zero_le _⟩ (fun r1 w1 hf => ?_)
    exact V_iret X hE dX9_workOne_272 hf
  refine ite_c hf (fun h1 hf => ?_) (fun h1 hf => ?_)
  · refine V_lookup X (off := 194) (tgt := 224) dX9_workOne_30 (by decide) (by exact off_neg h0 (off_pos h1)) (by decide) ?_
    refine V_gload_n X dX9_workOne_224 rfl rfl ?_
    refine V_getr X ob_85 rfl rfl hin_X9 18 (Nat.le_of_ble_eq_true rfl) tw_1334 rfl dX9_workOne_225 ?_
    refine V_iload_n X dX9_workOne_228 rfl rfl ?_
    refine V_iald X ar_99 dX9_workOne_229 hf (fun hf => ?_)
    refine V_gload_n X dX9_workOne_230 rfl rfl ?_
    refine V_getr X ob_85 rfl rfl hin_X9 18 (Nat.le_of_ble_eq_true rfl) tw_1334 rfl dX9_workOne_231 ?_
    refine V_iload X dX9_workOne_234 rfl ?_
    refine V_iald X ar_99 dX9_workOne_236 hf (fun hf => ?_)
    refine V_iadd X dX9_workOne_237 ?_
    refine V_bipush X dX9_workOne_238 (by decide) ?_
    refine V_icmp_le X (tgt := 245) dX9_workOne_240 (by decide) hf (fun hf => ?_) (fun hf => ?_)
    · refine V_iconst X dX9_workOne_243 ?_
      exact V_iret X hE dX9_workOne_244 hf
    · refine V_gload_n X dX9_workOne_245 rfl rfl ?_
      refine V_iload_n X dX9_workOne_246 rfl rfl ?_
      refine V_iload_n X dX9_workOne_247 rfl rfl ?_
      refine V_cVV X hf [vi a1, vi (w 95 (wr a1).toNat)] _ 2 (fun _ h => m_X9_append h) ob_85 rfl tw_1688 tw_95 tw_1685 tw_1687 tw_47 dX9_workOne_248 ⟨by decide +kernel, by decide +kernel, by decide +kernel⟩ ⟨rfl, rfl⟩ ⟨Nat.le_of_ble_eq_true rfl, Nat.le_of_ble_eq_true rfl⟩ rfl (Nat.le_of_ble_eq_true rfl) ⟨Nat.zero_le _, Nat.zero_le _⟩ (fun r2 w2 hf => ?_)
      refine V_gload_n X dX9_workOne_251 rfl rfl ?_
      refine V_iload_n X dX9_workOne_252 rfl rfl ?_
      refine V_iload X dX9_workOne_253 rfl ?_
      refine V_cVV X hf [vi a1, vi (w 96 (wr a1).toNat)] _ 2 (fun _ h => m_X9_append h) ob_85 rfl tw_1688 tw_95 tw_1685 tw_1687 tw_47 dX9_workOne_255 ⟨by decide +kernel, by decide +kernel, by decide +kernel⟩ ⟨rfl, rfl⟩ ⟨Nat.le_of_ble_eq_true rfl, Nat.le_of_ble_eq_true rfl⟩ rfl (Nat.le_of_ble_eq_true rfl) ⟨Nat.zero_le _, Nat.zero_le _⟩ (fun r3 w3 hf => ?_)
      refine V_iconst X dX9_workOne_258 ?_
      exact V_iret X hE dX9_workOne_259 hf
  refine ite_c hf (fun h2 hf => ?_) (fun h2 hf => ?_)
  · refine V_lookup X (off := 392) (tgt := 422) dX9_workOne_30 (by decide) (by exact off_neg h0 (off_neg h1 (off_pos h2))) (by decide) ?_
    refine V_gload_n X dX9_workOne_422 rfl rfl ?_
    refine V_iload_n X dX9_workOne_423 rfl rfl ?_
    refine V_iload X dX9_workOne_424 rfl ?_
    refine V_cVI X hf [vi (w 95 (wr a1).toNat), vi (w 96 (wr a1).toNat)] _ 2 (fun _ h => m_X9_isSame h) ob_85 rfl tw_1709 tw_95 tw_1706 tw_1708 tw_51 dX9_workOne_426 ⟨by decide +kernel, by decide +kernel, by decide +kernel⟩ ⟨rfl, rfl⟩ ⟨Nat.le_of_ble_eq_true rfl, Nat.le_of_ble_eq_true rfl⟩ rfl (Nat.le_of_ble_eq_true rfl) ⟨Nat.zero_le _, Nat.zero_le _⟩ (fun r4 w4 hf => ?_)
    refine V_if_eq X (tgt := 436) dX9_workOne_429 (by decide) hf (fun hf => ?_) (fun hf => ?_)
    · refine V_iconst X dX9_workOne_436 ?_
      exact V_iret X hE dX9_workOne_437 hf
    · refine V_iconst X dX9_workOne_432 ?_
      refine V_goto X (tgt := 437) dX9_workOne_433 (by decide) ?_
      exact V_iret X hE dX9_workOne_437 hf
  refine ite_c hf (fun h3 hf => ?_) (fun h3 hf => ?_)
  · refine V_lookup X (off := 310) (tgt := 340) dX9_workOne_30 (by decide) (by exact off_neg h0 (off_neg h1 (off_neg h2 (off_pos h3)))) (by decide) ?_
    refine V_gload_n X dX9_workOne_340 rfl rfl ?_
    refine V_iload X dX9_workOne_341 rfl ?_
    refine V_cVI X hf [vi (w 96 (wr a1).toNat)] _ 1 (fun _ h => m_X9_isNumber h) ob_85 rfl tw_1699 tw_95 tw_1696 tw_1698 tw_49 dX9_workOne_343 ⟨by decide +kernel, by decide +kernel, by decide +kernel⟩ ⟨rfl, rfl⟩ ⟨Nat.le_of_ble_eq_true rfl, Nat.le_of_ble_eq_true rfl⟩ rfl (Nat.le_of_ble_eq_true rfl) ⟨Nat.zero_le _, Nat.zero_le _⟩ (fun r5 w5 hf => ?_)
    refine V_if_eq X (tgt := 365) dX9_workOne_346 (by decide) hf (fun hf => ?_) (fun hf => ?_)
    · refine V_iconst X dX9_workOne_365 ?_
      exact V_iret X hE dX9_workOne_366 hf
    · refine V_gload_n X dX9_workOne_349 rfl rfl ?_
      refine V_iload X dX9_workOne_350 rfl ?_
      refine V_cVL X hf [vi (w 96 (wr a1).toNat)] _ 1 (fun _ h => m_X9_numberOf h) ob_85 rfl tw_1705 tw_95 tw_1702 tw_1704 tw_50 dX9_workOne_352 ⟨by decide +kernel, by decide +kernel, by decide +kernel⟩ ⟨rfl, rfl⟩ ⟨Nat.le_of_ble_eq_true rfl, Nat.le_of_ble_eq_true rfl⟩ rfl (Nat.le_of_ble_eq_true rfl) ⟨Nat.zero_le _, Nat.zero_le _⟩ (fun r6 w6 hf => ?_)
      refine V_lconst (a := 0) X dX9_workOne_355 (by decide) ?_
      refine V_ldc2 (a := 60) X tw_1620 dX9_workOne_356 (by decide) ?_
      refine V_cSI X hf [vl r6, vl 0, vl 60] _ 3 (fun _ h => m_X9_in h) tw_1574 tw_95 tw_1572 tw_1573 dX9_workOne_359 ⟨by decide +kernel, by decide +kernel, by decide +kernel⟩ ⟨rfl, rfl⟩ ⟨Nat.le_of_ble_eq_true rfl, Nat.le_of_ble_eq_true rfl⟩ rfl (Nat.le_of_ble_eq_true rfl) ⟨Nat.zero_le _, Nat.zero_le _⟩ (fun r7 w7 hf => ?_)
      refine V_if_ne X (tgt := 367) dX9_workOne_362 (by decide) hf (fun hf => ?_) (fun hf => ?_)
      · refine V_iconst X dX9_workOne_365 ?_
        exact V_iret X hE dX9_workOne_366 hf
      · refine V_gload_n X dX9_workOne_367 rfl rfl ?_
        refine V_getr X ob_85 rfl rfl hin_X9 18 (Nat.le_of_ble_eq_true rfl) tw_1334 rfl dX9_workOne_368 ?_
        refine V_iload_n X dX9_workOne_371 rfl rfl ?_
        refine V_iald X ar_99 dX9_workOne_372 hf (fun hf => ?_)
        refine V_i2l X dX9_workOne_373 ?_
        refine V_gload_n X dX9_workOne_374 rfl rfl ?_
        refine V_iload X dX9_workOne_375 rfl ?_
        refine V_cVL X hf [vi (w 96 (wr a1).toNat)] _ 1 (fun _ h => m_X9_numberOf h) ob_85 rfl tw_1705 tw_95 tw_1702 tw_1704 tw_50 dX9_workOne_377 ⟨by decide +kernel, by decide +kernel, by decide +kernel⟩ ⟨rfl, rfl⟩ ⟨Nat.le_of_ble_eq_true rfl, Nat.le_of_ble_eq_true rfl⟩ rfl (Nat.le_of_ble_eq_true rfl) ⟨Nat.zero_le _, Nat.zero_le _⟩ (fun r8 w8 hf => ?_)
        refine V_lmul X dX9_workOne_380 ?_
        refine V_ldc2 (a := 60) X tw_1620 dX9_workOne_381 (by decide) ?_
        refine V_lcmp_le X (tgt := 390) (pc2 := 385) dX9_workOne_384 rfl dX9_workOne_385 (by decide) hf (fun hf => ?_) (fun hf => ?_)
        · refine V_iconst X dX9_workOne_388 ?_
          exact V_iret X hE dX9_workOne_389 hf
        · refine V_gload_n X dX9_workOne_390 rfl rfl ?_
          refine V_iload X dX9_workOne_391 rfl ?_
          refine V_cVL X hf [vi (w 96 (wr a1).toNat)] _ 1 (fun _ h => m_X9_numberOf h) ob_85 rfl tw_1705 tw_95 tw_1702 tw_1704 tw_50 dX9_workOne_393 ⟨by decide +kernel, by decide +kernel, by decide +kernel⟩ ⟨rfl, rfl⟩ ⟨Nat.le_of_ble_eq_true rfl, Nat.le_of_ble_eq_true rfl⟩ rfl (Nat.le_of_ble_eq_true rfl) ⟨Nat.zero_le _, Nat.zero_le _⟩ (fun r9 w9 hf => ?_)
          refine V_lstore X dX9_workOne_396 (by decide) ?_
          exact V_cut [0, 1, 3, 5] rfl (v_X9_workOne_398 X hE FU _ _ _ _ hf)
  refine ite_c hf (fun h4 hf => ?_) (fun h4 hf => ?_)
  · refine V_lookup X (off := 243) (tgt := 273) dX9_workOne_30 (by decide) (by exact off_neg h0 (off_neg h1 (off_neg h2 (off_neg h3 (off_pos h4))))) (by decide) ?_
    refine V_gload_n X dX9_workOne_273 rfl rfl ?_
    refine V_getr X ob_85 rfl rfl hin_X9 18 (Nat.le_of_ble_eq_true rfl) tw_1334 rfl dX9_workOne_274 ?_
    refine V_iload_n X dX9_workOne_277 rfl rfl ?_
    refine V_gload_n X dX9_workOne_278 rfl rfl ?_
    refine V_getr X ob_85 rfl rfl hin_X9 18 (Nat.le_of_ble_eq_true rfl) tw_1334 rfl dX9_workOne_279 ?_
    refine V_iload_n X dX9_workOne_282 rfl rfl ?_
    refine V_iald X ar_99 dX9_workOne_283 hf (fun hf => ?_)
    refine V_iast X ar_99 dX9_workOne_284 hf (fun hf => ?_)
    refine V_iconst X dX9_workOne_285 ?_
    refine V_istore X dX9_workOne_286 (by decide) ?_
    exact V_cut [0, 1, 3, 5] rfl (v_X9_workOne_288 X hE FU _ _ _ _ hf)
  refine ite_c hf (fun h5 hf => ?_) (fun h5 hf => ?_)
  · refine V_lookup X (off := 74) (tgt := 104) dX9_workOne_30 (by decide) (by exact off_neg h0 (off_neg h1 (off_neg h2 (off_neg h3 (off_neg h4 (off_pos h5)))))) (by decide) ?_
    refine V_gload_n X dX9_workOne_104 rfl rfl ?_
    refine V_getr X ob_85 rfl rfl hin_X9 18 (Nat.le_of_ble_eq_true rfl) tw_1334 rfl dX9_workOne_105 ?_
    refine V_iload_n X dX9_workOne_108 rfl rfl ?_
    refine V_gload_n X dX9_workOne_109 rfl rfl ?_
    refine V_getr X ob_85 rfl rfl hin_X9 4 (Nat.le_of_ble_eq_true rfl) tw_1320 rfl dX9_workOne_110 ?_
    refine V_iload_n X dX9_workOne_113 rfl rfl ?_
    refine V_iald X ar_88 dX9_workOne_114 hf (fun hf => ?_)
    refine V_iast X ar_99 dX9_workOne_115 hf (fun hf => ?_)
    refine V_iconst X dX9_workOne_116 ?_
    refine V_istore X dX9_workOne_117 (by decide) ?_
    exact V_cut [0, 1, 3, 5] rfl (v_X9_workOne_119 X hE FU _ _ _ _ hf)
  refine ite_c hf (fun h6 hf => ?_) (fun h6 hf => ?_)
  · refine V_lookup X (off := 132) (tgt := 162) dX9_workOne_30 (by decide) (by exact off_neg h0 (off_neg h1 (off_neg h2 (off_neg h3 (off_neg h4 (off_neg h5 (off_pos h6))))))) (by decide) ?_
    refine V_gload_n X dX9_workOne_162 rfl rfl ?_
    refine V_iload_n X dX9_workOne_163 rfl rfl ?_
    refine V_iload_n X dX9_workOne_164 rfl rfl ?_
    refine V_cVV X hf [vi a1, vi (w 95 (wr a1).toNat)] _ 2 (fun _ h => m_X9_takeVariable h) ob_85 rfl tw_1682 tw_95 tw_1679 tw_1681 tw_46 dX9_workOne_165 ⟨by decide +kernel, by decide +kernel, by decide +kernel⟩ ⟨rfl, rfl⟩ ⟨Nat.le_of_ble_eq_true rfl, Nat.le_of_ble_eq_true rfl⟩ rfl (Nat.le_of_ble_eq_true rfl) ⟨Nat.zero_le _, Nat.zero_le _⟩ (fun r11 w11 hf => ?_)
    refine V_iconst X dX9_workOne_168 ?_
    exact V_iret X hE dX9_workOne_169 hf
  refine ite_c hf (fun h7 hf => ?_) (fun h7 hf => ?_)
  · refine V_lookup X (off := 140) (tgt := 170) dX9_workOne_30 (by decide) (by exact off_neg h0 (off_neg h1 (off_neg h2 (off_neg h3 (off_neg h4 (off_neg h5 (off_neg h6 (off_pos h7)))))))) (by decide) ?_
    refine V_gload_n X dX9_workOne_170 rfl rfl ?_
    refine V_getr X ob_85 rfl rfl hin_X9 18 (Nat.le_of_ble_eq_true rfl) tw_1334 rfl dX9_workOne_171 ?_
    refine V_iload_n X dX9_workOne_174 rfl rfl ?_
    refine V_iald X ar_99 dX9_workOne_175 hf (fun hf => ?_)
    refine V_iconst X dX9_workOne_176 ?_
    refine V_icmp_ne X (tgt := 202) dX9_workOne_177 (by decide) hf (fun hf => ?_) (fun hf => ?_)
    · refine V_gload_n X dX9_workOne_180 rfl rfl ?_
      refine V_getr X ob_85 rfl rfl hin_X9 17 (Nat.le_of_ble_eq_true rfl) tw_1333 rfl dX9_workOne_181 ?_
      refine V_bipush X dX9_workOne_184 (by decide) ?_
      refine V_iload_n X dX9_workOne_186 rfl rfl ?_
      refine V_imul X dX9_workOne_187 ?_
      refine V_iald X ar_98 dX9_workOne_188 hf (fun hf => ?_)
      refine V_i2l X dX9_workOne_189 ?_
      refine V_ldc2 (a := 97) X tw_1683 dX9_workOne_190 (by decide) ?_
      refine V_ldc2 (a := 122) X tw_1684 dX9_workOne_193 (by decide) ?_
      refine V_cSI X hf [vl (wr ((up w 99 (wr a1).toNat 0) 98 (wr (60 * (w 95 (wr a1).toNat))).toNat)), vl 97, vl 122] _ 3 (fun _ h => m_X9_in h) tw_1574 tw_95 tw_1572 tw_1573 dX9_workOne_196 ⟨by decide +kernel, by decide +kernel, by decide +kernel⟩ ⟨rfl, rfl⟩ ⟨Nat.le_of_ble_eq_true rfl, Nat.le_of_ble_eq_true rfl⟩ rfl (Nat.le_of_ble_eq_true rfl) ⟨Nat.zero_le _, Nat.zero_le _⟩ (fun r12 w12 hf => ?_)
      refine V_if_ne X (tgt := 205) dX9_workOne_199 (by decide) hf (fun hf => ?_) (fun hf => ?_)
      · refine V_bipush X dX9_workOne_202 (by decide) ?_
        exact V_iret X hE dX9_workOne_204 hf
      · refine V_gload_n X dX9_workOne_205 rfl rfl ?_
        refine V_iload_n X dX9_workOne_206 rfl rfl ?_
        refine V_gload_n X dX9_workOne_207 rfl rfl ?_
        refine V_getr X ob_85 rfl rfl hin_X9 17 (Nat.le_of_ble_eq_true rfl) tw_1333 rfl dX9_workOne_208 ?_
        refine V_bipush X dX9_workOne_211 (by decide) ?_
        refine V_iload_n X dX9_workOne_213 rfl rfl ?_
        refine V_imul X dX9_workOne_214 ?_
        refine V_iald X ar_98 dX9_workOne_215 hf (fun hf => ?_)
        refine V_bipush X dX9_workOne_216 (by decide) ?_
        refine V_isub X dX9_workOne_218 ?_
        refine V_cVV X hf [vi a1, vi ((w12 98 (wr (60 * (w 95 (wr a1).toNat))).toNat) - 97)] _ 2 (fun _ h => m_X9_takeVariable h) ob_85 rfl tw_1682 tw_95 tw_1679 tw_1681 tw_46 dX9_workOne_219 ⟨by decide +kernel, by decide +kernel, by decide +kernel⟩ ⟨rfl, rfl⟩ ⟨Nat.le_of_ble_eq_true rfl, Nat.le_of_ble_eq_true rfl⟩ rfl (Nat.le_of_ble_eq_true rfl) ⟨Nat.zero_le _, Nat.zero_le _⟩ (fun r13 w13 hf => ?_)
        refine V_iconst X dX9_workOne_222 ?_
        exact V_iret X hE dX9_workOne_223 hf
    · refine V_bipush X dX9_workOne_202 (by decide) ?_
      exact V_iret X hE dX9_workOne_204 hf
  refine V_lookup X (off := 408) (tgt := 438) dX9_workOne_30 (by decide) (by exact off_neg h0 (off_neg h1 (off_neg h2 (off_neg h3 (off_neg h4 (off_neg h5 (off_neg h6 (off_neg h7 (rfl))))))))) (by decide) ?_
  refine V_gload_n X dX9_workOne_438 rfl rfl ?_
  refine V_iload_n X dX9_workOne_439 rfl rfl ?_
  refine V_iload_n X dX9_workOne_440 rfl rfl ?_
  refine V_iload_n X dX9_workOne_441 rfl rfl ?_
  refine V_iload X dX9_workOne_442 rfl ?_
  refine V_cVI X hf [vi a1, vi (w 94 (wr a1).toNat), vi (w 95 (wr a1).toNat), vi (w 96 (wr a1).toNat)] _ 4 (fun _ h => m_X9_reckon h) ob_85 rfl tw_1713 tw_95 tw_1710 tw_1712 tw_52 dX9_workOne_444 ⟨by decide +kernel, by decide +kernel, by decide +kernel⟩ ⟨rfl, rfl⟩ ⟨Nat.le_of_ble_eq_true rfl, Nat.le_of_ble_eq_true rfl⟩ rfl (Nat.le_of_ble_eq_true rfl) ⟨Nat.zero_le _, Nat.zero_le _⟩ (fun r14 w14 hf => ?_)
  exact V_iret X hE dX9_workOne_447 hf
abbrev rmX9_workOut : Room := { frames := 4, cells := 0, slots := 0, locals := 103 }
set_option maxRecDepth 20000 in
theorem v_X9_workOut_23 {G : GG} {E : EE} (X : Cx G E cX9_workOut RX9 (some .int) rmX9_workOut 4) {q : (Int × WS)} (hE : EndI G E q)   {k2 : Int → Int → WS → Option (Int × WS)} (hk2 : ∀ (a1 a2 : Int) (w : WS), k2 a1 a2 w = some q → VV G E 0 0 2 [(0, gr G 85), (1, vi a1), (2, vi a2)] [] w) {a1 a2 s0 s1 : Int} {w : WS} (hf : f_X9_workOut_23  k2 a1 a2 s0 s1 w = some q) : VV G E 0 0 23 [(0, gr G 85), (1, vi a1), (2, vi a2)] [vi s0, vi s1, gr G 97] w := by
  unfold f_X9_workOut_23 at hf
  refine V_zast X ar_97 dX9_workOut_23 hf (fun hf => ?_)
  refine V_iinc X dX9_workOut_24 rfl (by decide) ?_
  refine V_goto X (tgt := 2) dX9_workOut_27 (by decide) ?_
  exact V_cut [0, 1, 2] rfl (hk2 _ _ _ hf)
set_option maxRecDepth 20000 in
theorem v_X9_workOut_108 {G : GG} {E : EE} (X : Cx G E cX9_workOut RX9 (some .int) rmX9_workOut 4) {q : (Int × WS)} (hE : EndI G E q)   : ∀ (n : Nat) (a1 a2 a3 : Int) (w : WS), f_X9_workOut_108   n a1 a2 a3 w = some q → VV G E 0 0 108 [(0, gr G 85), (1, vi a1), (2, vi a2), (3, vi a3)] [] w := by
  intro n
  induction n with
  | zero => intro a1 a2 a3 w hf; cases hf
  | succ n ih =>
    intro a1 a2 a3 w hf
    rw [f_X9_workOut_108_s] at hf
    refine V_iload_n X dX9_workOut_108 rfl rfl ?_
    refine V_iload_n X dX9_workOut_109 rfl rfl ?_
    refine V_icmp_gt X (tgt := 142) dX9_workOut_110 (by decide) hf (fun hf => ?_) (fun hf => ?_)
    · refine V_iload_n X dX9_workOut_142 rfl rfl ?_
      exact V_iret X hE dX9_workOut_143 hf
    · refine V_iload_n X dX9_workOut_113 rfl rfl ?_
      refine V_if_ne X (tgt := 142) dX9_workOut_114 (by decide) hf (fun hf => ?_) (fun hf => ?_)
      · refine V_gload_n X dX9_workOut_117 rfl rfl ?_
        refine V_getr X ob_85 rfl rfl hin_X9 16 (Nat.le_of_ble_eq_true rfl) tw_1332 rfl dX9_workOut_118 ?_
        refine V_iload_n X dX9_workOut_121 rfl rfl ?_
        refine V_zald X ar_97 dX9_workOut_122 hf (fun hf => ?_)
        refine V_if_eq X (tgt := 134) dX9_workOut_123 (by decide) hf (fun hf => ?_) (fun hf => ?_)
        · refine V_iconst X dX9_workOut_134 ?_
          refine V_istore_n X dX9_workOut_135 rfl (by decide) ?_
          refine V_iinc X dX9_workOut_136 rfl (by decide) ?_
          refine V_goto X (tgt := 108) dX9_workOut_139 (by decide) ?_
          exact V_cut [0, 1, 2, 3] rfl (ih _ _ _ _ hf)
        · refine V_gload_n X dX9_workOut_126 rfl rfl ?_
          refine V_iload_n X dX9_workOut_127 rfl rfl ?_
          refine V_cVI X hf [vi a3] _ 1 (fun _ h => m_X9_workOne h) ob_85 rfl tw_1678 tw_95 tw_1675 tw_1677 tw_45 dX9_workOut_128 ⟨by decide +kernel, by decide +kernel, by decide +kernel⟩ ⟨rfl, rfl⟩ ⟨Nat.le_of_ble_eq_true rfl, Nat.le_of_ble_eq_true rfl⟩ rfl (Nat.le_of_ble_eq_true rfl) ⟨Nat.zero_le _, Nat.zero_le _⟩ (fun r1 w1 hf => ?_)
          refine V_goto X (tgt := 135) dX9_workOut_131 (by decide) ?_
          refine V_istore_n X dX9_workOut_135 rfl (by decide) ?_
          refine V_iinc X dX9_workOut_136 rfl (by decide) ?_
          refine V_goto X (tgt := 108) dX9_workOut_139 (by decide) ?_
          exact V_cut [0, 1, 2, 3] rfl (ih _ _ _ _ hf)
      · refine V_iload_n X dX9_workOut_142 rfl rfl ?_
        exact V_iret X hE dX9_workOut_143 hf
set_option maxRecDepth 20000 in
theorem v_X9_workOut_96 {G : GG} {E : EE} (X : Cx G E cX9_workOut RX9 (some .int) rmX9_workOut 4) {q : (Int × WS)} (hE : EndI G E q)   {k32 : Int → Int → WS → Option (Int × WS)} (hk32 : ∀ (a1 a2 : Int) (w : WS), k32 a1 a2 w = some q → VV G E 0 0 32 [(0, gr G 85), (1, vi a1), (2, vi a2)] [] w) {a1 a2 s0 : Int} {w : WS} (hf : f_X9_workOut_96  k32 a1 a2 s0 w = some q) : VV G E 0 0 96 [(0, gr G 85), (1, vi a1), (2, vi a2)] [vi s0, gr G 97] w := by
  unfold f_X9_workOut_96 at hf
  refine V_iconst X dX9_workOut_96 ?_
  refine V_zast X ar_97 dX9_workOut_97 hf (fun hf => ?_)
  refine V_iinc X dX9_workOut_98 rfl (by decide) ?_
  refine V_goto X (tgt := 32) dX9_workOut_101 (by decide) ?_
  exact V_cut [0, 1, 2] rfl (hk32 _ _ _ hf)
set_option maxRecDepth 20000 in
theorem v_X9_workOut_32 {G : GG} {E : EE} (X : Cx G E cX9_workOut RX9 (some .int) rmX9_workOut 4) {q : (Int × WS)} (hE : EndI G E q)   : ∀ (n : Nat) (a1 a2 : Int) (w : WS), f_X9_workOut_32   n a1 a2 w = some q → VV G E 0 0 32 [(0, gr G 85), (1, vi a1), (2, vi a2)] [] w := by
  intro n
  induction n with
  | zero => intro a1 a2 w hf; cases hf
  | succ n ih =>
    intro a1 a2 w hf
    rw [f_X9_workOut_32_s] at hf
    refine V_iload_n X dX9_workOut_32 rfl rfl ?_
    refine V_if_lt X (tgt := 104) dX9_workOut_33 (by decide) hf (fun hf => ?_) (fun hf => ?_)
    · refine V_iconst X dX9_workOut_104 ?_
      refine V_istore_n X dX9_workOut_105 rfl (by decide) ?_
      refine V_iconst X dX9_workOut_106 ?_
      refine V_istore_n X dX9_workOut_107 rfl (by decide) ?_
      exact V_cut [0, 1, 2, 3] rfl (v_X9_workOut_108 X hE FU _ _ _ _ hf)
    · refine V_gload_n X dX9_workOut_36 rfl rfl ?_
      refine V_getr X ob_85 rfl rfl hin_X9 12 (Nat.le_of_ble_eq_true rfl) tw_1328 rfl dX9_workOut_37 ?_
      refine V_iload_n X dX9_workOut_40 rfl rfl ?_
      refine V_cald X ar_94 dX9_workOut_41 hf (fun hf => ?_)
      refine V_cSI X hf [vi (w 94 (wr a2).toNat)] _ 1 (fun _ h => m_X9_termSort h) tw_1627 tw_95 tw_1625 tw_1626 dX9_workOut_42 ⟨by decide +kernel, by decide +kernel, by decide +kernel⟩ ⟨rfl, rfl⟩ ⟨Nat.le_of_ble_eq_true rfl, Nat.le_of_ble_eq_true rfl⟩ rfl (Nat.le_of_ble_eq_true rfl) ⟨Nat.zero_le _, Nat.zero_le _⟩ (fun r2 w2 hf => ?_)
      refine V_istore_n X dX9_workOut_45 rfl (by decide) ?_
      refine V_gload_n X dX9_workOut_46 rfl rfl ?_
      refine V_getr X ob_85 rfl rfl hin_X9 16 (Nat.le_of_ble_eq_true rfl) tw_1332 rfl dX9_workOut_47 ?_
      refine V_iload_n X dX9_workOut_50 rfl rfl ?_
      refine V_zald X ar_97 dX9_workOut_51 hf (fun hf => ?_)
      refine V_if_eq X (tgt := 98) dX9_workOut_52 (by decide) hf (fun hf => ?_) (fun hf => ?_)
      · refine V_iinc X dX9_workOut_98 rfl (by decide) ?_
        refine V_goto X (tgt := 32) dX9_workOut_101 (by decide) ?_
        exact V_cut [0, 1, 2] rfl (ih _ _ _ hf)
      · refine V_iload_n X dX9_workOut_55 rfl rfl ?_
        refine V_iconst X dX9_workOut_56 ?_
        refine V_icmp_le X (tgt := 98) dX9_workOut_57 (by decide) hf (fun hf => ?_) (fun hf => ?_)
        · refine V_gload_n X dX9_workOut_60 rfl rfl ?_
          refine V_getr X ob_85 rfl rfl hin_X9 16 (Nat.le_of_ble_eq_true rfl) tw_1332 rfl dX9_workOut_61 ?_
          refine V_gload_n X dX9_workOut_64 rfl rfl ?_
          refine V_getr X ob_85 rfl rfl hin_X9 13 (Nat.le_of_ble_eq_true rfl) tw_1329 rfl dX9_workOut_65 ?_
          refine V_iload_n X dX9_workOut_68 rfl rfl ?_
          refine V_iald X ar_95 dX9_workOut_69 hf (fun hf => ?_)
          refine V_iconst X dX9_workOut_70 ?_
          refine V_zast X ar_97 dX9_workOut_71 hf (fun hf => ?_)
          refine V_gload_n X dX9_workOut_72 rfl rfl ?_
          refine V_getr X ob_85 rfl rfl hin_X9 16 (Nat.le_of_ble_eq_true rfl) tw_1332 rfl dX9_workOut_73 ?_
          refine V_iload_n X dX9_workOut_76 rfl rfl ?_
          refine V_iconst X dX9_workOut_77 ?_
          refine V_icmp_ne X (tgt := 90) dX9_workOut_78 (by decide) hf (fun hf => ?_) (fun hf => ?_)
          · refine V_gload_n X dX9_workOut_81 rfl rfl ?_
            refine V_getr X ob_85 rfl rfl hin_X9 14 (Nat.le_of_ble_eq_true rfl) tw_1330 rfl dX9_workOut_82 ?_
            refine V_iload_n X dX9_workOut_85 rfl rfl ?_
            refine V_iald X ar_96 dX9_workOut_86 hf (fun hf => ?_)
            refine V_goto X (tgt := 96) dX9_workOut_87 (by decide) ?_
            exact V_cut [0, 1, 2] rfl (v_X9_workOut_96 X hE (fun x0 x1 x hf => ih x0 x1 x hf) hf)
          · refine V_gload_n X dX9_workOut_90 rfl rfl ?_
            refine V_getr X ob_85 rfl rfl hin_X9 13 (Nat.le_of_ble_eq_true rfl) tw_1329 rfl dX9_workOut_91 ?_
            refine V_iload_n X dX9_workOut_94 rfl rfl ?_
            refine V_iald X ar_95 dX9_workOut_95 hf (fun hf => ?_)
            exact V_cut [0, 1, 2] rfl (v_X9_workOut_96 X hE (fun x0 x1 x hf => ih x0 x1 x hf) hf)
        · refine V_iinc X dX9_workOut_98 rfl (by decide) ?_
          refine V_goto X (tgt := 32) dX9_workOut_101 (by decide) ?_
          exact V_cut [0, 1, 2] rfl (ih _ _ _ hf)
set_option maxRecDepth 20000 in
theorem v_X9_workOut_2 {G : GG} {E : EE} (X : Cx G E cX9_workOut RX9 (some .int) rmX9_workOut 4) {q : (Int × WS)} (hE : EndI G E q)   : ∀ (n : Nat) (a1 a2 : Int) (w : WS), f_X9_workOut_2   n a1 a2 w = some q → VV G E 0 0 2 [(0, gr G 85), (1, vi a1), (2, vi a2)] [] w := by
  intro n
  induction n with
  | zero => intro a1 a2 w hf; cases hf
  | succ n ih =>
    intro a1 a2 w hf
    rw [f_X9_workOut_2_s] at hf
    refine V_iload_n X dX9_workOut_2 rfl rfl ?_
    refine V_bipush X dX9_workOut_3 (by decide) ?_
    refine V_icmp_ge X (tgt := 30) dX9_workOut_5 (by decide) hf (fun hf => ?_) (fun hf => ?_)
    · refine V_gload_n X dX9_workOut_8 rfl rfl ?_
      refine V_getr X ob_85 rfl rfl hin_X9 16 (Nat.le_of_ble_eq_true rfl) tw_1332 rfl dX9_workOut_9 ?_
      refine V_iload_n X dX9_workOut_12 rfl rfl ?_
      refine V_iload_n X dX9_workOut_13 rfl rfl ?_
      refine V_iload_n X dX9_workOut_14 rfl rfl ?_
      refine V_icmp_ne X (tgt := 22) dX9_workOut_15 (by decide) hf (fun hf => ?_) (fun hf => ?_)
      · refine V_iconst X dX9_workOut_18 ?_
        refine V_goto X (tgt := 23) dX9_workOut_19 (by decide) ?_
        exact V_cut [0, 1, 2] rfl (v_X9_workOut_23 X hE (fun x0 x1 x hf => ih x0 x1 x hf) hf)
      · refine V_iconst X dX9_workOut_22 ?_
        exact V_cut [0, 1, 2] rfl (v_X9_workOut_23 X hE (fun x0 x1 x hf => ih x0 x1 x hf) hf)
    · refine V_iload_n X dX9_workOut_30 rfl rfl ?_
      refine V_istore_n X dX9_workOut_31 rfl (by decide) ?_
      exact V_cut [0, 1, 2] rfl (v_X9_workOut_32 X hE FU _ _ _ hf)
set_option maxRecDepth 20000 in
theorem m_X9_workOut {G : GG} {a1 : Int} {w : WS} {q : (Int × WS)}  (hf : f_X9_workOut a1 w = some q) : MI G yX9_workOut cX9_workOut 4 (some .int) rmX9_workOut [gr G 85, vi a1] w q := by
  refine MI_of (by decide +kernel) (Nat.le_of_ble_eq_true rfl) (fun E X hE => ?_)
  have X : Cx G E cX9_workOut RX9 (some .int) rmX9_workOut 4 := X
  unfold f_X9_workOut at hf
  refine V_iconst X dX9_workOut_0 ?_
  refine V_istore_n X dX9_workOut_1 rfl (by decide) ?_
  exact V_cut [0, 1, 2] rfl (v_X9_workOut_2 X hE FU _ _ _ hf)
abbrev rmX9_addGoal : Room := { frames := 0, cells := 0, slots := 0, locals := 0 }
set_option maxRecDepth 20000 in
theorem m_X9_addGoal {G : GG} {a1 : Int} {a2 : Int} {a3 : Int} {a4 : Int} {w : WS} {q : (Int × WS)}  (hf : f_X9_addGoal a1 a2 a3 a4 w = some q) : MI G yX9_addGoal cX9_addGoal 5 (some .int) rmX9_addGoal [gr G 85, vi a1, vi a2, vi a3, vi a4] w q := by
  refine MI_of (by decide +kernel) (Nat.le_of_ble_eq_true rfl) (fun E X hE => ?_)
  have X : Cx G E cX9_addGoal RX9 (some .int) rmX9_addGoal 5 := X
  unfold f_X9_addGoal at hf
  refine V_gload_n X dX9_addGoal_0 rfl rfl ?_
  refine V_getr X ob_85 rfl rfl hin_X9 23 (Nat.le_of_ble_eq_true rfl) tw_1339 rfl dX9_addGoal_1 ?_
  refine V_gload_n X dX9_addGoal_4 rfl rfl ?_
  refine V_geti X ob_85 rfl rfl hin_X9 27 (Nat.le_of_ble_eq_true rfl) tw_1343 rfl dX9_addGoal_5 ?_
  refine V_iload_n X dX9_addGoal_8 rfl rfl ?_
  refine V_iast X ar_101 dX9_addGoal_9 hf (fun hf => ?_)
  refine V_gload_n X dX9_addGoal_10 rfl rfl ?_
  refine V_getr X ob_85 rfl rfl hin_X9 24 (Nat.le_of_ble_eq_true rfl) tw_1340 rfl dX9_addGoal_11 ?_
  refine V_gload_n X dX9_addGoal_14 rfl rfl ?_
  refine V_geti X ob_85 rfl rfl hin_X9 27 (Nat.le_of_ble_eq_true rfl) tw_1343 rfl dX9_addGoal_15 ?_
  refine V_iload_n X dX9_addGoal_18 rfl rfl ?_
  refine V_iast X ar_102 dX9_addGoal_19 hf (fun hf => ?_)
  refine V_gload_n X dX9_addGoal_20 rfl rfl ?_
  refine V_getr X ob_85 rfl rfl hin_X9 25 (Nat.le_of_ble_eq_true rfl) tw_1341 rfl dX9_addGoal_21 ?_
  refine V_gload_n X dX9_addGoal_24 rfl rfl ?_
  refine V_geti X ob_85 rfl rfl hin_X9 27 (Nat.le_of_ble_eq_true rfl) tw_1343 rfl dX9_addGoal_25 ?_
  refine V_iload_n X dX9_addGoal_28 rfl rfl ?_
  refine V_iast X ar_103 dX9_addGoal_29 hf (fun hf => ?_)
  refine V_gload_n X dX9_addGoal_30 rfl rfl ?_
  refine V_getr X ob_85 rfl rfl hin_X9 26 (Nat.le_of_ble_eq_true rfl) tw_1342 rfl dX9_addGoal_31 ?_
  refine V_gload_n X dX9_addGoal_34 rfl rfl ?_
  refine V_geti X ob_85 rfl rfl hin_X9 27 (Nat.le_of_ble_eq_true rfl) tw_1343 rfl dX9_addGoal_35 ?_
  refine V_iload X dX9_addGoal_38 rfl ?_
  refine V_iast X ar_104 dX9_addGoal_40 hf (fun hf => ?_)
  refine V_gload_n X dX9_addGoal_41 rfl rfl ?_
  refine V_dup X dX9_addGoal_42 rfl ?_
  refine V_geti X ob_85 rfl rfl hin_X9 27 (Nat.le_of_ble_eq_true rfl) tw_1343 rfl dX9_addGoal_43 ?_
  refine V_iconst X dX9_addGoal_46 ?_
  refine V_iadd X dX9_addGoal_47 ?_
  refine V_puti X ob_85 rfl rfl hin_X9 27 (Nat.le_of_ble_eq_true rfl) tw_1343 tyX9 tyX9_ok nmX9 rfl (by decide +kernel) rfl dX9_addGoal_48 ?_
  refine V_gload_n X dX9_addGoal_51 rfl rfl ?_
  refine V_geti X ob_85 rfl rfl hin_X9 27 (Nat.le_of_ble_eq_true rfl) tw_1343 rfl dX9_addGoal_52 ?_
  refine V_iconst X dX9_addGoal_55 ?_
  refine V_isub X dX9_addGoal_56 ?_
  exact V_iret X hE dX9_addGoal_57 hf
abbrev rmX9_addChoice : Room := { frames := 0, cells := 0, slots := 0, locals := 0 }
set_option maxRecDepth 20000 in
theorem m_X9_addChoice {G : GG} {a1 : Int} {a2 : Int} {a3 : Int} {a4 : Int} {w : WS} {q : (Int × WS)}  (hf : f_X9_addChoice a1 a2 a3 a4 w = some q) : MV G yX9_addChoice cX9_addChoice 5 none rmX9_addChoice [gr G 85, vi a1, vi a2, vi a3, vi a4] w q := by
  refine MV_of (by decide +kernel) (Nat.le_of_ble_eq_true rfl) (fun E X hE => ?_)
  have X : Cx G E cX9_addChoice RX9 none rmX9_addChoice 5 := X
  unfold f_X9_addChoice at hf
  refine V_gload_n X dX9_addChoice_0 rfl rfl ?_
  refine V_getr X ob_85 rfl rfl hin_X9 28 (Nat.le_of_ble_eq_true rfl) tw_1344 rfl dX9_addChoice_1 ?_
  refine V_gload_n X dX9_addChoice_4 rfl rfl ?_
  refine V_geti X ob_85 rfl rfl hin_X9 34 (Nat.le_of_ble_eq_true rfl) tw_1350 rfl dX9_addChoice_5 ?_
  refine V_iload_n X dX9_addChoice_8 rfl rfl ?_
  refine V_iast X ar_105 dX9_addChoice_9 hf (fun hf => ?_)
  refine V_gload_n X dX9_addChoice_10 rfl rfl ?_
  refine V_getr X ob_85 rfl rfl hin_X9 29 (Nat.le_of_ble_eq_true rfl) tw_1345 rfl dX9_addChoice_11 ?_
  refine V_gload_n X dX9_addChoice_14 rfl rfl ?_
  refine V_geti X ob_85 rfl rfl hin_X9 34 (Nat.le_of_ble_eq_true rfl) tw_1350 rfl dX9_addChoice_15 ?_
  refine V_iload_n X dX9_addChoice_18 rfl rfl ?_
  refine V_iast X ar_106 dX9_addChoice_19 hf (fun hf => ?_)
  refine V_gload_n X dX9_addChoice_20 rfl rfl ?_
  refine V_getr X ob_85 rfl rfl hin_X9 30 (Nat.le_of_ble_eq_true rfl) tw_1346 rfl dX9_addChoice_21 ?_
  refine V_gload_n X dX9_addChoice_24 rfl rfl ?_
  refine V_geti X ob_85 rfl rfl hin_X9 34 (Nat.le_of_ble_eq_true rfl) tw_1350 rfl dX9_addChoice_25 ?_
  refine V_iload_n X dX9_addChoice_28 rfl rfl ?_
  refine V_iast X ar_107 dX9_addChoice_29 hf (fun hf => ?_)
  refine V_gload_n X dX9_addChoice_30 rfl rfl ?_
  refine V_getr X ob_85 rfl rfl hin_X9 31 (Nat.le_of_ble_eq_true rfl) tw_1347 rfl dX9_addChoice_31 ?_
  refine V_gload_n X dX9_addChoice_34 rfl rfl ?_
  refine V_geti X ob_85 rfl rfl hin_X9 34 (Nat.le_of_ble_eq_true rfl) tw_1350 rfl dX9_addChoice_35 ?_
  refine V_iload X dX9_addChoice_38 rfl ?_
  refine V_iast X ar_108 dX9_addChoice_40 hf (fun hf => ?_)
  refine V_gload_n X dX9_addChoice_41 rfl rfl ?_
  refine V_getr X ob_85 rfl rfl hin_X9 32 (Nat.le_of_ble_eq_true rfl) tw_1348 rfl dX9_addChoice_42 ?_
  refine V_gload_n X dX9_addChoice_45 rfl rfl ?_
  refine V_geti X ob_85 rfl rfl hin_X9 34 (Nat.le_of_ble_eq_true rfl) tw_1350 rfl dX9_addChoice_46 ?_
  refine V_gload_n X dX9_addChoice_49 rfl rfl ?_
  refine V_geti X ob_85 rfl rfl hin_X9 38 (Nat.le_of_ble_eq_true rfl) tw_1354 rfl dX9_addChoice_50 ?_
  refine V_iast X ar_109 dX9_addChoice_53 hf (fun hf => ?_)
  refine V_gload_n X dX9_addChoice_54 rfl rfl ?_
  refine V_getr X ob_85 rfl rfl hin_X9 33 (Nat.le_of_ble_eq_true rfl) tw_1349 rfl dX9_addChoice_55 ?_
  refine V_gload_n X dX9_addChoice_58 rfl rfl ?_
  refine V_geti X ob_85 rfl rfl hin_X9 34 (Nat.le_of_ble_eq_true rfl) tw_1350 rfl dX9_addChoice_59 ?_
  refine V_gload_n X dX9_addChoice_62 rfl rfl ?_
  refine V_geti X ob_85 rfl rfl hin_X9 27 (Nat.le_of_ble_eq_true rfl) tw_1343 rfl dX9_addChoice_63 ?_
  refine V_iast X ar_110 dX9_addChoice_66 hf (fun hf => ?_)
  refine V_gload_n X dX9_addChoice_67 rfl rfl ?_
  refine V_dup X dX9_addChoice_68 rfl ?_
  refine V_geti X ob_85 rfl rfl hin_X9 34 (Nat.le_of_ble_eq_true rfl) tw_1350 rfl dX9_addChoice_69 ?_
  refine V_iconst X dX9_addChoice_72 ?_
  refine V_iadd X dX9_addChoice_73 ?_
  refine V_puti X ob_85 rfl rfl hin_X9 34 (Nat.le_of_ble_eq_true rfl) tw_1350 tyX9 tyX9_ok nmX9 rfl (by decide +kernel) rfl dX9_addChoice_74 ?_
  exact V_vret X hE dX9_addChoice_77 hf
abbrev rmX9_isIn : Room := { frames := 0, cells := 0, slots := 0, locals := 0 }
set_option maxRecDepth 20000 in
theorem v_X9_isIn_36 {G : GG} {E : EE} (X : Cx G E cX9_isIn RX9 (some .boolean) rmX9_isIn 5) {q : (Int × WS)} (hE : EndI G E q)   {k5 : Int → Int → Int → Int → WS → Option (Int × WS)} (hk5 : ∀ (a1 a2 a3 a4 : Int) (w : WS), k5 a1 a2 a3 a4 w = some q → VV G E 0 0 5 [(0, gr G 85), (1, vi a1), (2, vi a2), (3, vi a3), (4, vi a4)] [] w) {a1 a2 a4 : Int} {w : WS} (hf : f_X9_isIn_36  k5 a1 a2 a4 w = some q) : VV G E 0 0 36 [(0, gr G 85), (1, vi a1), (2, vi a2), (4, vi a4)] [] w := by
  unfold f_X9_isIn_36 at hf
  refine V_iconst X dX9_isIn_36 ?_
  refine V_goto X (tgt := 41) dX9_isIn_37 (by decide) ?_
  refine V_istore_n X dX9_isIn_41 rfl (by decide) ?_
  refine V_iinc X dX9_isIn_42 rfl (by decide) ?_
  refine V_goto X (tgt := 5) dX9_isIn_45 (by decide) ?_
  exact V_cut [0, 1, 2, 3, 4] rfl (hk5 _ _ _ _ _ hf)
set_option maxRecDepth 20000 in
theorem v_X9_isIn_5 {G : GG} {E : EE} (X : Cx G E cX9_isIn RX9 (some .boolean) rmX9_isIn 5) {q : (Int × WS)} (hE : EndI G E q)   : ∀ (n : Nat) (a1 a2 a3 a4 : Int) (w : WS), f_X9_isIn_5   n a1 a2 a3 a4 w = some q → VV G E 0 0 5 [(0, gr G 85), (1, vi a1), (2, vi a2), (3, vi a3), (4, vi a4)] [] w := by
  intro n
  induction n with
  | zero => intro a1 a2 a3 a4 w hf; cases hf
  | succ n ih =>
    intro a1 a2 a3 a4 w hf
    rw [f_X9_isIn_5_s] at hf
    refine V_iload X dX9_isIn_5 rfl ?_
    refine V_gload_n X dX9_isIn_7 rfl rfl ?_
    refine V_getr X ob_85 rfl rfl hin_X9 4 (Nat.le_of_ble_eq_true rfl) tw_1320 rfl dX9_isIn_8 ?_
    refine V_iload_n X dX9_isIn_11 rfl rfl ?_
    refine V_iald X ar_88 dX9_isIn_12 hf (fun hf => ?_)
    refine V_icmp_ge X (tgt := 48) dX9_isIn_13 (by decide) hf (fun hf => ?_) (fun hf => ?_)
    · refine V_iload_n X dX9_isIn_16 rfl rfl ?_
      refine V_if_ne X (tgt := 36) dX9_isIn_17 (by decide) hf (fun hf => ?_) (fun hf => ?_)
      · refine V_gload_n X dX9_isIn_20 rfl rfl ?_
        refine V_getr X ob_85 rfl rfl hin_X9 3 (Nat.le_of_ble_eq_true rfl) tw_1319 rfl dX9_isIn_21 ?_
        refine V_bipush X dX9_isIn_24 (by decide) ?_
        refine V_iload_n X dX9_isIn_26 rfl rfl ?_
        refine V_imul X dX9_isIn_27 ?_
        refine V_iload X dX9_isIn_28 rfl ?_
        refine V_iadd X dX9_isIn_30 ?_
        refine V_iald X ar_87 dX9_isIn_31 hf (fun hf => ?_)
        refine V_iload_n X dX9_isIn_32 rfl rfl ?_
        refine V_icmp_ne X (tgt := 40) dX9_isIn_33 (by decide) hf (fun hf => ?_) (fun hf => ?_)
        · exact V_cut [0, 1, 2, 4] rfl (v_X9_isIn_36 X hE (fun x0 x1 x2 x3 x hf => ih x0 x1 x2 x3 x hf) hf)
        · refine V_iconst X dX9_isIn_40 ?_
          refine V_istore_n X dX9_isIn_41 rfl (by decide) ?_
          refine V_iinc X dX9_isIn_42 rfl (by decide) ?_
          refine V_goto X (tgt := 5) dX9_isIn_45 (by decide) ?_
          exact V_cut [0, 1, 2, 3, 4] rfl (ih _ _ _ _ _ hf)
      · exact V_cut [0, 1, 2, 4] rfl (v_X9_isIn_36 X hE (fun x0 x1 x2 x3 x hf => ih x0 x1 x2 x3 x hf) hf)
    · refine V_iload_n X dX9_isIn_48 rfl rfl ?_
      obtain ⟨hz, hf⟩ := ite_n hf
      exact V_zret X hE dX9_isIn_49 hz hf
set_option maxRecDepth 20000 in
theorem m_X9_isIn {G : GG} {a1 : Int} {a2 : Int} {w : WS} {q : (Int × WS)}  (hf : f_X9_isIn a1 a2 w = some q) : MI G yX9_isIn cX9_isIn 5 (some .boolean) rmX9_isIn [gr G 85, vi a1, vi a2] w q := by
  refine MI_of (by decide +kernel) (Nat.le_of_ble_eq_true rfl) (fun E X hE => ?_)
  have X : Cx G E cX9_isIn RX9 (some .boolean) rmX9_isIn 5 := X
  unfold f_X9_isIn at hf
  refine V_iconst X dX9_isIn_0 ?_
  refine V_istore_n X dX9_isIn_1 rfl (by decide) ?_
  refine V_iconst X dX9_isIn_2 ?_
  refine V_istore X dX9_isIn_3 (by decide) ?_
  exact V_cut [0, 1, 2, 3, 4] rfl (v_X9_isIn_5 X hE FU _ _ _ _ _ hf)
abbrev rmX9_assign : Room := { frames := 0, cells := 0, slots := 0, locals := 0 }
set_option maxRecDepth 20000 in
theorem v_X9_assign_3 {G : GG} {E : EE} (X : Cx G E cX9_assign RX9 none rmX9_assign 5) {q : (Int × WS)} (hE : EndV G E q)   : ∀ (n : Nat) (a1 a2 a3 a4 : Int) (w : WS), f_X9_assign_3   n a1 a2 a3 a4 w = some q → VV G E 0 0 3 [(0, gr G 85), (1, vi a1), (2, vi a2), (3, vi a3), (4, vi a4)] [] w := by
  intro n
  induction n with
  | zero => intro a1 a2 a3 a4 w hf; cases hf
  | succ n ih =>
    intro a1 a2 a3 a4 w hf
    rw [f_X9_assign_3_s] at hf
    refine V_iload X dX9_assign_3 rfl ?_
    refine V_iload_n X dX9_assign_5 rfl rfl ?_
    refine V_icmp_ge X (tgt := 36) dX9_assign_6 (by decide) hf (fun hf => ?_) (fun hf => ?_)
    · refine V_gload_n X dX9_assign_9 rfl rfl ?_
      refine V_getr X ob_85 rfl rfl hin_X9 6 (Nat.le_of_ble_eq_true rfl) tw_1322 rfl dX9_assign_10 ?_
      refine V_bipush X dX9_assign_13 (by decide) ?_
      refine V_iload_n X dX9_assign_15 rfl rfl ?_
      refine V_imul X dX9_assign_16 ?_
      refine V_iload X dX9_assign_17 rfl ?_
      refine V_iadd X dX9_assign_19 ?_
      refine V_iload_n X dX9_assign_20 rfl rfl ?_
      refine V_isub X dX9_assign_21 ?_
      refine V_gload_n X dX9_assign_22 rfl rfl ?_
      refine V_getr X ob_85 rfl rfl hin_X9 19 (Nat.le_of_ble_eq_true rfl) tw_1335 rfl dX9_assign_23 ?_
      refine V_iload X dX9_assign_26 rfl ?_
      refine V_iald X ar_100 dX9_assign_28 hf (fun hf => ?_)
      refine V_iast X ar_89 dX9_assign_29 hf (fun hf => ?_)
      refine V_iinc X dX9_assign_30 rfl (by decide) ?_
      refine V_goto X (tgt := 3) dX9_assign_33 (by decide) ?_
      exact V_cut [0, 1, 2, 3, 4] rfl (ih _ _ _ _ _ hf)
    · refine V_gload_n X dX9_assign_36 rfl rfl ?_
      refine V_getr X ob_85 rfl rfl hin_X9 7 (Nat.le_of_ble_eq_true rfl) tw_1323 rfl dX9_assign_37 ?_
      refine V_iload_n X dX9_assign_40 rfl rfl ?_
      refine V_iload_n X dX9_assign_41 rfl rfl ?_
      refine V_iload_n X dX9_assign_42 rfl rfl ?_
      refine V_isub X dX9_assign_43 ?_
      refine V_iast X ar_90 dX9_assign_44 hf (fun hf => ?_)
      exact V_vret X hE dX9_assign_45 hf
set_option maxRecDepth 20000 in
theorem m_X9_assign {G : GG} {a1 : Int} {a2 : Int} {a3 : Int} {w : WS} {q : (Int × WS)}  (hf : f_X9_assign a1 a2 a3 w = some q) : MV G yX9_assign cX9_assign 5 none rmX9_assign [gr G 85, vi a1, vi a2, vi a3] w q := by
  refine MV_of (by decide +kernel) (Nat.le_of_ble_eq_true rfl) (fun E X hE => ?_)
  have X : Cx G E cX9_assign RX9 none rmX9_assign 5 := X
  unfold f_X9_assign at hf
  refine V_iload_n X dX9_assign_0 rfl rfl ?_
  refine V_istore X dX9_assign_1 (by decide) ?_
  exact V_cut [0, 1, 2, 3, 4] rfl (v_X9_assign_3 X hE FU _ _ _ _ _ hf)
abbrev rmX9_assignCursor : Room := { frames := 0, cells := 0, slots := 0, locals := 0 }
set_option maxRecDepth 20000 in
theorem v_X9_assignCursor_53 {G : GG} {E : EE} (X : Cx G E cX9_assignCursor RX9 none rmX9_assignCursor 2) {q : (Int × WS)} (hE : EndV G E q)   {a1 s0 s1 s2 : Int} {w : WS} (hf : f_X9_assignCursor_53   a1 s0 s1 s2 w = some q) : VV G E 0 0 53 [(0, gr G 85), (1, vi a1)] [vi s0, vi s1, vi s2, gr G 89] w := by
  unfold f_X9_assignCursor_53 at hf
  refine V_iadd X dX9_assignCursor_53 ?_
  refine V_iast X ar_89 dX9_assignCursor_54 hf (fun hf => ?_)
  refine V_gload_n X dX9_assignCursor_55 rfl rfl ?_
  refine V_getr X ob_85 rfl rfl hin_X9 6 (Nat.le_of_ble_eq_true rfl) tw_1322 rfl dX9_assignCursor_56 ?_
  refine V_bipush X dX9_assignCursor_59 (by decide) ?_
  refine V_iload_n X dX9_assignCursor_61 rfl rfl ?_
  refine V_imul X dX9_assignCursor_62 ?_
  refine V_iconst X dX9_assignCursor_63 ?_
  refine V_iadd X dX9_assignCursor_64 ?_
  refine V_bipush X dX9_assignCursor_65 (by decide) ?_
  refine V_gload_n X dX9_assignCursor_67 rfl rfl ?_
  refine V_geti X ob_85 rfl rfl hin_X9 39 (Nat.le_of_ble_eq_true rfl) tw_1355 rfl dX9_assignCursor_68 ?_
  refine V_bipush X dX9_assignCursor_71 (by decide) ?_
  obtain ⟨hne, hf⟩ := ite_n hf
  refine V_irem X dX9_assignCursor_73 hne ?_
  refine V_iadd X dX9_assignCursor_74 ?_
  refine V_iast X ar_89 dX9_assignCursor_75 hf (fun hf => ?_)
  exact V_vret X hE dX9_assignCursor_76 hf
set_option maxRecDepth 20000 in
theorem v_X9_assignCursor_19 {G : GG} {E : EE} (X : Cx G E cX9_assignCursor RX9 none rmX9_assignCursor 2) {q : (Int × WS)} (hE : EndV G E q)   {a1 s0 s1 : Int} {w : WS} (hf : f_X9_assignCursor_19   a1 s0 s1 w = some q) : VV G E 0 0 19 [(0, gr G 85), (1, vi a1)] [vi s0, vi s1, gr G 90] w := by
  unfold f_X9_assignCursor_19 at hf
  refine V_iast X ar_90 dX9_assignCursor_19 hf (fun hf => ?_)
  refine V_gload_n X dX9_assignCursor_20 rfl rfl ?_
  refine V_getr X ob_85 rfl rfl hin_X9 6 (Nat.le_of_ble_eq_true rfl) tw_1322 rfl dX9_assignCursor_21 ?_
  refine V_bipush X dX9_assignCursor_24 (by decide) ?_
  refine V_iload_n X dX9_assignCursor_26 rfl rfl ?_
  refine V_imul X dX9_assignCursor_27 ?_
  refine V_bipush X dX9_assignCursor_28 (by decide) ?_
  refine V_gload_n X dX9_assignCursor_30 rfl rfl ?_
  refine V_geti X ob_85 rfl rfl hin_X9 39 (Nat.le_of_ble_eq_true rfl) tw_1355 rfl dX9_assignCursor_31 ?_
  refine V_bipush X dX9_assignCursor_34 (by decide) ?_
  refine V_icmp_le X (tgt := 49) dX9_assignCursor_36 (by decide) hf (fun hf => ?_) (fun hf => ?_)
  · refine V_gload_n X dX9_assignCursor_39 rfl rfl ?_
    refine V_geti X ob_85 rfl rfl hin_X9 39 (Nat.le_of_ble_eq_true rfl) tw_1355 rfl dX9_assignCursor_40 ?_
    refine V_bipush X dX9_assignCursor_43 (by decide) ?_
    obtain ⟨hne, hf⟩ := ite_n hf
    refine V_idiv X dX9_assignCursor_45 hne ?_
    refine V_goto X (tgt := 53) dX9_assignCursor_46 (by decide) ?_
    exact V_cut [0, 1] rfl (v_X9_assignCursor_53 X hE hf)
  · refine V_gload_n X dX9_assignCursor_49 rfl rfl ?_
    refine V_geti X ob_85 rfl rfl hin_X9 39 (Nat.le_of_ble_eq_true rfl) tw_1355 rfl dX9_assignCursor_50 ?_
    exact V_cut [0, 1] rfl (v_X9_assignCursor_53 X hE hf)
set_option maxRecDepth 20000 in
theorem m_X9_assignCursor {G : GG} {a1 : Int} {w : WS} {q : (Int × WS)}  (hf : f_X9_assignCursor a1 w = some q) : MV G yX9_assignCursor cX9_assignCursor 2 none rmX9_assignCursor [gr G 85, vi a1] w q := by
  refine MV_of (by decide +kernel) (Nat.le_of_ble_eq_true rfl) (fun E X hE => ?_)
  have X : Cx G E cX9_assignCursor RX9 none rmX9_assignCursor 2 := X
  unfold f_X9_assignCursor at hf
  refine V_gload_n X dX9_assignCursor_0 rfl rfl ?_
  refine V_getr X ob_85 rfl rfl hin_X9 7 (Nat.le_of_ble_eq_true rfl) tw_1323 rfl dX9_assignCursor_1 ?_
  refine V_iload_n X dX9_assignCursor_4 rfl rfl ?_
  refine V_gload_n X dX9_assignCursor_5 rfl rfl ?_
  refine V_geti X ob_85 rfl rfl hin_X9 39 (Nat.le_of_ble_eq_true rfl) tw_1355 rfl dX9_assignCursor_6 ?_
  refine V_bipush X dX9_assignCursor_9 (by decide) ?_
  refine V_icmp_le X (tgt := 18) dX9_assignCursor_11 (by decide) hf (fun hf => ?_) (fun hf => ?_)
  · refine V_iconst X dX9_assignCursor_14 ?_
    refine V_goto X (tgt := 19) dX9_assignCursor_15 (by decide) ?_
    exact V_cut [0, 1] rfl (v_X9_assignCursor_19 X hE hf)
  · refine V_iconst X dX9_assignCursor_18 ?_
    exact V_cut [0, 1] rfl (v_X9_assignCursor_19 X hE hf)
abbrev rmX9_textTakes : Room := { frames := 0, cells := 0, slots := 0, locals := 0 }
set_option maxRecDepth 20000 in
theorem v_X9_textTakes_77 {G : GG} {E : EE} (X : Cx G E cX9_textTakes RX9 (some .int) rmX9_textTakes 4) {q : (Int × WS)} (hE : EndI G E q)   {a1 a2 : Int} {w : WS} (hf : f_X9_textTakes_77   a1 a2 w = some q) : VV G E 0 0 77 [(0, gr G 85), (1, vi a1), (2, vi a2)] [] w := by
  unfold f_X9_textTakes_77 at hf
  refine V_iload_n X dX9_textTakes_77 rfl rfl ?_
  refine V_if_eq X (tgt := 90) dX9_textTakes_78 (by decide) hf (fun hf => ?_) (fun hf => ?_)
  · refine V_iconst X dX9_textTakes_90 ?_
    exact V_iret X hE dX9_textTakes_91 hf
  · refine V_gload_n X dX9_textTakes_81 rfl rfl ?_
    refine V_getr X ob_85 rfl rfl hin_X9 4 (Nat.le_of_ble_eq_true rfl) tw_1320 rfl dX9_textTakes_82 ?_
    refine V_iload_n X dX9_textTakes_85 rfl rfl ?_
    refine V_iald X ar_88 dX9_textTakes_86 hf (fun hf => ?_)
    refine V_goto X (tgt := 91) dX9_textTakes_87 (by decide) ?_
    exact V_iret X hE dX9_textTakes_91 hf
set_option maxRecDepth 20000 in
theorem v_X9_textTakes_26 {G : GG} {E : EE} (X : Cx G E cX9_textTakes RX9 (some .int) rmX9_textTakes 4) {q : (Int × WS)} (hE : EndI G E q)   : ∀ (n : Nat) (a1 a2 a3 : Int) (w : WS), f_X9_textTakes_26   n a1 a2 a3 w = some q → VV G E 0 0 26 [(0, gr G 85), (1, vi a1), (2, vi a2), (3, vi a3)] [] w := by
  intro n
  induction n with
  | zero => intro a1 a2 a3 w hf; cases hf
  | succ n ih =>
    intro a1 a2 a3 w hf
    rw [f_X9_textTakes_26_s] at hf
    refine V_iload_n X dX9_textTakes_26 rfl rfl ?_
    refine V_gload_n X dX9_textTakes_27 rfl rfl ?_
    refine V_getr X ob_85 rfl rfl hin_X9 4 (Nat.le_of_ble_eq_true rfl) tw_1320 rfl dX9_textTakes_28 ?_
    refine V_iload_n X dX9_textTakes_31 rfl rfl ?_
    refine V_iald X ar_88 dX9_textTakes_32 hf (fun hf => ?_)
    refine V_icmp_ge X (tgt := 77) dX9_textTakes_33 (by decide) hf (fun hf => ?_) (fun hf => ?_)
    · refine V_iload_n X dX9_textTakes_36 rfl rfl ?_
      refine V_if_eq X (tgt := 77) dX9_textTakes_37 (by decide) hf (fun hf => ?_) (fun hf => ?_)
      · exact V_cut [0, 1, 2] rfl (v_X9_textTakes_77 X hE hf)
      · refine V_gload_n X dX9_textTakes_40 rfl rfl ?_
        refine V_getr X ob_85 rfl rfl hin_X9 19 (Nat.le_of_ble_eq_true rfl) tw_1335 rfl dX9_textTakes_41 ?_
        refine V_gload_n X dX9_textTakes_44 rfl rfl ?_
        refine V_geti X ob_85 rfl rfl hin_X9 39 (Nat.le_of_ble_eq_true rfl) tw_1355 rfl dX9_textTakes_45 ?_
        refine V_iload_n X dX9_textTakes_48 rfl rfl ?_
        refine V_iadd X dX9_textTakes_49 ?_
        refine V_iald X ar_100 dX9_textTakes_50 hf (fun hf => ?_)
        refine V_gload_n X dX9_textTakes_51 rfl rfl ?_
        refine V_getr X ob_85 rfl rfl hin_X9 3 (Nat.le_of_ble_eq_true rfl) tw_1319 rfl dX9_textTakes_52 ?_
        refine V_bipush X dX9_textTakes_55 (by decide) ?_
        refine V_iload_n X dX9_textTakes_57 rfl rfl ?_
        refine V_imul X dX9_textTakes_58 ?_
        refine V_iload_n X dX9_textTakes_59 rfl rfl ?_
        refine V_iadd X dX9_textTakes_60 ?_
        refine V_iald X ar_87 dX9_textTakes_61 hf (fun hf => ?_)
        refine V_icmp_ne X (tgt := 69) dX9_textTakes_62 (by decide) hf (fun hf => ?_) (fun hf => ?_)
        · refine V_iconst X dX9_textTakes_65 ?_
          refine V_goto X (tgt := 70) dX9_textTakes_66 (by decide) ?_
          refine V_istore_n X dX9_textTakes_70 rfl (by decide) ?_
          refine V_iinc X dX9_textTakes_71 rfl (by decide) ?_
          refine V_goto X (tgt := 26) dX9_textTakes_74 (by decide) ?_
          exact V_cut [0, 1, 2, 3] rfl (ih _ _ _ _ hf)
        · refine V_iconst X dX9_textTakes_69 ?_
          refine V_istore_n X dX9_textTakes_70 rfl (by decide) ?_
          refine V_iinc X dX9_textTakes_71 rfl (by decide) ?_
          refine V_goto X (tgt := 26) dX9_textTakes_74 (by decide) ?_
          exact V_cut [0, 1, 2, 3] rfl (ih _ _ _ _ hf)
    · exact V_cut [0, 1, 2] rfl (v_X9_textTakes_77 X hE hf)
set_option maxRecDepth 20000 in
theorem m_X9_textTakes {G : GG} {a1 : Int} {w : WS} {q : (Int × WS)}  (hf : f_X9_textTakes a1 w = some q) : MI G yX9_textTakes cX9_textTakes 4 (some .int) rmX9_textTakes [gr G 85, vi a1] w q := by
  refine MI_of (by decide +kernel) (Nat.le_of_ble_eq_true rfl) (fun E X hE => ?_)
  have X : Cx G E cX9_textTakes RX9 (some .int) rmX9_textTakes 4 := X
  unfold f_X9_textTakes at hf
  refine V_gload_n X dX9_textTakes_0 rfl rfl ?_
  refine V_geti X ob_85 rfl rfl hin_X9 39 (Nat.le_of_ble_eq_true rfl) tw_1355 rfl dX9_textTakes_1 ?_
  refine V_gload_n X dX9_textTakes_4 rfl rfl ?_
  refine V_getr X ob_85 rfl rfl hin_X9 4 (Nat.le_of_ble_eq_true rfl) tw_1320 rfl dX9_textTakes_5 ?_
  refine V_iload_n X dX9_textTakes_8 rfl rfl ?_
  refine V_iald X ar_88 dX9_textTakes_9 hf (fun hf => ?_)
  refine V_iadd X dX9_textTakes_10 ?_
  refine V_gload_n X dX9_textTakes_11 rfl rfl ?_
  refine V_geti X ob_85 rfl rfl hin_X9 20 (Nat.le_of_ble_eq_true rfl) tw_1336 rfl dX9_textTakes_12 ?_
  refine V_icmp_gt X (tgt := 22) dX9_textTakes_15 (by decide) hf (fun hf => ?_) (fun hf => ?_)
  · refine V_iconst X dX9_textTakes_22 ?_
    refine V_istore_n X dX9_textTakes_23 rfl (by decide) ?_
    refine V_iconst X dX9_textTakes_24 ?_
    refine V_istore_n X dX9_textTakes_25 rfl (by decide) ?_
    exact V_cut [0, 1, 2, 3] rfl (v_X9_textTakes_26 X hE FU _ _ _ _ hf)
  · refine V_iconst X dX9_textTakes_18 ?_
    refine V_goto X (tgt := 23) dX9_textTakes_19 (by decide) ?_
    refine V_istore_n X dX9_textTakes_23 rfl (by decide) ?_
    refine V_iconst X dX9_textTakes_24 ?_
    refine V_istore_n X dX9_textTakes_25 rfl (by decide) ?_
    exact V_cut [0, 1, 2, 3] rfl (v_X9_textTakes_26 X hE FU _ _ _ _ hf)
abbrev rmX9_valueTakes : Room := { frames := 0, cells := 0, slots := 0, locals := 0 }
set_option maxRecDepth 20000 in
theorem v_X9_valueTakes_77 {G : GG} {E : EE} (X : Cx G E cX9_valueTakes RX9 (some .int) rmX9_valueTakes 4) {q : (Int × WS)} (hE : EndI G E q)   {a1 a2 : Int} {w : WS} (hf : f_X9_valueTakes_77   a1 a2 w = some q) : VV G E 0 0 77 [(0, gr G 85), (1, vi a1), (2, vi a2)] [] w := by
  unfold f_X9_valueTakes_77 at hf
  refine V_iload_n X dX9_valueTakes_77 rfl rfl ?_
  refine V_if_eq X (tgt := 90) dX9_valueTakes_78 (by decide) hf (fun hf => ?_) (fun hf => ?_)
  · refine V_iconst X dX9_valueTakes_90 ?_
    exact V_iret X hE dX9_valueTakes_91 hf
  · refine V_gload_n X dX9_valueTakes_81 rfl rfl ?_
    refine V_getr X ob_85 rfl rfl hin_X9 7 (Nat.le_of_ble_eq_true rfl) tw_1323 rfl dX9_valueTakes_82 ?_
    refine V_iload_n X dX9_valueTakes_85 rfl rfl ?_
    refine V_iald X ar_90 dX9_valueTakes_86 hf (fun hf => ?_)
    refine V_goto X (tgt := 91) dX9_valueTakes_87 (by decide) ?_
    exact V_iret X hE dX9_valueTakes_91 hf
set_option maxRecDepth 20000 in
theorem v_X9_valueTakes_26 {G : GG} {E : EE} (X : Cx G E cX9_valueTakes RX9 (some .int) rmX9_valueTakes 4) {q : (Int × WS)} (hE : EndI G E q)   : ∀ (n : Nat) (a1 a2 a3 : Int) (w : WS), f_X9_valueTakes_26   n a1 a2 a3 w = some q → VV G E 0 0 26 [(0, gr G 85), (1, vi a1), (2, vi a2), (3, vi a3)] [] w := by
  intro n
  induction n with
  | zero => intro a1 a2 a3 w hf; cases hf
  | succ n ih =>
    intro a1 a2 a3 w hf
    rw [f_X9_valueTakes_26_s] at hf
    refine V_iload_n X dX9_valueTakes_26 rfl rfl ?_
    refine V_gload_n X dX9_valueTakes_27 rfl rfl ?_
    refine V_getr X ob_85 rfl rfl hin_X9 7 (Nat.le_of_ble_eq_true rfl) tw_1323 rfl dX9_valueTakes_28 ?_
    refine V_iload_n X dX9_valueTakes_31 rfl rfl ?_
    refine V_iald X ar_90 dX9_valueTakes_32 hf (fun hf => ?_)
    refine V_icmp_ge X (tgt := 77) dX9_valueTakes_33 (by decide) hf (fun hf => ?_) (fun hf => ?_)
    · refine V_iload_n X dX9_valueTakes_36 rfl rfl ?_
      refine V_if_eq X (tgt := 77) dX9_valueTakes_37 (by decide) hf (fun hf => ?_) (fun hf => ?_)
      · exact V_cut [0, 1, 2] rfl (v_X9_valueTakes_77 X hE hf)
      · refine V_gload_n X dX9_valueTakes_40 rfl rfl ?_
        refine V_getr X ob_85 rfl rfl hin_X9 19 (Nat.le_of_ble_eq_true rfl) tw_1335 rfl dX9_valueTakes_41 ?_
        refine V_gload_n X dX9_valueTakes_44 rfl rfl ?_
        refine V_geti X ob_85 rfl rfl hin_X9 39 (Nat.le_of_ble_eq_true rfl) tw_1355 rfl dX9_valueTakes_45 ?_
        refine V_iload_n X dX9_valueTakes_48 rfl rfl ?_
        refine V_iadd X dX9_valueTakes_49 ?_
        refine V_iald X ar_100 dX9_valueTakes_50 hf (fun hf => ?_)
        refine V_gload_n X dX9_valueTakes_51 rfl rfl ?_
        refine V_getr X ob_85 rfl rfl hin_X9 6 (Nat.le_of_ble_eq_true rfl) tw_1322 rfl dX9_valueTakes_52 ?_
        refine V_bipush X dX9_valueTakes_55 (by decide) ?_
        refine V_iload_n X dX9_valueTakes_57 rfl rfl ?_
        refine V_imul X dX9_valueTakes_58 ?_
        refine V_iload_n X dX9_valueTakes_59 rfl rfl ?_
        refine V_iadd X dX9_valueTakes_60 ?_
        refine V_iald X ar_89 dX9_valueTakes_61 hf (fun hf => ?_)
        refine V_icmp_ne X (tgt := 69) dX9_valueTakes_62 (by decide) hf (fun hf => ?_) (fun hf => ?_)
        · refine V_iconst X dX9_valueTakes_65 ?_
          refine V_goto X (tgt := 70) dX9_valueTakes_66 (by decide) ?_
          refine V_istore_n X dX9_valueTakes_70 rfl (by decide) ?_
          refine V_iinc X dX9_valueTakes_71 rfl (by decide) ?_
          refine V_goto X (tgt := 26) dX9_valueTakes_74 (by decide) ?_
          exact V_cut [0, 1, 2, 3] rfl (ih _ _ _ _ hf)
        · refine V_iconst X dX9_valueTakes_69 ?_
          refine V_istore_n X dX9_valueTakes_70 rfl (by decide) ?_
          refine V_iinc X dX9_valueTakes_71 rfl (by decide) ?_
          refine V_goto X (tgt := 26) dX9_valueTakes_74 (by decide) ?_
          exact V_cut [0, 1, 2, 3] rfl (ih _ _ _ _ hf)
    · exact V_cut [0, 1, 2] rfl (v_X9_valueTakes_77 X hE hf)
set_option maxRecDepth 20000 in
theorem m_X9_valueTakes {G : GG} {a1 : Int} {w : WS} {q : (Int × WS)}  (hf : f_X9_valueTakes a1 w = some q) : MI G yX9_valueTakes cX9_valueTakes 4 (some .int) rmX9_valueTakes [gr G 85, vi a1] w q := by
  refine MI_of (by decide +kernel) (Nat.le_of_ble_eq_true rfl) (fun E X hE => ?_)
  have X : Cx G E cX9_valueTakes RX9 (some .int) rmX9_valueTakes 4 := X
  unfold f_X9_valueTakes at hf
  refine V_gload_n X dX9_valueTakes_0 rfl rfl ?_
  refine V_geti X ob_85 rfl rfl hin_X9 39 (Nat.le_of_ble_eq_true rfl) tw_1355 rfl dX9_valueTakes_1 ?_
  refine V_gload_n X dX9_valueTakes_4 rfl rfl ?_
  refine V_getr X ob_85 rfl rfl hin_X9 7 (Nat.le_of_ble_eq_true rfl) tw_1323 rfl dX9_valueTakes_5 ?_
  refine V_iload_n X dX9_valueTakes_8 rfl rfl ?_
  refine V_iald X ar_90 dX9_valueTakes_9 hf (fun hf => ?_)
  refine V_iadd X dX9_valueTakes_10 ?_
  refine V_gload_n X dX9_valueTakes_11 rfl rfl ?_
  refine V_geti X ob_85 rfl rfl hin_X9 20 (Nat.le_of_ble_eq_true rfl) tw_1336 rfl dX9_valueTakes_12 ?_
  refine V_icmp_gt X (tgt := 22) dX9_valueTakes_15 (by decide) hf (fun hf => ?_) (fun hf => ?_)
  · refine V_iconst X dX9_valueTakes_22 ?_
    refine V_istore_n X dX9_valueTakes_23 rfl (by decide) ?_
    refine V_iconst X dX9_valueTakes_24 ?_
    refine V_istore_n X dX9_valueTakes_25 rfl (by decide) ?_
    exact V_cut [0, 1, 2, 3] rfl (v_X9_valueTakes_26 X hE FU _ _ _ _ hf)
  · refine V_iconst X dX9_valueTakes_18 ?_
    refine V_goto X (tgt := 23) dX9_valueTakes_19 (by decide) ?_
    refine V_istore_n X dX9_valueTakes_23 rfl (by decide) ?_
    refine V_iconst X dX9_valueTakes_24 ?_
    refine V_istore_n X dX9_valueTakes_25 rfl (by decide) ?_
    exact V_cut [0, 1, 2, 3] rfl (v_X9_valueTakes_26 X hE FU _ _ _ _ hf)
abbrev rmX9_balanced : Room := { frames := 0, cells := 0, slots := 0, locals := 0 }
set_option maxRecDepth 20000 in
theorem v_X9_balanced_52 {G : GG} {E : EE} (X : Cx G E cX9_balanced RX9 (some .int) rmX9_balanced 5) {q : (Int × WS)} (hE : EndI G E q)   {k5 : Int → Int → Int → Int → WS → Option (Int × WS)} (hk5 : ∀ (a1 a2 a3 a4 : Int) (w : WS), k5 a1 a2 a3 a4 w = some q → VV G E 0 0 5 [(0, gr G 85), (1, vi a1), (2, vi a2), (3, vi a3), (4, vi a4)] [] w) {a1 a2 a4 s0 s1 : Int} {w : WS} (hf : f_X9_balanced_52  k5 a1 a2 a4 s0 s1 w = some q) : VV G E 0 0 52 [(0, gr G 85), (1, vi a1), (2, vi a2), (4, vi a4)] [vi s0, vi s1] w := by
  unfold f_X9_balanced_52 at hf
  refine V_iadd X dX9_balanced_52 ?_
  refine V_istore_n X dX9_balanced_53 rfl (by decide) ?_
  refine V_iload_n X dX9_balanced_54 rfl rfl ?_
  refine V_if_ne X (tgt := 73) dX9_balanced_55 (by decide) hf (fun hf => ?_) (fun hf => ?_)
  · refine V_iload X dX9_balanced_58 rfl ?_
    refine V_iconst X dX9_balanced_60 ?_
    refine V_iadd X dX9_balanced_61 ?_
    refine V_iload_n X dX9_balanced_62 rfl rfl ?_
    refine V_isub X dX9_balanced_63 ?_
    refine V_iload_n X dX9_balanced_64 rfl rfl ?_
    refine V_icmp_le X (tgt := 73) dX9_balanced_65 (by decide) hf (fun hf => ?_) (fun hf => ?_)
    · refine V_iload X dX9_balanced_68 rfl ?_
      refine V_iconst X dX9_balanced_70 ?_
      refine V_iadd X dX9_balanced_71 ?_
      exact V_iret X hE dX9_balanced_72 hf
    · refine V_iinc X dX9_balanced_73 rfl (by decide) ?_
      refine V_goto X (tgt := 5) dX9_balanced_76 (by decide) ?_
      exact V_cut [0, 1, 2, 3, 4] rfl (hk5 _ _ _ _ _ hf)
  · refine V_iinc X dX9_balanced_73 rfl (by decide) ?_
    refine V_goto X (tgt := 5) dX9_balanced_76 (by decide) ?_
    exact V_cut [0, 1, 2, 3, 4] rfl (hk5 _ _ _ _ _ hf)
set_option maxRecDepth 20000 in
theorem v_X9_balanced_5 {G : GG} {E : EE} (X : Cx G E cX9_balanced RX9 (some .int) rmX9_balanced 5) {q : (Int × WS)} (hE : EndI G E q)   : ∀ (n : Nat) (a1 a2 a3 a4 : Int) (w : WS), f_X9_balanced_5   n a1 a2 a3 a4 w = some q → VV G E 0 0 5 [(0, gr G 85), (1, vi a1), (2, vi a2), (3, vi a3), (4, vi a4)] [] w := by
  intro n
  induction n with
  | zero => intro a1 a2 a3 a4 w hf; cases hf
  | succ n ih =>
    intro a1 a2 a3 a4 w hf
    rw [f_X9_balanced_5_s] at hf
    refine V_iload X dX9_balanced_5 rfl ?_
    refine V_gload_n X dX9_balanced_7 rfl rfl ?_
    refine V_geti X ob_85 rfl rfl hin_X9 20 (Nat.le_of_ble_eq_true rfl) tw_1336 rfl dX9_balanced_8 ?_
    refine V_icmp_ge X (tgt := 79) dX9_balanced_11 (by decide) hf (fun hf => ?_) (fun hf => ?_)
    · refine V_iload_n X dX9_balanced_14 rfl rfl ?_
      refine V_if_lt X (tgt := 79) dX9_balanced_15 (by decide) hf (fun hf => ?_) (fun hf => ?_)
      · refine V_iconst X dX9_balanced_79 ?_
        exact V_iret X hE dX9_balanced_80 hf
      · refine V_iload_n X dX9_balanced_18 rfl rfl ?_
        refine V_gload_n X dX9_balanced_19 rfl rfl ?_
        refine V_getr X ob_85 rfl rfl hin_X9 19 (Nat.le_of_ble_eq_true rfl) tw_1335 rfl dX9_balanced_20 ?_
        refine V_iload X dX9_balanced_23 rfl ?_
        refine V_iald X ar_100 dX9_balanced_25 hf (fun hf => ?_)
        refine V_bipush X dX9_balanced_26 (by decide) ?_
        refine V_icmp_ne X (tgt := 35) dX9_balanced_28 (by decide) hf (fun hf => ?_) (fun hf => ?_)
        · refine V_iconst X dX9_balanced_31 ?_
          refine V_goto X (tgt := 52) dX9_balanced_32 (by decide) ?_
          exact V_cut [0, 1, 2, 4] rfl (v_X9_balanced_52 X hE (fun x0 x1 x2 x3 x hf => ih x0 x1 x2 x3 x hf) hf)
        · refine V_gload_n X dX9_balanced_35 rfl rfl ?_
          refine V_getr X ob_85 rfl rfl hin_X9 19 (Nat.le_of_ble_eq_true rfl) tw_1335 rfl dX9_balanced_36 ?_
          refine V_iload X dX9_balanced_39 rfl ?_
          refine V_iald X ar_100 dX9_balanced_41 hf (fun hf => ?_)
          refine V_bipush X dX9_balanced_42 (by decide) ?_
          refine V_icmp_ne X (tgt := 51) dX9_balanced_44 (by decide) hf (fun hf => ?_) (fun hf => ?_)
          · refine V_iconst X dX9_balanced_47 ?_
            refine V_goto X (tgt := 52) dX9_balanced_48 (by decide) ?_
            exact V_cut [0, 1, 2, 4] rfl (v_X9_balanced_52 X hE (fun x0 x1 x2 x3 x hf => ih x0 x1 x2 x3 x hf) hf)
          · refine V_iconst X dX9_balanced_51 ?_
            exact V_cut [0, 1, 2, 4] rfl (v_X9_balanced_52 X hE (fun x0 x1 x2 x3 x hf => ih x0 x1 x2 x3 x hf) hf)
    · refine V_iconst X dX9_balanced_79 ?_
      exact V_iret X hE dX9_balanced_80 hf
set_option maxRecDepth 20000 in
theorem m_X9_balanced {G : GG} {a1 : Int} {a2 : Int} {w : WS} {q : (Int × WS)}  (hf : f_X9_balanced a1 a2 w = some q) : MI G yX9_balanced cX9_balanced 5 (some .int) rmX9_balanced [gr G 85, vi a1, vi a2] w q := by
  refine MI_of (by decide +kernel) (Nat.le_of_ble_eq_true rfl) (fun E X hE => ?_)
  have X : Cx G E cX9_balanced RX9 (some .int) rmX9_balanced 5 := X
  unfold f_X9_balanced at hf
  refine V_iconst X dX9_balanced_0 ?_
  refine V_istore_n X dX9_balanced_1 rfl (by decide) ?_
  refine V_iload_n X dX9_balanced_2 rfl rfl ?_
  refine V_istore X dX9_balanced_3 (by decide) ?_
  exact V_cut [0, 1, 2, 3, 4] rfl (v_X9_balanced_5 X hE FU _ _ _ _ _ hf)
abbrev rmX9_takes : Room := { frames := 1, cells := 0, slots := 0, locals := 25 }
set_option maxRecDepth 20000 in
theorem v_X9_takes_274 {G : GG} {E : EE} (X : Cx G E cX9_takes RX9 (some .int) rmX9_takes 4) {q : (Int × WS)} (hE : EndI G E q)   {a3 : Int} {w : WS} (hf : f_X9_takes_274   a3 w = some q) : VV G E 0 0 274 [(0, gr G 85), (3, vi a3)] [] w := by
  unfold f_X9_takes_274 at hf
  refine V_gload_n X dX9_takes_274 rfl rfl ?_
  refine V_geti X ob_85 rfl rfl hin_X9 39 (Nat.le_of_ble_eq_true rfl) tw_1355 rfl dX9_takes_275 ?_
  refine V_iload_n X dX9_takes_278 rfl rfl ?_
  refine V_iadd X dX9_takes_279 ?_
  refine V_gload_n X dX9_takes_280 rfl rfl ?_
  refine V_geti X ob_85 rfl rfl hin_X9 20 (Nat.le_of_ble_eq_true rfl) tw_1336 rfl dX9_takes_281 ?_
  refine V_icmp_ne X (tgt := 291) dX9_takes_284 (by decide) hf (fun hf => ?_) (fun hf => ?_)
  · refine V_iconst X dX9_takes_287 ?_
    refine V_goto X (tgt := 292) dX9_takes_288 (by decide) ?_
    exact V_iret X hE dX9_takes_292 hf
  · refine V_iload_n X dX9_takes_291 rfl rfl ?_
    exact V_iret X hE dX9_takes_292 hf
set_option maxRecDepth 20000 in
theorem v_X9_takes_236 {G : GG} {E : EE} (X : Cx G E cX9_takes RX9 (some .int) rmX9_takes 4) {q : (Int × WS)} (hE : EndI G E q)   : ∀ (n : Nat) (a2 a3 : Int) (w : WS), f_X9_takes_236   n a2 a3 w = some q → VV G E 0 0 236 [(0, gr G 85), (2, vi a2), (3, vi a3)] [] w := by
  intro n
  induction n with
  | zero => intro a2 a3 w hf; cases hf
  | succ n ih =>
    intro a2 a3 w hf
    rw [f_X9_takes_236_s] at hf
    refine V_gload_n X dX9_takes_236 rfl rfl ?_
    refine V_geti X ob_85 rfl rfl hin_X9 39 (Nat.le_of_ble_eq_true rfl) tw_1355 rfl dX9_takes_237 ?_
    refine V_iload_n X dX9_takes_240 rfl rfl ?_
    refine V_iadd X dX9_takes_241 ?_
    refine V_gload_n X dX9_takes_242 rfl rfl ?_
    refine V_geti X ob_85 rfl rfl hin_X9 20 (Nat.le_of_ble_eq_true rfl) tw_1336 rfl dX9_takes_243 ?_
    refine V_icmp_ge X (tgt := 274) dX9_takes_246 (by decide) hf (fun hf => ?_) (fun hf => ?_)
    · refine V_gload_n X dX9_takes_249 rfl rfl ?_
      refine V_gload_n X dX9_takes_250 rfl rfl ?_
      refine V_getr X ob_85 rfl rfl hin_X9 19 (Nat.le_of_ble_eq_true rfl) tw_1335 rfl dX9_takes_251 ?_
      refine V_gload_n X dX9_takes_254 rfl rfl ?_
      refine V_geti X ob_85 rfl rfl hin_X9 39 (Nat.le_of_ble_eq_true rfl) tw_1355 rfl dX9_takes_255 ?_
      refine V_iload_n X dX9_takes_258 rfl rfl ?_
      refine V_iadd X dX9_takes_259 ?_
      refine V_iald X ar_100 dX9_takes_260 hf (fun hf => ?_)
      refine V_iload_n X dX9_takes_261 rfl rfl ?_
      refine V_cVI X hf [vi (w 100 (wr ((w 85 39) + a3)).toNat), vi a2] _ 2 (fun _ h => m_X9_isIn h) ob_85 rfl tw_1785 tw_95 tw_1782 tw_1784 tw_70 dX9_takes_262 ⟨by decide +kernel, by decide +kernel, by decide +kernel⟩ ⟨rfl, rfl⟩ ⟨Nat.le_of_ble_eq_true rfl, Nat.le_of_ble_eq_true rfl⟩ rfl (Nat.le_of_ble_eq_true rfl) ⟨Nat.zero_le _, Nat.zero_le _⟩ (fun r1 w1 hf => ?_)
      refine V_if_ne X (tgt := 274) dX9_takes_265 (by decide) hf (fun hf => ?_) (fun hf => ?_)
      · refine V_iinc X dX9_takes_268 rfl (by decide) ?_
        refine V_goto X (tgt := 236) dX9_takes_271 (by decide) ?_
        exact V_cut [0, 2, 3] rfl (ih _ _ _ hf)
      · exact V_cut [0, 3] rfl (v_X9_takes_274 X hE hf)
    · exact V_cut [0, 3] rfl (v_X9_takes_274 X hE hf)
set_option maxRecDepth 20000 in
theorem v_X9_takes_226 {G : GG} {E : EE} (X : Cx G E cX9_takes RX9 (some .int) rmX9_takes 4) {q : (Int × WS)} (hE : EndI G E q)   {a3 : Int} {w : WS} (hf : f_X9_takes_226   a3 w = some q) : VV G E 0 0 226 [(3, vi a3)] [] w := by
  unfold f_X9_takes_226 at hf
  refine V_iload_n X dX9_takes_226 rfl rfl ?_
  refine V_if_ne X (tgt := 234) dX9_takes_227 (by decide) hf (fun hf => ?_) (fun hf => ?_)
  · refine V_iconst X dX9_takes_230 ?_
    refine V_goto X (tgt := 235) dX9_takes_231 (by decide) ?_
    exact V_iret X hE dX9_takes_235 hf
  · refine V_iload_n X dX9_takes_234 rfl rfl ?_
    exact V_iret X hE dX9_takes_235 hf
set_option maxRecDepth 20000 in
theorem v_X9_takes_188 {G : GG} {E : EE} (X : Cx G E cX9_takes RX9 (some .int) rmX9_takes 4) {q : (Int × WS)} (hE : EndI G E q)   : ∀ (n : Nat) (a2 a3 : Int) (w : WS), f_X9_takes_188   n a2 a3 w = some q → VV G E 0 0 188 [(0, gr G 85), (2, vi a2), (3, vi a3)] [] w := by
  intro n
  induction n with
  | zero => intro a2 a3 w hf; cases hf
  | succ n ih =>
    intro a2 a3 w hf
    rw [f_X9_takes_188_s] at hf
    refine V_gload_n X dX9_takes_188 rfl rfl ?_
    refine V_geti X ob_85 rfl rfl hin_X9 39 (Nat.le_of_ble_eq_true rfl) tw_1355 rfl dX9_takes_189 ?_
    refine V_iload_n X dX9_takes_192 rfl rfl ?_
    refine V_iadd X dX9_takes_193 ?_
    refine V_gload_n X dX9_takes_194 rfl rfl ?_
    refine V_geti X ob_85 rfl rfl hin_X9 20 (Nat.le_of_ble_eq_true rfl) tw_1336 rfl dX9_takes_195 ?_
    refine V_icmp_ge X (tgt := 226) dX9_takes_198 (by decide) hf (fun hf => ?_) (fun hf => ?_)
    · refine V_gload_n X dX9_takes_201 rfl rfl ?_
      refine V_gload_n X dX9_takes_202 rfl rfl ?_
      refine V_getr X ob_85 rfl rfl hin_X9 19 (Nat.le_of_ble_eq_true rfl) tw_1335 rfl dX9_takes_203 ?_
      refine V_gload_n X dX9_takes_206 rfl rfl ?_
      refine V_geti X ob_85 rfl rfl hin_X9 39 (Nat.le_of_ble_eq_true rfl) tw_1355 rfl dX9_takes_207 ?_
      refine V_iload_n X dX9_takes_210 rfl rfl ?_
      refine V_iadd X dX9_takes_211 ?_
      refine V_iald X ar_100 dX9_takes_212 hf (fun hf => ?_)
      refine V_iload_n X dX9_takes_213 rfl rfl ?_
      refine V_cVI X hf [vi (w 100 (wr ((w 85 39) + a3)).toNat), vi a2] _ 2 (fun _ h => m_X9_isIn h) ob_85 rfl tw_1785 tw_95 tw_1782 tw_1784 tw_70 dX9_takes_214 ⟨by decide +kernel, by decide +kernel, by decide +kernel⟩ ⟨rfl, rfl⟩ ⟨Nat.le_of_ble_eq_true rfl, Nat.le_of_ble_eq_true rfl⟩ rfl (Nat.le_of_ble_eq_true rfl) ⟨Nat.zero_le _, Nat.zero_le _⟩ (fun r5 w5 hf => ?_)
      refine V_if_eq X (tgt := 226) dX9_takes_217 (by decide) hf (fun hf => ?_) (fun hf => ?_)
      · exact V_cut [3] rfl (v_X9_takes_226 X hE hf)
      · refine V_iinc X dX9_takes_220 rfl (by decide) ?_
        refine V_goto X (tgt := 188) dX9_takes_223 (by decide) ?_
        exact V_cut [0, 2, 3] rfl (ih _ _ _ hf)
    · exact V_cut [3] rfl (v_X9_takes_226 X hE hf)
set_option maxRecDepth 20000 in
theorem m_X9_takes {G : GG} {a1 : Int} {a2 : Int} {w : WS} {q : (Int × WS)}  (hf : f_X9_takes a1 a2 w = some q) : MI G yX9_takes cX9_takes 4 (some .int) rmX9_takes [gr G 85, vi a1, vi a2] w q := by
  refine MI_of (by decide +kernel) (Nat.le_of_ble_eq_true rfl) (fun E X hE => ?_)
  have X : Cx G E cX9_takes RX9 (some .int) rmX9_takes 4 := X
  unfold f_X9_takes at hf
  refine V_iconst X dX9_takes_0 ?_
  refine V_istore_n X dX9_takes_1 rfl (by decide) ?_
  refine V_iload_n X dX9_takes_2 rfl rfl ?_
  refine ite_c hf (fun h0 hf => ?_) (fun h0 hf => ?_)
  · refine V_lookup X (off := 290) (tgt := 293) dX9_takes_3 (by decide) (by exact off_pos h0) (by decide) ?_
    refine V_gload_n X dX9_takes_293 rfl rfl ?_
    refine V_geti X ob_85 rfl rfl hin_X9 39 (Nat.le_of_ble_eq_true rfl) tw_1355 rfl dX9_takes_294 ?_
    refine V_iload_n X dX9_takes_297 rfl rfl ?_
    refine V_iadd X dX9_takes_298 ?_
    refine V_gload_n X dX9_takes_299 rfl rfl ?_
    refine V_geti X ob_85 rfl rfl hin_X9 20 (Nat.le_of_ble_eq_true rfl) tw_1336 rfl dX9_takes_300 ?_
    refine V_icmp_gt X (tgt := 310) dX9_takes_303 (by decide) hf (fun hf => ?_) (fun hf => ?_)
    · refine V_iconst X dX9_takes_310 ?_
      exact V_iret X hE dX9_takes_311 hf
    · refine V_iload_n X dX9_takes_306 rfl rfl ?_
      refine V_goto X (tgt := 311) dX9_takes_307 (by decide) ?_
      exact V_iret X hE dX9_takes_311 hf
  refine ite_c hf (fun h1 hf => ?_) (fun h1 hf => ?_)
  · refine V_lookup X (off := 233) (tgt := 236) dX9_takes_3 (by decide) (by exact off_neg h0 (off_pos h1)) (by decide) ?_
    exact V_cut [0, 2, 3] rfl (v_X9_takes_236 X hE FU _ _ _ hf)
  refine ite_c hf (fun h2 hf => ?_) (fun h2 hf => ?_)
  · refine V_lookup X (off := 105) (tgt := 108) dX9_takes_3 (by decide) (by exact off_neg h0 (off_neg h1 (off_pos h2))) (by decide) ?_
    refine V_gload_n X dX9_takes_108 rfl rfl ?_
    refine V_iload_n X dX9_takes_109 rfl rfl ?_
    refine V_cVI X hf [vi a2] _ 1 (fun _ h => m_X9_textTakes h) ob_85 rfl tw_1777 tw_95 tw_1774 tw_1776 tw_68 dX9_takes_110 ⟨by decide +kernel, by decide +kernel, by decide +kernel⟩ ⟨rfl, rfl⟩ ⟨Nat.le_of_ble_eq_true rfl, Nat.le_of_ble_eq_true rfl⟩ rfl (Nat.le_of_ble_eq_true rfl) ⟨Nat.zero_le _, Nat.zero_le _⟩ (fun r2 w2 hf => ?_)
    exact V_iret X hE dX9_takes_113 hf
  refine ite_c hf (fun h3 hf => ?_) (fun h3 hf => ?_)
  · refine V_lookup X (off := 400) (tgt := 403) dX9_takes_3 (by decide) (by exact off_neg h0 (off_neg h1 (off_neg h2 (off_pos h3)))) (by decide) ?_
    refine V_gload_n X dX9_takes_403 rfl rfl ?_
    refine V_geti X ob_85 rfl rfl hin_X9 20 (Nat.le_of_ble_eq_true rfl) tw_1336 rfl dX9_takes_404 ?_
    refine V_gload_n X dX9_takes_407 rfl rfl ?_
    refine V_geti X ob_85 rfl rfl hin_X9 39 (Nat.le_of_ble_eq_true rfl) tw_1355 rfl dX9_takes_408 ?_
    refine V_isub X dX9_takes_411 ?_
    exact V_iret X hE dX9_takes_412 hf
  refine ite_c hf (fun h4 hf => ?_) (fun h4 hf => ?_)
  · refine V_lookup X (off := 117) (tgt := 120) dX9_takes_3 (by decide) (by exact off_neg h0 (off_neg h1 (off_neg h2 (off_neg h3 (off_pos h4))))) (by decide) ?_
    refine V_gload_n X dX9_takes_120 rfl rfl ?_
    refine V_geti X ob_85 rfl rfl hin_X9 39 (Nat.le_of_ble_eq_true rfl) tw_1355 rfl dX9_takes_121 ?_
    refine V_gload_n X dX9_takes_124 rfl rfl ?_
    refine V_geti X ob_85 rfl rfl hin_X9 20 (Nat.le_of_ble_eq_true rfl) tw_1336 rfl dX9_takes_125 ?_
    refine V_icmp_ge X (tgt := 152) dX9_takes_128 (by decide) hf (fun hf => ?_) (fun hf => ?_)
    · refine V_gload_n X dX9_takes_131 rfl rfl ?_
      refine V_gload_n X dX9_takes_132 rfl rfl ?_
      refine V_getr X ob_85 rfl rfl hin_X9 19 (Nat.le_of_ble_eq_true rfl) tw_1335 rfl dX9_takes_133 ?_
      refine V_gload_n X dX9_takes_136 rfl rfl ?_
      refine V_geti X ob_85 rfl rfl hin_X9 39 (Nat.le_of_ble_eq_true rfl) tw_1355 rfl dX9_takes_137 ?_
      refine V_iald X ar_100 dX9_takes_140 hf (fun hf => ?_)
      refine V_iload_n X dX9_takes_141 rfl rfl ?_
      refine V_cVI X hf [vi (w 100 (wr (w 85 39)).toNat), vi a2] _ 2 (fun _ h => m_X9_isIn h) ob_85 rfl tw_1785 tw_95 tw_1782 tw_1784 tw_70 dX9_takes_142 ⟨by decide +kernel, by decide +kernel, by decide +kernel⟩ ⟨rfl, rfl⟩ ⟨Nat.le_of_ble_eq_true rfl, Nat.le_of_ble_eq_true rfl⟩ rfl (Nat.le_of_ble_eq_true rfl) ⟨Nat.zero_le _, Nat.zero_le _⟩ (fun r3 w3 hf => ?_)
      refine V_if_eq X (tgt := 152) dX9_takes_145 (by decide) hf (fun hf => ?_) (fun hf => ?_)
      · refine V_iconst X dX9_takes_152 ?_
        exact V_iret X hE dX9_takes_153 hf
      · refine V_iconst X dX9_takes_148 ?_
        refine V_goto X (tgt := 153) dX9_takes_149 (by decide) ?_
        exact V_iret X hE dX9_takes_153 hf
    · refine V_iconst X dX9_takes_152 ?_
      exact V_iret X hE dX9_takes_153 hf
  refine ite_c hf (fun h5 hf => ?_) (fun h5 hf => ?_)
  · refine V_lookup X (off := 151) (tgt := 154) dX9_takes_3 (by decide) (by exact off_neg h0 (off_neg h1 (off_neg h2 (off_neg h3 (off_neg h4 (off_pos h5)))))) (by decide) ?_
    refine V_gload_n X dX9_takes_154 rfl rfl ?_
    refine V_geti X ob_85 rfl rfl hin_X9 39 (Nat.le_of_ble_eq_true rfl) tw_1355 rfl dX9_takes_155 ?_
    refine V_gload_n X dX9_takes_158 rfl rfl ?_
    refine V_geti X ob_85 rfl rfl hin_X9 20 (Nat.le_of_ble_eq_true rfl) tw_1336 rfl dX9_takes_159 ?_
    refine V_icmp_ge X (tgt := 186) dX9_takes_162 (by decide) hf (fun hf => ?_) (fun hf => ?_)
    · refine V_gload_n X dX9_takes_165 rfl rfl ?_
      refine V_gload_n X dX9_takes_166 rfl rfl ?_
      refine V_getr X ob_85 rfl rfl hin_X9 19 (Nat.le_of_ble_eq_true rfl) tw_1335 rfl dX9_takes_167 ?_
      refine V_gload_n X dX9_takes_170 rfl rfl ?_
      refine V_geti X ob_85 rfl rfl hin_X9 39 (Nat.le_of_ble_eq_true rfl) tw_1355 rfl dX9_takes_171 ?_
      refine V_iald X ar_100 dX9_takes_174 hf (fun hf => ?_)
      refine V_iload_n X dX9_takes_175 rfl rfl ?_
      refine V_cVI X hf [vi (w 100 (wr (w 85 39)).toNat), vi a2] _ 2 (fun _ h => m_X9_isIn h) ob_85 rfl tw_1785 tw_95 tw_1782 tw_1784 tw_70 dX9_takes_176 ⟨by decide +kernel, by decide +kernel, by decide +kernel⟩ ⟨rfl, rfl⟩ ⟨Nat.le_of_ble_eq_true rfl, Nat.le_of_ble_eq_true rfl⟩ rfl (Nat.le_of_ble_eq_true rfl) ⟨Nat.zero_le _, Nat.zero_le _⟩ (fun r4 w4 hf => ?_)
      refine V_if_ne X (tgt := 186) dX9_takes_179 (by decide) hf (fun hf => ?_) (fun hf => ?_)
      · refine V_iconst X dX9_takes_182 ?_
        refine V_goto X (tgt := 187) dX9_takes_183 (by decide) ?_
        exact V_iret X hE dX9_takes_187 hf
      · refine V_iconst X dX9_takes_186 ?_
        exact V_iret X hE dX9_takes_187 hf
    · refine V_iconst X dX9_takes_186 ?_
      exact V_iret X hE dX9_takes_187 hf
  refine ite_c hf (fun h6 hf => ?_) (fun h6 hf => ?_)
  · refine V_lookup X (off := 367) (tgt := 370) dX9_takes_3 (by decide) (by exact off_neg h0 (off_neg h1 (off_neg h2 (off_neg h3 (off_neg h4 (off_neg h5 (off_pos h6))))))) (by decide) ?_
    refine V_gload_n X dX9_takes_370 rfl rfl ?_
    refine V_geti X ob_85 rfl rfl hin_X9 39 (Nat.le_of_ble_eq_true rfl) tw_1355 rfl dX9_takes_371 ?_
    refine V_iload_n X dX9_takes_374 rfl rfl ?_
    refine V_icmp_ne X (tgt := 382) dX9_takes_375 (by decide) hf (fun hf => ?_) (fun hf => ?_)
    · refine V_iconst X dX9_takes_378 ?_
      refine V_goto X (tgt := 383) dX9_takes_379 (by decide) ?_
      exact V_iret X hE dX9_takes_383 hf
    · refine V_iconst X dX9_takes_382 ?_
      exact V_iret X hE dX9_takes_383 hf
  refine ite_c hf (fun h7 hf => ?_) (fun h7 hf => ?_)
  · refine V_lookup X (off := 381) (tgt := 384) dX9_takes_3 (by decide) (by exact off_neg h0 (off_neg h1 (off_neg h2 (off_neg h3 (off_neg h4 (off_neg h5 (off_neg h6 (off_pos h7)))))))) (by decide) ?_
    refine V_gload_n X dX9_takes_384 rfl rfl ?_
    refine V_geti X ob_85 rfl rfl hin_X9 39 (Nat.le_of_ble_eq_true rfl) tw_1355 rfl dX9_takes_385 ?_
    refine V_gload_n X dX9_takes_388 rfl rfl ?_
    refine V_geti X ob_85 rfl rfl hin_X9 20 (Nat.le_of_ble_eq_true rfl) tw_1336 rfl dX9_takes_389 ?_
    refine V_iload_n X dX9_takes_392 rfl rfl ?_
    refine V_isub X dX9_takes_393 ?_
    refine V_icmp_ne X (tgt := 401) dX9_takes_394 (by decide) hf (fun hf => ?_) (fun hf => ?_)
    · refine V_iconst X dX9_takes_397 ?_
      refine V_goto X (tgt := 402) dX9_takes_398 (by decide) ?_
      exact V_iret X hE dX9_takes_402 hf
    · refine V_iconst X dX9_takes_401 ?_
      exact V_iret X hE dX9_takes_402 hf
  refine ite_c hf (fun h8 hf => ?_) (fun h8 hf => ?_)
  · refine V_lookup X (off := 338) (tgt := 341) dX9_takes_3 (by decide) (by exact off_neg h0 (off_neg h1 (off_neg h2 (off_neg h3 (off_neg h4 (off_neg h5 (off_neg h6 (off_neg h7 (off_pos h8))))))))) (by decide) ?_
    refine V_gload_n X dX9_takes_341 rfl rfl ?_
    refine V_geti X ob_85 rfl rfl hin_X9 20 (Nat.le_of_ble_eq_true rfl) tw_1336 rfl dX9_takes_342 ?_
    refine V_iload_n X dX9_takes_345 rfl rfl ?_
    refine V_isub X dX9_takes_346 ?_
    refine V_gload_n X dX9_takes_347 rfl rfl ?_
    refine V_geti X ob_85 rfl rfl hin_X9 39 (Nat.le_of_ble_eq_true rfl) tw_1355 rfl dX9_takes_348 ?_
    refine V_icmp_lt X (tgt := 368) dX9_takes_351 (by decide) hf (fun hf => ?_) (fun hf => ?_)
    · refine V_iconst X dX9_takes_368 ?_
      exact V_iret X hE dX9_takes_369 hf
    · refine V_gload_n X dX9_takes_354 rfl rfl ?_
      refine V_geti X ob_85 rfl rfl hin_X9 20 (Nat.le_of_ble_eq_true rfl) tw_1336 rfl dX9_takes_355 ?_
      refine V_iload_n X dX9_takes_358 rfl rfl ?_
      refine V_isub X dX9_takes_359 ?_
      refine V_gload_n X dX9_takes_360 rfl rfl ?_
      refine V_geti X ob_85 rfl rfl hin_X9 39 (Nat.le_of_ble_eq_true rfl) tw_1355 rfl dX9_takes_361 ?_
      refine V_isub X dX9_takes_364 ?_
      refine V_goto X (tgt := 369) dX9_takes_365 (by decide) ?_
      exact V_iret X hE dX9_takes_369 hf
  refine ite_c hf (fun h9 hf => ?_) (fun h9 hf => ?_)
  · refine V_lookup X (off := 185) (tgt := 188) dX9_takes_3 (by decide) (by exact off_neg h0 (off_neg h1 (off_neg h2 (off_neg h3 (off_neg h4 (off_neg h5 (off_neg h6 (off_neg h7 (off_neg h8 (off_pos h9)))))))))) (by decide) ?_
    exact V_cut [0, 2, 3] rfl (v_X9_takes_188 X hE FU _ _ _ hf)
  refine ite_c hf (fun h10 hf => ?_) (fun h10 hf => ?_)
  · refine V_lookup X (off := 309) (tgt := 312) dX9_takes_3 (by decide) (by exact off_neg h0 (off_neg h1 (off_neg h2 (off_neg h3 (off_neg h4 (off_neg h5 (off_neg h6 (off_neg h7 (off_neg h8 (off_neg h9 (off_pos h10))))))))))) (by decide) ?_
    refine V_iload_n X dX9_takes_312 rfl rfl ?_
    refine V_i2l X dX9_takes_313 ?_
    refine V_gload_n X dX9_takes_314 rfl rfl ?_
    refine V_geti X ob_85 rfl rfl hin_X9 39 (Nat.le_of_ble_eq_true rfl) tw_1355 rfl dX9_takes_315 ?_
    refine V_i2l X dX9_takes_318 ?_
    refine V_gload_n X dX9_takes_319 rfl rfl ?_
    refine V_geti X ob_85 rfl rfl hin_X9 20 (Nat.le_of_ble_eq_true rfl) tw_1336 rfl dX9_takes_320 ?_
    refine V_i2l X dX9_takes_323 ?_
    refine V_cSI X hf [vl (wr a2), vl (wr (w 85 39)), vl (wr (w 85 20))] _ 3 (fun _ h => m_X9_in h) tw_1574 tw_95 tw_1572 tw_1573 dX9_takes_324 ⟨by decide +kernel, by decide +kernel, by decide +kernel⟩ ⟨rfl, rfl⟩ ⟨Nat.le_of_ble_eq_true rfl, Nat.le_of_ble_eq_true rfl⟩ rfl (Nat.le_of_ble_eq_true rfl) ⟨Nat.zero_le _, Nat.zero_le _⟩ (fun r6 w6 hf => ?_)
    refine V_if_eq X (tgt := 339) dX9_takes_327 (by decide) hf (fun hf => ?_) (fun hf => ?_)
    · refine V_iconst X dX9_takes_339 ?_
      exact V_iret X hE dX9_takes_340 hf
    · refine V_iload_n X dX9_takes_330 rfl rfl ?_
      refine V_gload_n X dX9_takes_331 rfl rfl ?_
      refine V_geti X ob_85 rfl rfl hin_X9 39 (Nat.le_of_ble_eq_true rfl) tw_1355 rfl dX9_takes_332 ?_
      refine V_isub X dX9_takes_335 ?_
      refine V_goto X (tgt := 340) dX9_takes_336 (by decide) ?_
      exact V_iret X hE dX9_takes_340 hf
  refine ite_c hf (fun h11 hf => ?_) (fun h11 hf => ?_)
  · refine V_lookup X (off := 111) (tgt := 114) dX9_takes_3 (by decide) (by exact off_neg h0 (off_neg h1 (off_neg h2 (off_neg h3 (off_neg h4 (off_neg h5 (off_neg h6 (off_neg h7 (off_neg h8 (off_neg h9 (off_neg h10 (off_pos h11)))))))))))) (by decide) ?_
    refine V_gload_n X dX9_takes_114 rfl rfl ?_
    refine V_iload_n X dX9_takes_115 rfl rfl ?_
    refine V_cVI X hf [vi a2] _ 1 (fun _ h => m_X9_valueTakes h) ob_85 rfl tw_1781 tw_95 tw_1778 tw_1780 tw_69 dX9_takes_116 ⟨by decide +kernel, by decide +kernel, by decide +kernel⟩ ⟨rfl, rfl⟩ ⟨Nat.le_of_ble_eq_true rfl, Nat.le_of_ble_eq_true rfl⟩ rfl (Nat.le_of_ble_eq_true rfl) ⟨Nat.zero_le _, Nat.zero_le _⟩ (fun r7 w7 hf => ?_)
    exact V_iret X hE dX9_takes_119 hf
  refine V_lookup X (off := 410) (tgt := 413) dX9_takes_3 (by decide) (by exact off_neg h0 (off_neg h1 (off_neg h2 (off_neg h3 (off_neg h4 (off_neg h5 (off_neg h6 (off_neg h7 (off_neg h8 (off_neg h9 (off_neg h10 (off_neg h11 (rfl))))))))))))) (by decide) ?_
  refine V_iconst X dX9_takes_413 ?_
  exact V_iret X hE dX9_takes_414 hf
abbrev rmX9_backAgain : Room := { frames := 0, cells := 0, slots := 0, locals := 0 }
set_option maxRecDepth 20000 in
theorem m_X9_backAgain {G : GG}  {w : WS} {q : (Int × WS)}  (hf : f_X9_backAgain  w = some q) : MI G yX9_backAgain cX9_backAgain 1 (some .boolean) rmX9_backAgain [gr G 85] w q := by
  refine MI_of (by decide +kernel) (Nat.le_of_ble_eq_true rfl) (fun E X hE => ?_)
  have X : Cx G E cX9_backAgain RX9 (some .boolean) rmX9_backAgain 1 := X
  unfold f_X9_backAgain at hf
  refine V_gload_n X dX9_backAgain_0 rfl rfl ?_
  refine V_iconst X dX9_backAgain_1 ?_
  refine V_putz X ob_85 rfl rfl hin_X9 44 (Nat.le_of_ble_eq_true rfl) tw_1360 tyX9 tyX9_ok nmX9 rfl (by decide +kernel) (Or.inr rfl) rfl dX9_backAgain_2 ?_
  refine V_iconst X dX9_backAgain_5 ?_
  exact V_zret X hE dX9_backAgain_6 (Or.inl rfl) hf
