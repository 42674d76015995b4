abbrev rmX9_putBack : Room := { frames := 0, cells := 0, slots := 0, locals := 0 }
set_option maxRecDepth 20000 in
theorem v_X9_putBack_14 {G : GG} {E : EE} (X : Cx G E cX9_putBack RX9 none rmX9_putBack 4) {q : (Int × WS)} (hE : EndV G E q)   : ∀ (n : Nat) (a1 a2 a3 : Int) (w : WS), f_X9_putBack_14   n a1 a2 a3 w = some q → VV G E 0 0 14 [(0, gr G 85), (1, vi a1), (2, vi a2), (3, vi a3)] [] w := by
  intro n
  induction n with
  | zero => intro a1 a2 a3 w hf; cases hf
  | succ n ih =>
    intro a1 a2 a3 w hf
    rw [f_X9_putBack_14_s] at hf
    refine V_iload_n X dX9_putBack_14 rfl rfl ?_
    refine V_gload_n X dX9_putBack_15 rfl rfl ?_
    refine V_getr X ob_85 rfl rfl hin_X9 67 (Nat.le_of_ble_eq_true rfl) tw_1383 rfl dX9_putBack_16 ?_
    refine V_iload_n X dX9_putBack_19 rfl rfl ?_
    refine V_iald X ar_130 dX9_putBack_20 hf (fun hf => ?_)
    refine V_icmp_ge X (tgt := 52) dX9_putBack_21 (by decide) hf (fun hf => ?_) (fun hf => ?_)
    · refine V_gload_n X dX9_putBack_24 rfl rfl ?_
      refine V_getr X ob_85 rfl rfl hin_X9 6 (Nat.le_of_ble_eq_true rfl) tw_1322 rfl dX9_putBack_25 ?_
      refine V_bipush X dX9_putBack_28 (by decide) ?_
      refine V_iload_n X dX9_putBack_30 rfl rfl ?_
      refine V_imul X dX9_putBack_31 ?_
      refine V_iload_n X dX9_putBack_32 rfl rfl ?_
      refine V_iadd X dX9_putBack_33 ?_
      refine V_gload_n X dX9_putBack_34 rfl rfl ?_
      refine V_getr X ob_85 rfl rfl hin_X9 66 (Nat.le_of_ble_eq_true rfl) tw_1382 rfl dX9_putBack_35 ?_
      refine V_bipush X dX9_putBack_38 (by decide) ?_
      refine V_iload_n X dX9_putBack_40 rfl rfl ?_
      refine V_imul X dX9_putBack_41 ?_
      refine V_iload_n X dX9_putBack_42 rfl rfl ?_
      refine V_iadd X dX9_putBack_43 ?_
      refine V_iald X ar_129 dX9_putBack_44 hf (fun hf => ?_)
      refine V_iast X ar_89 dX9_putBack_45 hf (fun hf => ?_)
      refine V_iinc X dX9_putBack_46 rfl (by decide) ?_
      refine V_goto X (tgt := 14) dX9_putBack_49 (by decide) ?_
      exact V_cut [0, 1, 2, 3] rfl (ih _ _ _ _ hf)
    · exact V_vret X hE dX9_putBack_52 hf
set_option maxRecDepth 20000 in
theorem m_X9_putBack {G : GG} {a1 : Int} {a2 : Int} {w : WS} {q : (Int × WS)}  (hf : f_X9_putBack a1 a2 w = some q) : MV G yX9_putBack cX9_putBack 4 none rmX9_putBack [gr G 85, vi a1, vi a2] w q := by
  refine MV_of (by decide +kernel) (Nat.le_of_ble_eq_true rfl) (fun E X hE => ?_)
  have X : Cx G E cX9_putBack RX9 none rmX9_putBack 4 := X
  unfold f_X9_putBack at hf
  refine V_gload_n X dX9_putBack_0 rfl rfl ?_
  refine V_getr X ob_85 rfl rfl hin_X9 7 (Nat.le_of_ble_eq_true rfl) tw_1323 rfl dX9_putBack_1 ?_
  refine V_iload_n X dX9_putBack_4 rfl rfl ?_
  refine V_gload_n X dX9_putBack_5 rfl rfl ?_
  refine V_getr X ob_85 rfl rfl hin_X9 67 (Nat.le_of_ble_eq_true rfl) tw_1383 rfl dX9_putBack_6 ?_
  refine V_iload_n X dX9_putBack_9 rfl rfl ?_
  refine V_iald X ar_130 dX9_putBack_10 hf (fun hf => ?_)
  refine V_iast X ar_90 dX9_putBack_11 hf (fun hf => ?_)
  refine V_iconst X dX9_putBack_12 ?_
  refine V_istore_n X dX9_putBack_13 rfl (by decide) ?_
  exact V_cut [0, 1, 2, 3] rfl (v_X9_putBack_14 X hE FU _ _ _ _ hf)
abbrev rmX9_setTo : Room := { frames := 0, cells := 0, slots := 0, locals := 0 }
set_option maxRecDepth 20000 in
theorem v_X9_setTo_14 {G : GG} {E : EE} (X : Cx G E cX9_setTo RX9 none rmX9_setTo 4) {q : (Int × WS)} (hE : EndV G E q)   : ∀ (n : Nat) (a1 a2 a3 : Int) (w : WS), f_X9_setTo_14   n a1 a2 a3 w = some q → VV G E 0 0 14 [(0, gr G 85), (1, vi a1), (2, vi a2), (3, vi a3)] [] w := by
  intro n
  induction n with
  | zero => intro a1 a2 a3 w hf; cases hf
  | succ n ih =>
    intro a1 a2 a3 w hf
    rw [f_X9_setTo_14_s] at hf
    refine V_iload_n X dX9_setTo_14 rfl rfl ?_
    refine V_gload_n X dX9_setTo_15 rfl rfl ?_
    refine V_getr X ob_85 rfl rfl hin_X9 18 (Nat.le_of_ble_eq_true rfl) tw_1334 rfl dX9_setTo_16 ?_
    refine V_iload_n X dX9_setTo_19 rfl rfl ?_
    refine V_iald X ar_99 dX9_setTo_20 hf (fun hf => ?_)
    refine V_icmp_ge X (tgt := 52) dX9_setTo_21 (by decide) hf (fun hf => ?_) (fun hf => ?_)
    · refine V_gload_n X dX9_setTo_24 rfl rfl ?_
      refine V_getr X ob_85 rfl rfl hin_X9 6 (Nat.le_of_ble_eq_true rfl) tw_1322 rfl dX9_setTo_25 ?_
      refine V_bipush X dX9_setTo_28 (by decide) ?_
      refine V_iload_n X dX9_setTo_30 rfl rfl ?_
      refine V_imul X dX9_setTo_31 ?_
      refine V_iload_n X dX9_setTo_32 rfl rfl ?_
      refine V_iadd X dX9_setTo_33 ?_
      refine V_gload_n X dX9_setTo_34 rfl rfl ?_
      refine V_getr X ob_85 rfl rfl hin_X9 17 (Nat.le_of_ble_eq_true rfl) tw_1333 rfl dX9_setTo_35 ?_
      refine V_bipush X dX9_setTo_38 (by decide) ?_
      refine V_iload_n X dX9_setTo_40 rfl rfl ?_
      refine V_imul X dX9_setTo_41 ?_
      refine V_iload_n X dX9_setTo_42 rfl rfl ?_
      refine V_iadd X dX9_setTo_43 ?_
      refine V_iald X ar_98 dX9_setTo_44 hf (fun hf => ?_)
      refine V_iast X ar_89 dX9_setTo_45 hf (fun hf => ?_)
      refine V_iinc X dX9_setTo_46 rfl (by decide) ?_
      refine V_goto X (tgt := 14) dX9_setTo_49 (by decide) ?_
      exact V_cut [0, 1, 2, 3] rfl (ih _ _ _ _ hf)
    · exact V_vret X hE dX9_setTo_52 hf
set_option maxRecDepth 20000 in
theorem m_X9_setTo {G : GG} {a1 : Int} {a2 : Int} {w : WS} {q : (Int × WS)}  (hf : f_X9_setTo a1 a2 w = some q) : MV G yX9_setTo cX9_setTo 4 none rmX9_setTo [gr G 85, vi a1, vi a2] w q := by
  refine MV_of (by decide +kernel) (Nat.le_of_ble_eq_true rfl) (fun E X hE => ?_)
  have X : Cx G E cX9_setTo RX9 none rmX9_setTo 4 := X
  unfold f_X9_setTo at hf
  refine V_gload_n X dX9_setTo_0 rfl rfl ?_
  refine V_getr X ob_85 rfl rfl hin_X9 7 (Nat.le_of_ble_eq_true rfl) tw_1323 rfl dX9_setTo_1 ?_
  refine V_iload_n X dX9_setTo_4 rfl rfl ?_
  refine V_gload_n X dX9_setTo_5 rfl rfl ?_
  refine V_getr X ob_85 rfl rfl hin_X9 18 (Nat.le_of_ble_eq_true rfl) tw_1334 rfl dX9_setTo_6 ?_
  refine V_iload_n X dX9_setTo_9 rfl rfl ?_
  refine V_iald X ar_99 dX9_setTo_10 hf (fun hf => ?_)
  refine V_iast X ar_90 dX9_setTo_11 hf (fun hf => ?_)
  refine V_iconst X dX9_setTo_12 ?_
  refine V_istore_n X dX9_setTo_13 rfl (by decide) ?_
  exact V_cut [0, 1, 2, 3] rfl (v_X9_setTo_14 X hE FU _ _ _ _ hf)
abbrev rmX9_takeSubject : Room := { frames := 0, cells := 0, slots := 0, locals := 0 }
set_option maxRecDepth 20000 in
theorem v_X9_takeSubject_12 {G : GG} {E : EE} (X : Cx G E cX9_takeSubject RX9 none rmX9_takeSubject 3) {q : (Int × WS)} (hE : EndV G E q)   : ∀ (n : Nat) (a1 a2 : Int) (w : WS), f_X9_takeSubject_12   n a1 a2 w = some q → VV G E 0 0 12 [(0, gr G 85), (1, vi a1), (2, vi a2)] [] w := by
  intro n
  induction n with
  | zero => intro a1 a2 w hf; cases hf
  | succ n ih =>
    intro a1 a2 w hf
    rw [f_X9_takeSubject_12_s] at hf
    refine V_iload_n X dX9_takeSubject_12 rfl rfl ?_
    refine V_gload_n X dX9_takeSubject_13 rfl rfl ?_
    refine V_geti X ob_85 rfl rfl hin_X9 20 (Nat.le_of_ble_eq_true rfl) tw_1336 rfl dX9_takeSubject_14 ?_
    refine V_icmp_ge X (tgt := 43) dX9_takeSubject_17 (by decide) hf (fun hf => ?_) (fun hf => ?_)
    · refine V_gload_n X dX9_takeSubject_20 rfl rfl ?_
      refine V_getr X ob_85 rfl rfl hin_X9 19 (Nat.le_of_ble_eq_true rfl) tw_1335 rfl dX9_takeSubject_21 ?_
      refine V_iload_n X dX9_takeSubject_24 rfl rfl ?_
      refine V_gload_n X dX9_takeSubject_25 rfl rfl ?_
      refine V_getr X ob_85 rfl rfl hin_X9 6 (Nat.le_of_ble_eq_true rfl) tw_1322 rfl dX9_takeSubject_26 ?_
      refine V_bipush X dX9_takeSubject_29 (by decide) ?_
      refine V_iload_n X dX9_takeSubject_31 rfl rfl ?_
      refine V_imul X dX9_takeSubject_32 ?_
      refine V_iload_n X dX9_takeSubject_33 rfl rfl ?_
      refine V_iadd X dX9_takeSubject_34 ?_
      refine V_iald X ar_89 dX9_takeSubject_35 hf (fun hf => ?_)
      refine V_iast X ar_100 dX9_takeSubject_36 hf (fun hf => ?_)
      refine V_iinc X dX9_takeSubject_37 rfl (by decide) ?_
      refine V_goto X (tgt := 12) dX9_takeSubject_40 (by decide) ?_
      exact V_cut [0, 1, 2] rfl (ih _ _ _ hf)
    · exact V_vret X hE dX9_takeSubject_43 hf
set_option maxRecDepth 20000 in
theorem m_X9_takeSubject {G : GG} {a1 : Int} {w : WS} {q : (Int × WS)}  (hf : f_X9_takeSubject a1 w = some q) : MV G yX9_takeSubject cX9_takeSubject 3 none rmX9_takeSubject [gr G 85, vi a1] w q := by
  refine MV_of (by decide +kernel) (Nat.le_of_ble_eq_true rfl) (fun E X hE => ?_)
  have X : Cx G E cX9_takeSubject RX9 none rmX9_takeSubject 3 := X
  unfold f_X9_takeSubject at hf
  refine V_gload_n X dX9_takeSubject_0 rfl rfl ?_
  refine V_gload_n X dX9_takeSubject_1 rfl rfl ?_
  refine V_getr X ob_85 rfl rfl hin_X9 7 (Nat.le_of_ble_eq_true rfl) tw_1323 rfl dX9_takeSubject_2 ?_
  refine V_iload_n X dX9_takeSubject_5 rfl rfl ?_
  refine V_iald X ar_90 dX9_takeSubject_6 hf (fun hf => ?_)
  refine V_puti X ob_85 rfl rfl hin_X9 20 (Nat.le_of_ble_eq_true rfl) tw_1336 tyX9 tyX9_ok nmX9 rfl (by decide +kernel) rfl dX9_takeSubject_7 ?_
  refine V_iconst X dX9_takeSubject_10 ?_
  refine V_istore_n X dX9_takeSubject_11 rfl (by decide) ?_
  exact V_cut [0, 1, 2] rfl (v_X9_takeSubject_12 X hE FU _ _ _ hf)
abbrev rmX9_replace : Room := { frames := 0, cells := 0, slots := 0, locals := 0 }
set_option maxRecDepth 20000 in
theorem v_X9_replace_111 {G : GG} {E : EE} (X : Cx G E cX9_replace RX9 (some .boolean) rmX9_replace 7) {q : (Int × WS)} (hE : EndI G E q)   : ∀ (n : Nat) (a1 a2 a3 a4 a5 a6 : Int) (w : WS), f_X9_replace_111   n a1 a2 a3 a4 a5 a6 w = some q → VV G E 0 0 111 [(0, gr G 85), (1, vi a1), (2, vi a2), (3, vi a3), (4, vi a4), (5, vi a5), (6, vi a6)] [] w := by
  intro n
  induction n with
  | zero => intro a1 a2 a3 a4 a5 a6 w hf; cases hf
  | succ n ih =>
    intro a1 a2 a3 a4 a5 a6 w hf
    rw [f_X9_replace_111_s] at hf
    refine V_iload X dX9_replace_111 rfl ?_
    refine V_gload_n X dX9_replace_113 rfl rfl ?_
    refine V_geti X ob_85 rfl rfl hin_X9 20 (Nat.le_of_ble_eq_true rfl) tw_1336 rfl dX9_replace_114 ?_
    refine V_icmp_ge X (tgt := 157) dX9_replace_117 (by decide) hf (fun hf => ?_) (fun hf => ?_)
    · refine V_gload_n X dX9_replace_120 rfl rfl ?_
      refine V_getr X ob_85 rfl rfl hin_X9 6 (Nat.le_of_ble_eq_true rfl) tw_1322 rfl dX9_replace_121 ?_
      refine V_bipush X dX9_replace_124 (by decide) ?_
      refine V_iload_n X dX9_replace_126 rfl rfl ?_
      refine V_imul X dX9_replace_127 ?_
      refine V_iload_n X dX9_replace_128 rfl rfl ?_
      refine V_iadd X dX9_replace_129 ?_
      refine V_gload_n X dX9_replace_130 rfl rfl ?_
      refine V_getr X ob_85 rfl rfl hin_X9 18 (Nat.le_of_ble_eq_true rfl) tw_1334 rfl dX9_replace_131 ?_
      refine V_iload_n X dX9_replace_134 rfl rfl ?_
      refine V_iald X ar_99 dX9_replace_135 hf (fun hf => ?_)
      refine V_iadd X dX9_replace_136 ?_
      refine V_iload X dX9_replace_137 rfl ?_
      refine V_iadd X dX9_replace_139 ?_
      refine V_iload X dX9_replace_140 rfl ?_
      refine V_isub X dX9_replace_142 ?_
      refine V_gload_n X dX9_replace_143 rfl rfl ?_
      refine V_getr X ob_85 rfl rfl hin_X9 19 (Nat.le_of_ble_eq_true rfl) tw_1335 rfl dX9_replace_144 ?_
      refine V_iload X dX9_replace_147 rfl ?_
      refine V_iald X ar_100 dX9_replace_149 hf (fun hf => ?_)
      refine V_iast X ar_89 dX9_replace_150 hf (fun hf => ?_)
      refine V_iinc X dX9_replace_151 rfl (by decide) ?_
      refine V_goto X (tgt := 111) dX9_replace_154 (by decide) ?_
      exact V_cut [0, 1, 2, 3, 4, 5, 6] rfl (ih _ _ _ _ _ _ _ hf)
    · refine V_gload_n X dX9_replace_157 rfl rfl ?_
      refine V_getr X ob_85 rfl rfl hin_X9 7 (Nat.le_of_ble_eq_true rfl) tw_1323 rfl dX9_replace_158 ?_
      refine V_iload_n X dX9_replace_161 rfl rfl ?_
      refine V_iload X dX9_replace_162 rfl ?_
      refine V_iast X ar_90 dX9_replace_164 hf (fun hf => ?_)
      refine V_iconst X dX9_replace_165 ?_
      exact V_zret X hE dX9_replace_166 (Or.inr rfl) hf
set_option maxRecDepth 20000 in
theorem v_X9_replace_64 {G : GG} {E : EE} (X : Cx G E cX9_replace RX9 (some .boolean) rmX9_replace 7) {q : (Int × WS)} (hE : EndI G E q)   : ∀ (n : Nat) (a1 a2 a3 a4 a5 a6 : Int) (w : WS), f_X9_replace_64   n a1 a2 a3 a4 a5 a6 w = some q → VV G E 0 0 64 [(0, gr G 85), (1, vi a1), (2, vi a2), (3, vi a3), (4, vi a4), (5, vi a5), (6, vi a6)] [] w := by
  intro n
  induction n with
  | zero => intro a1 a2 a3 a4 a5 a6 w hf; cases hf
  | succ n ih =>
    intro a1 a2 a3 a4 a5 a6 w hf
    rw [f_X9_replace_64_s] at hf
    refine V_iload X dX9_replace_64 rfl ?_
    refine V_gload_n X dX9_replace_66 rfl rfl ?_
    refine V_getr X ob_85 rfl rfl hin_X9 18 (Nat.le_of_ble_eq_true rfl) tw_1334 rfl dX9_replace_67 ?_
    refine V_iload_n X dX9_replace_70 rfl rfl ?_
    refine V_iald X ar_99 dX9_replace_71 hf (fun hf => ?_)
    refine V_icmp_ge X (tgt := 107) dX9_replace_72 (by decide) hf (fun hf => ?_) (fun hf => ?_)
    · refine V_gload_n X dX9_replace_75 rfl rfl ?_
      refine V_getr X ob_85 rfl rfl hin_X9 6 (Nat.le_of_ble_eq_true rfl) tw_1322 rfl dX9_replace_76 ?_
      refine V_bipush X dX9_replace_79 (by decide) ?_
      refine V_iload_n X dX9_replace_81 rfl rfl ?_
      refine V_imul X dX9_replace_82 ?_
      refine V_iload_n X dX9_replace_83 rfl rfl ?_
      refine V_iadd X dX9_replace_84 ?_
      refine V_iload X dX9_replace_85 rfl ?_
      refine V_iadd X dX9_replace_87 ?_
      refine V_gload_n X dX9_replace_88 rfl rfl ?_
      refine V_getr X ob_85 rfl rfl hin_X9 17 (Nat.le_of_ble_eq_true rfl) tw_1333 rfl dX9_replace_89 ?_
      refine V_bipush X dX9_replace_92 (by decide) ?_
      refine V_iload_n X dX9_replace_94 rfl rfl ?_
      refine V_imul X dX9_replace_95 ?_
      refine V_iload X dX9_replace_96 rfl ?_
      refine V_iadd X dX9_replace_98 ?_
      refine V_iald X ar_98 dX9_replace_99 hf (fun hf => ?_)
      refine V_iast X ar_89 dX9_replace_100 hf (fun hf => ?_)
      refine V_iinc X dX9_replace_101 rfl (by decide) ?_
      refine V_goto X (tgt := 64) dX9_replace_104 (by decide) ?_
      exact V_cut [0, 1, 2, 3, 4, 5, 6] rfl (ih _ _ _ _ _ _ _ hf)
    · refine V_iload X dX9_replace_107 rfl ?_
      refine V_istore X dX9_replace_109 (by decide) ?_
      exact V_cut [0, 1, 2, 3, 4, 5, 6] rfl (v_X9_replace_111 X hE FU _ _ _ _ _ _ _ hf)
set_option maxRecDepth 20000 in
theorem v_X9_replace_30 {G : GG} {E : EE} (X : Cx G E cX9_replace RX9 (some .boolean) rmX9_replace 7) {q : (Int × WS)} (hE : EndI G E q)   : ∀ (n : Nat) (a1 a2 a3 a4 a5 a6 : Int) (w : WS), f_X9_replace_30   n a1 a2 a3 a4 a5 a6 w = some q → VV G E 0 0 30 [(0, gr G 85), (1, vi a1), (2, vi a2), (3, vi a3), (4, vi a4), (5, vi a5), (6, vi a6)] [] w := by
  intro n
  induction n with
  | zero => intro a1 a2 a3 a4 a5 a6 w hf; cases hf
  | succ n ih =>
    intro a1 a2 a3 a4 a5 a6 w hf
    rw [f_X9_replace_30_s] at hf
    refine V_iload X dX9_replace_30 rfl ?_
    refine V_iload_n X dX9_replace_32 rfl rfl ?_
    refine V_icmp_ge X (tgt := 61) dX9_replace_33 (by decide) hf (fun hf => ?_) (fun hf => ?_)
    · refine V_gload_n X dX9_replace_36 rfl rfl ?_
      refine V_getr X ob_85 rfl rfl hin_X9 6 (Nat.le_of_ble_eq_true rfl) tw_1322 rfl dX9_replace_37 ?_
      refine V_bipush X dX9_replace_40 (by decide) ?_
      refine V_iload_n X dX9_replace_42 rfl rfl ?_
      refine V_imul X dX9_replace_43 ?_
      refine V_iload X dX9_replace_44 rfl ?_
      refine V_iadd X dX9_replace_46 ?_
      refine V_gload_n X dX9_replace_47 rfl rfl ?_
      refine V_getr X ob_85 rfl rfl hin_X9 19 (Nat.le_of_ble_eq_true rfl) tw_1335 rfl dX9_replace_48 ?_
      refine V_iload X dX9_replace_51 rfl ?_
      refine V_iald X ar_100 dX9_replace_53 hf (fun hf => ?_)
      refine V_iast X ar_89 dX9_replace_54 hf (fun hf => ?_)
      refine V_iinc X dX9_replace_55 rfl (by decide) ?_
      refine V_goto X (tgt := 30) dX9_replace_58 (by decide) ?_
      exact V_cut [0, 1, 2, 3, 4, 5, 6] rfl (ih _ _ _ _ _ _ _ hf)
    · refine V_iconst X dX9_replace_61 ?_
      refine V_istore X dX9_replace_62 (by decide) ?_
      exact V_cut [0, 1, 2, 3, 4, 5, 6] rfl (v_X9_replace_64 X hE FU _ _ _ _ _ _ _ hf)
set_option maxRecDepth 20000 in
theorem m_X9_replace {G : GG} {a1 : Int} {a2 : Int} {a3 : Int} {a4 : Int} {w : WS} {q : (Int × WS)}  (hf : f_X9_replace a1 a2 a3 a4 w = some q) : MI G yX9_replace cX9_replace 7 (some .boolean) rmX9_replace [gr G 85, vi a1, vi a2, vi a3, vi a4] w q := by
  refine MI_of (by decide +kernel) (Nat.le_of_ble_eq_true rfl) (fun E X hE => ?_)
  have X : Cx G E cX9_replace RX9 (some .boolean) rmX9_replace 7 := X
  unfold f_X9_replace at hf
  refine V_gload_n X dX9_replace_0 rfl rfl ?_
  refine V_geti X ob_85 rfl rfl hin_X9 20 (Nat.le_of_ble_eq_true rfl) tw_1336 rfl dX9_replace_1 ?_
  refine V_iload X dX9_replace_4 rfl ?_
  refine V_iload_n X dX9_replace_6 rfl rfl ?_
  refine V_isub X dX9_replace_7 ?_
  refine V_isub X dX9_replace_8 ?_
  refine V_gload_n X dX9_replace_9 rfl rfl ?_
  refine V_getr X ob_85 rfl rfl hin_X9 18 (Nat.le_of_ble_eq_true rfl) tw_1334 rfl dX9_replace_10 ?_
  refine V_iload_n X dX9_replace_13 rfl rfl ?_
  refine V_iald X ar_99 dX9_replace_14 hf (fun hf => ?_)
  refine V_iadd X dX9_replace_15 ?_
  refine V_istore X dX9_replace_16 (by decide) ?_
  refine V_iload X dX9_replace_18 rfl ?_
  refine V_bipush X dX9_replace_20 (by decide) ?_
  refine V_icmp_le X (tgt := 27) dX9_replace_22 (by decide) hf (fun hf => ?_) (fun hf => ?_)
  · refine V_iconst X dX9_replace_25 ?_
    exact V_zret X hE dX9_replace_26 (Or.inl rfl) hf
  · refine V_iconst X dX9_replace_27 ?_
    refine V_istore X dX9_replace_28 (by decide) ?_
    exact V_cut [0, 1, 2, 3, 4, 5, 6] rfl (v_X9_replace_30 X hE FU _ _ _ _ _ _ _ hf)
abbrev rmX9_doScan : Room := { frames := 6, cells := 0, slots := 0, locals := 145 }
set_option maxRecDepth 20000 in
theorem v_X9_doScan_76 {G : GG} {E : EE} (X : Cx G E cX9_doScan RX9 (some .int) rmX9_doScan 7) {q : (Int × WS)} (hE : EndI G E q)   {a1 a3 a4 a5 s0 : Int} {w : WS} (hf : f_X9_doScan_76   a1 a3 a4 a5 s0 w = some q) : VV G E 0 0 76 [(0, gr G 85), (1, vi a1), (3, vi a3), (4, vi a4), (5, vi a5)] [vi s0] w := by
  unfold f_X9_doScan_76 at hf
  refine V_istore X dX9_doScan_76 (by decide) ?_
  refine V_iload X dX9_doScan_78 rfl ?_
  refine V_iconst X dX9_doScan_80 ?_
  refine V_icmp_eq X (tgt := 89) dX9_doScan_81 (by decide) hf (fun hf => ?_) (fun hf => ?_)
  · refine V_iload X dX9_doScan_89 rfl ?_
    exact V_iret X hE dX9_doScan_91 hf
  · refine V_iload X dX9_doScan_84 rfl ?_
    refine V_if_eq X (tgt := 92) dX9_doScan_86 (by decide) hf (fun hf => ?_) (fun hf => ?_)
    · refine V_gload_n X dX9_doScan_92 rfl rfl ?_
      refine V_gload_n X dX9_doScan_93 rfl rfl ?_
      refine V_getr X ob_85 rfl rfl hin_X9 46 (Nat.le_of_ble_eq_true rfl) tw_1362 rfl dX9_doScan_94 ?_
      refine V_iload_n X dX9_doScan_97 rfl rfl ?_
      refine V_iald X ar_115 dX9_doScan_98 hf (fun hf => ?_)
      refine V_iload X dX9_doScan_99 rfl ?_
      refine V_iload_n X dX9_doScan_101 rfl rfl ?_
      refine V_iload X dX9_doScan_102 rfl ?_
      refine V_cVI X hf [vi (w 115 (wr a1).toNat), vi a5, vi a3, vi a4] _ 4 (fun _ h => m_X9_replace h) ob_85 rfl tw_1797 tw_95 tw_1794 tw_1796 tw_73 dX9_doScan_104 ⟨by decide +kernel, by decide +kernel, by decide +kernel⟩ ⟨rfl, rfl⟩ ⟨Nat.le_of_ble_eq_true rfl, Nat.le_of_ble_eq_true rfl⟩ rfl (Nat.le_of_ble_eq_true rfl) ⟨Nat.zero_le _, Nat.zero_le _⟩ (fun r4 w4 hf => ?_)
      refine V_if_eq X (tgt := 114) dX9_doScan_107 (by decide) hf (fun hf => ?_) (fun hf => ?_)
      · refine V_iconst X dX9_doScan_114 ?_
        exact V_iret X hE dX9_doScan_115 hf
      · refine V_iconst X dX9_doScan_110 ?_
        refine V_goto X (tgt := 115) dX9_doScan_111 (by decide) ?_
        exact V_iret X hE dX9_doScan_115 hf
    · refine V_iload X dX9_doScan_89 rfl ?_
      exact V_iret X hE dX9_doScan_91 hf
set_option maxRecDepth 20000 in
theorem m_X9_doScan {G : GG} {a1 : Int} {w : WS} {q : (Int × WS)}  (hf : f_X9_doScan a1 w = some q) : MI G yX9_doScan cX9_doScan 7 (some .int) rmX9_doScan [gr G 85, vi a1] w q := by
  refine MI_of (by decide +kernel) (Nat.le_of_ble_eq_true rfl) (fun E X hE => ?_)
  have X : Cx G E cX9_doScan RX9 (some .int) rmX9_doScan 7 := X
  unfold f_X9_doScan at hf
  refine V_gload_n X dX9_doScan_0 rfl rfl ?_
  refine V_gload_n X dX9_doScan_1 rfl rfl ?_
  refine V_getr X ob_85 rfl rfl hin_X9 46 (Nat.le_of_ble_eq_true rfl) tw_1362 rfl dX9_doScan_2 ?_
  refine V_iload_n X dX9_doScan_5 rfl rfl ?_
  refine V_iald X ar_115 dX9_doScan_6 hf (fun hf => ?_)
  refine V_cVV X hf [vi (w 115 (wr a1).toNat)] _ 1 (fun _ h => m_X9_takeSubject h) ob_85 rfl tw_1721 tw_95 tw_1718 tw_1720 tw_54 dX9_doScan_7 ⟨by decide +kernel, by decide +kernel, by decide +kernel⟩ ⟨rfl, rfl⟩ ⟨Nat.le_of_ble_eq_true rfl, Nat.le_of_ble_eq_true rfl⟩ rfl (Nat.le_of_ble_eq_true rfl) ⟨Nat.zero_le _, Nat.zero_le _⟩ (fun r1 w1 hf => ?_)
  refine V_gload_n X dX9_doScan_10 rfl rfl ?_
  refine V_gload_n X dX9_doScan_11 rfl rfl ?_
  refine V_getr X ob_85 rfl rfl hin_X9 47 (Nat.le_of_ble_eq_true rfl) tw_1363 rfl dX9_doScan_12 ?_
  refine V_iload_n X dX9_doScan_15 rfl rfl ?_
  refine V_iald X ar_116 dX9_doScan_16 hf (fun hf => ?_)
  refine V_cVI X hf [vi (w1 116 (wr a1).toNat)] _ 1 (fun _ h => m_X9_matches h) ob_85 rfl tw_1725 tw_95 tw_1722 tw_1724 tw_55 dX9_doScan_17 ⟨by decide +kernel, by decide +kernel, by decide +kernel⟩ ⟨rfl, rfl⟩ ⟨Nat.le_of_ble_eq_true rfl, Nat.le_of_ble_eq_true rfl⟩ rfl (Nat.le_of_ble_eq_true rfl) ⟨Nat.zero_le _, Nat.zero_le _⟩ (fun r2 w2 hf => ?_)
  refine V_istore_n X dX9_doScan_20 rfl (by decide) ?_
  refine V_iload_n X dX9_doScan_21 rfl rfl ?_
  refine V_iconst X dX9_doScan_22 ?_
  refine V_icmp_eq X (tgt := 37) dX9_doScan_23 (by decide) hf (fun hf => ?_) (fun hf => ?_)
  · refine V_gload_n X dX9_doScan_37 rfl rfl ?_
    refine V_geti X ob_85 rfl rfl hin_X9 43 (Nat.le_of_ble_eq_true rfl) tw_1359 rfl dX9_doScan_38 ?_
    refine V_istore_n X dX9_doScan_41 rfl (by decide) ?_
    refine V_gload_n X dX9_doScan_42 rfl rfl ?_
    refine V_geti X ob_85 rfl rfl hin_X9 39 (Nat.le_of_ble_eq_true rfl) tw_1355 rfl dX9_doScan_43 ?_
    refine V_istore X dX9_doScan_46 (by decide) ?_
    refine V_gload_n X dX9_doScan_48 rfl rfl ?_
    refine V_cVV X hf [] _ 0 (fun _ h => m_X9_assignKept h) ob_85 rfl tw_1793 tw_95 tw_1790 tw_1792 tw_72 dX9_doScan_49 ⟨by decide +kernel, by decide +kernel, by decide +kernel⟩ ⟨rfl, rfl⟩ ⟨Nat.le_of_ble_eq_true rfl, Nat.le_of_ble_eq_true rfl⟩ rfl (Nat.le_of_ble_eq_true rfl) ⟨Nat.zero_le _, Nat.zero_le _⟩ (fun r3 w3 hf => ?_)
    refine V_gload_n X dX9_doScan_52 rfl rfl ?_
    refine V_getr X ob_85 rfl rfl hin_X9 48 (Nat.le_of_ble_eq_true rfl) tw_1364 rfl dX9_doScan_53 ?_
    refine V_iload_n X dX9_doScan_56 rfl rfl ?_
    refine V_iald X ar_117 dX9_doScan_57 hf (fun hf => ?_)
    refine V_istore X dX9_doScan_58 (by decide) ?_
    refine V_iload X dX9_doScan_60 rfl ?_
    refine V_iconst X dX9_doScan_62 ?_
    refine V_icmp_ne X (tgt := 70) dX9_doScan_63 (by decide) hf (fun hf => ?_) (fun hf => ?_)
    · refine V_iconst X dX9_doScan_66 ?_
      refine V_goto X (tgt := 76) dX9_doScan_67 (by decide) ?_
      exact V_cut [0, 1, 3, 4, 5] rfl (v_X9_doScan_76 X hE hf)
    · refine V_gload_n X dX9_doScan_70 rfl rfl ?_
      refine V_iload X dX9_doScan_71 rfl ?_
      refine V_cVI X hf [vi (w3 117 (wr a1).toNat)] _ 1 (fun _ h => m_X9_workOut h) ob_85 rfl tw_1674 tw_95 tw_1671 tw_1673 tw_44 dX9_doScan_73 ⟨by decide +kernel, by decide +kernel, by decide +kernel⟩ ⟨rfl, rfl⟩ ⟨Nat.le_of_ble_eq_true rfl, Nat.le_of_ble_eq_true rfl⟩ rfl (Nat.le_of_ble_eq_true rfl) ⟨Nat.zero_le _, Nat.zero_le _⟩ (fun r5 w5 hf => ?_)
      exact V_cut [0, 1, 3, 4, 5] rfl (v_X9_doScan_76 X hE hf)
  · refine V_iload_n X dX9_doScan_26 rfl rfl ?_
    refine V_iconst X dX9_doScan_27 ?_
    refine V_icmp_ne X (tgt := 35) dX9_doScan_28 (by decide) hf (fun hf => ?_) (fun hf => ?_)
    · refine V_iconst X dX9_doScan_31 ?_
      refine V_goto X (tgt := 36) dX9_doScan_32 (by decide) ?_
      exact V_iret X hE dX9_doScan_36 hf
    · refine V_iconst X dX9_doScan_35 ?_
      exact V_iret X hE dX9_doScan_36 hf
abbrev rmX9_doCall : Room := { frames := 5, cells := 0, slots := 0, locals := 126 }
set_option maxRecDepth 20000 in
theorem m_X9_doCall {G : GG} {a1 : Int} {w : WS} {q : (Int × WS)}  (hf : f_X9_doCall a1 w = some q) : MI G yX9_doCall cX9_doCall 4 (some .int) rmX9_doCall [gr G 85, vi a1] w q := by
  refine MI_of (by decide +kernel) (Nat.le_of_ble_eq_true rfl) (fun E X hE => ?_)
  have X : Cx G E cX9_doCall RX9 (some .int) rmX9_doCall 4 := X
  unfold f_X9_doCall at hf
  refine V_gload_n X dX9_doCall_0 rfl rfl ?_
  refine V_gload_n X dX9_doCall_1 rfl rfl ?_
  refine V_getr X ob_85 rfl rfl hin_X9 48 (Nat.le_of_ble_eq_true rfl) tw_1364 rfl dX9_doCall_2 ?_
  refine V_iload_n X dX9_doCall_5 rfl rfl ?_
  refine V_iald X ar_117 dX9_doCall_6 hf (fun hf => ?_)
  refine V_cVI X hf [vi (w 117 (wr a1).toNat)] _ 1 (fun _ h => m_X9_workOut h) ob_85 rfl tw_1674 tw_95 tw_1671 tw_1673 tw_44 dX9_doCall_7 ⟨by decide +kernel, by decide +kernel, by decide +kernel⟩ ⟨rfl, rfl⟩ ⟨Nat.le_of_ble_eq_true rfl, Nat.le_of_ble_eq_true rfl⟩ rfl (Nat.le_of_ble_eq_true rfl) ⟨Nat.zero_le _, Nat.zero_le _⟩ (fun r1 w1 hf => ?_)
  refine V_istore_n X dX9_doCall_10 rfl (by decide) ?_
  refine V_iload_n X dX9_doCall_11 rfl rfl ?_
  refine V_if_eq X (tgt := 17) dX9_doCall_12 (by decide) hf (fun hf => ?_) (fun hf => ?_)
  · refine V_gload_n X dX9_doCall_17 rfl rfl ?_
    refine V_getr X ob_85 rfl rfl hin_X9 47 (Nat.le_of_ble_eq_true rfl) tw_1363 rfl dX9_doCall_18 ?_
    refine V_iload_n X dX9_doCall_21 rfl rfl ?_
    refine V_iald X ar_116 dX9_doCall_22 hf (fun hf => ?_)
    refine V_istore_n X dX9_doCall_23 rfl (by decide) ?_
    refine V_gload_n X dX9_doCall_24 rfl rfl ?_
    refine V_getr X ob_85 rfl rfl hin_X9 52 (Nat.le_of_ble_eq_true rfl) tw_1368 rfl dX9_doCall_25 ?_
    refine V_iload_n X dX9_doCall_28 rfl rfl ?_
    refine V_zald X ar_120 dX9_doCall_29 hf (fun hf => ?_)
    refine V_if_eq X (tgt := 42) dX9_doCall_30 (by decide) hf (fun hf => ?_) (fun hf => ?_)
    · refine V_iconst X dX9_doCall_42 ?_
      exact V_iret X hE dX9_doCall_43 hf
    · refine V_gload_n X dX9_doCall_33 rfl rfl ?_
      refine V_geti X ob_85 rfl rfl hin_X9 63 (Nat.le_of_ble_eq_true rfl) tw_1379 rfl dX9_doCall_34 ?_
      refine V_bipush X dX9_doCall_37 (by decide) ?_
      refine V_icmp_ne X (tgt := 44) dX9_doCall_39 (by decide) hf (fun hf => ?_) (fun hf => ?_)
      · refine V_iconst X dX9_doCall_42 ?_
        exact V_iret X hE dX9_doCall_43 hf
      · refine V_gload_n X dX9_doCall_44 rfl rfl ?_
        refine V_iconst X dX9_doCall_45 ?_
        refine V_gload_n X dX9_doCall_46 rfl rfl ?_
        refine V_geti X ob_85 rfl rfl hin_X9 63 (Nat.le_of_ble_eq_true rfl) tw_1379 rfl dX9_doCall_47 ?_
        refine V_imul X dX9_doCall_50 ?_
        refine V_gload_n X dX9_doCall_51 rfl rfl ?_
        refine V_getr X ob_85 rfl rfl hin_X9 54 (Nat.le_of_ble_eq_true rfl) tw_1370 rfl dX9_doCall_52 ?_
        refine V_iload_n X dX9_doCall_55 rfl rfl ?_
        refine V_iald X ar_122 dX9_doCall_56 hf (fun hf => ?_)
        refine V_cVV X hf [vi (3 * (w1 85 63)), vi (w1 122 (wr (w1 116 (wr a1).toNat)).toNat)] _ 2 (fun _ h => m_X9_save h) ob_85 rfl tw_1805 tw_95 tw_1802 tw_1804 tw_75 dX9_doCall_57 ⟨by decide +kernel, by decide +kernel, by decide +kernel⟩ ⟨rfl, rfl⟩ ⟨Nat.le_of_ble_eq_true rfl, Nat.le_of_ble_eq_true rfl⟩ rfl (Nat.le_of_ble_eq_true rfl) ⟨Nat.zero_le _, Nat.zero_le _⟩ (fun r2 w2 hf => ?_)
        refine V_gload_n X dX9_doCall_60 rfl rfl ?_
        refine V_iconst X dX9_doCall_61 ?_
        refine V_gload_n X dX9_doCall_62 rfl rfl ?_
        refine V_geti X ob_85 rfl rfl hin_X9 63 (Nat.le_of_ble_eq_true rfl) tw_1379 rfl dX9_doCall_63 ?_
        refine V_imul X dX9_doCall_66 ?_
        refine V_iconst X dX9_doCall_67 ?_
        refine V_iadd X dX9_doCall_68 ?_
        refine V_gload_n X dX9_doCall_69 rfl rfl ?_
        refine V_getr X ob_85 rfl rfl hin_X9 55 (Nat.le_of_ble_eq_true rfl) tw_1371 rfl dX9_doCall_70 ?_
        refine V_iload_n X dX9_doCall_73 rfl rfl ?_
        refine V_iald X ar_123 dX9_doCall_74 hf (fun hf => ?_)
        refine V_cVV X hf [vi ((3 * (w2 85 63)) + 1), vi (w2 123 (wr (w1 116 (wr a1).toNat)).toNat)] _ 2 (fun _ h => m_X9_save h) ob_85 rfl tw_1805 tw_95 tw_1802 tw_1804 tw_75 dX9_doCall_75 ⟨by decide +kernel, by decide +kernel, by decide +kernel⟩ ⟨rfl, rfl⟩ ⟨Nat.le_of_ble_eq_true rfl, Nat.le_of_ble_eq_true rfl⟩ rfl (Nat.le_of_ble_eq_true rfl) ⟨Nat.zero_le _, Nat.zero_le _⟩ (fun r3 w3 hf => ?_)
        refine V_gload_n X dX9_doCall_78 rfl rfl ?_
        refine V_iconst X dX9_doCall_79 ?_
        refine V_gload_n X dX9_doCall_80 rfl rfl ?_
        refine V_geti X ob_85 rfl rfl hin_X9 63 (Nat.le_of_ble_eq_true rfl) tw_1379 rfl dX9_doCall_81 ?_
        refine V_imul X dX9_doCall_84 ?_
        refine V_iconst X dX9_doCall_85 ?_
        refine V_iadd X dX9_doCall_86 ?_
        refine V_gload_n X dX9_doCall_87 rfl rfl ?_
        refine V_getr X ob_85 rfl rfl hin_X9 56 (Nat.le_of_ble_eq_true rfl) tw_1372 rfl dX9_doCall_88 ?_
        refine V_iload_n X dX9_doCall_91 rfl rfl ?_
        refine V_iald X ar_124 dX9_doCall_92 hf (fun hf => ?_)
        refine V_cVV X hf [vi ((3 * (w3 85 63)) + 2), vi (w3 124 (wr (w1 116 (wr a1).toNat)).toNat)] _ 2 (fun _ h => m_X9_save h) ob_85 rfl tw_1805 tw_95 tw_1802 tw_1804 tw_75 dX9_doCall_93 ⟨by decide +kernel, by decide +kernel, by decide +kernel⟩ ⟨rfl, rfl⟩ ⟨Nat.le_of_ble_eq_true rfl, Nat.le_of_ble_eq_true rfl⟩ rfl (Nat.le_of_ble_eq_true rfl) ⟨Nat.zero_le _, Nat.zero_le _⟩ (fun r4 w4 hf => ?_)
        refine V_gload_n X dX9_doCall_96 rfl rfl ?_
        refine V_getr X ob_85 rfl rfl hin_X9 64 (Nat.le_of_ble_eq_true rfl) tw_1380 rfl dX9_doCall_97 ?_
        refine V_gload_n X dX9_doCall_100 rfl rfl ?_
        refine V_geti X ob_85 rfl rfl hin_X9 63 (Nat.le_of_ble_eq_true rfl) tw_1379 rfl dX9_doCall_101 ?_
        refine V_iload_n X dX9_doCall_104 rfl rfl ?_
        refine V_iast X ar_127 dX9_doCall_105 hf (fun hf => ?_)
        refine V_gload_n X dX9_doCall_106 rfl rfl ?_
        refine V_getr X ob_85 rfl rfl hin_X9 65 (Nat.le_of_ble_eq_true rfl) tw_1381 rfl dX9_doCall_107 ?_
        refine V_gload_n X dX9_doCall_110 rfl rfl ?_
        refine V_geti X ob_85 rfl rfl hin_X9 63 (Nat.le_of_ble_eq_true rfl) tw_1379 rfl dX9_doCall_111 ?_
        refine V_iload_n X dX9_doCall_114 rfl rfl ?_
        refine V_iast X ar_128 dX9_doCall_115 hf (fun hf => ?_)
        refine V_gload_n X dX9_doCall_116 rfl rfl ?_
        refine V_dup X dX9_doCall_117 rfl ?_
        refine V_geti X ob_85 rfl rfl hin_X9 63 (Nat.le_of_ble_eq_true rfl) tw_1379 rfl dX9_doCall_118 ?_
        refine V_iconst X dX9_doCall_121 ?_
        refine V_iadd X dX9_doCall_122 ?_
        refine V_puti X ob_85 rfl rfl hin_X9 63 (Nat.le_of_ble_eq_true rfl) tw_1379 tyX9 tyX9_ok nmX9 rfl (by decide +kernel) rfl dX9_doCall_123 ?_
        refine V_gload_n X dX9_doCall_126 rfl rfl ?_
        refine V_gload_n X dX9_doCall_127 rfl rfl ?_
        refine V_getr X ob_85 rfl rfl hin_X9 54 (Nat.le_of_ble_eq_true rfl) tw_1370 rfl dX9_doCall_128 ?_
        refine V_iload_n X dX9_doCall_131 rfl rfl ?_
        refine V_iald X ar_122 dX9_doCall_132 hf (fun hf => ?_)
        refine V_gload_n X dX9_doCall_133 rfl rfl ?_
        refine V_getr X ob_85 rfl rfl hin_X9 48 (Nat.le_of_ble_eq_true rfl) tw_1364 rfl dX9_doCall_134 ?_
        refine V_iload_n X dX9_doCall_137 rfl rfl ?_
        refine V_iald X ar_117 dX9_doCall_138 hf (fun hf => ?_)
        refine V_cVV X hf [vi ((up (up (up w4 127 (wr (w4 85 63)).toNat a1) 128 (wr ((up w4 127 (wr (w4 85 63)).toNat a1) 85 63)).toNat (w1 116 (wr a1).toNat)) 85 63 (((up (up w4 127 (wr (w4 85 63)).toNat a1) 128 (wr ((up w4 127 (wr (w4 85 63)).toNat a1) 85 63)).toNat (w1 116 (wr a1).toNat)) 85 63) + 1)) 122 (wr (w1 116 (wr a1).toNat)).toNat), vi ((up (up (up w4 127 (wr (w4 85 63)).toNat a1) 128 (wr ((up w4 127 (wr (w4 85 63)).toNat a1) 85 63)).toNat (w1 116 (wr a1).toNat)) 85 63 (((up (up w4 127 (wr (w4 85 63)).toNat a1) 128 (wr ((up w4 127 (wr (w4 85 63)).toNat a1) 85 63)).toNat (w1 116 (wr a1).toNat)) 85 63) + 1)) 117 (wr a1).toNat)] _ 2 (fun _ h => m_X9_setTo h) ob_85 rfl tw_1809 tw_95 tw_1806 tw_1808 tw_76 dX9_doCall_139 ⟨by decide +kernel, by decide +kernel, by decide +kernel⟩ ⟨rfl, rfl⟩ ⟨Nat.le_of_ble_eq_true rfl, Nat.le_of_ble_eq_true rfl⟩ rfl (Nat.le_of_ble_eq_true rfl) ⟨Nat.zero_le _, Nat.zero_le _⟩ (fun r5 w5 hf => ?_)
        refine V_gload_n X dX9_doCall_142 rfl rfl ?_
        refine V_getr X ob_85 rfl rfl hin_X9 7 (Nat.le_of_ble_eq_true rfl) tw_1323 rfl dX9_doCall_143 ?_
        refine V_gload_n X dX9_doCall_146 rfl rfl ?_
        refine V_getr X ob_85 rfl rfl hin_X9 55 (Nat.le_of_ble_eq_true rfl) tw_1371 rfl dX9_doCall_147 ?_
        refine V_iload_n X dX9_doCall_150 rfl rfl ?_
        refine V_iald X ar_123 dX9_doCall_151 hf (fun hf => ?_)
        refine V_iconst X dX9_doCall_152 ?_
        refine V_iast X ar_90 dX9_doCall_153 hf (fun hf => ?_)
        refine V_gload_n X dX9_doCall_154 rfl rfl ?_
        refine V_getr X ob_85 rfl rfl hin_X9 7 (Nat.le_of_ble_eq_true rfl) tw_1323 rfl dX9_doCall_155 ?_
        refine V_gload_n X dX9_doCall_158 rfl rfl ?_
        refine V_getr X ob_85 rfl rfl hin_X9 56 (Nat.le_of_ble_eq_true rfl) tw_1372 rfl dX9_doCall_159 ?_
        refine V_iload_n X dX9_doCall_162 rfl rfl ?_
        refine V_iald X ar_124 dX9_doCall_163 hf (fun hf => ?_)
        refine V_iconst X dX9_doCall_164 ?_
        refine V_iast X ar_90 dX9_doCall_165 hf (fun hf => ?_)
        refine V_iconst X dX9_doCall_166 ?_
        exact V_iret X hE dX9_doCall_167 hf
  · refine V_iload_n X dX9_doCall_15 rfl rfl ?_
    exact V_iret X hE dX9_doCall_16 hf
abbrev rmX9_comeBack : Room := { frames := 1, cells := 0, slots := 0, locals := 23 }
set_option maxRecDepth 20000 in
theorem v_X9_comeBack_161 {G : GG} {E : EE} (X : Cx G E cX9_comeBack RX9 (some .int) rmX9_comeBack 7) {q : (Int × WS)} (hE : EndI G E q)   : ∀ (n : Nat) (a2 a5 a6 : Int) (w : WS), f_X9_comeBack_161   n a2 a5 a6 w = some q → VV G E 0 0 161 [(0, gr G 85), (2, vi a2), (5, vi a5), (6, vi a6)] [] w := by
  intro n
  induction n with
  | zero => intro a2 a5 a6 w hf; cases hf
  | succ n ih =>
    intro a2 a5 a6 w hf
    rw [f_X9_comeBack_161_s] at hf
    refine V_iload X dX9_comeBack_161 rfl ?_
    refine V_gload_n X dX9_comeBack_163 rfl rfl ?_
    refine V_geti X ob_85 rfl rfl hin_X9 69 (Nat.le_of_ble_eq_true rfl) tw_1385 rfl dX9_comeBack_164 ?_
    refine V_icmp_ge X (tgt := 196) dX9_comeBack_167 (by decide) hf (fun hf => ?_) (fun hf => ?_)
    · refine V_gload_n X dX9_comeBack_170 rfl rfl ?_
      refine V_getr X ob_85 rfl rfl hin_X9 6 (Nat.le_of_ble_eq_true rfl) tw_1322 rfl dX9_comeBack_171 ?_
      refine V_bipush X dX9_comeBack_174 (by decide) ?_
      refine V_iload X dX9_comeBack_176 rfl ?_
      refine V_imul X dX9_comeBack_178 ?_
      refine V_iload X dX9_comeBack_179 rfl ?_
      refine V_iadd X dX9_comeBack_181 ?_
      refine V_gload_n X dX9_comeBack_182 rfl rfl ?_
      refine V_getr X ob_85 rfl rfl hin_X9 68 (Nat.le_of_ble_eq_true rfl) tw_1384 rfl dX9_comeBack_183 ?_
      refine V_iload X dX9_comeBack_186 rfl ?_
      refine V_iald X ar_131 dX9_comeBack_188 hf (fun hf => ?_)
      refine V_iast X ar_89 dX9_comeBack_189 hf (fun hf => ?_)
      refine V_iinc X dX9_comeBack_190 rfl (by decide) ?_
      refine V_goto X (tgt := 161) dX9_comeBack_193 (by decide) ?_
      exact V_cut [0, 2, 5, 6] rfl (ih _ _ _ _ hf)
    · refine V_goto X (tgt := 209) dX9_comeBack_196 (by decide) ?_
      refine V_iload_n X dX9_comeBack_209 rfl rfl ?_
      exact V_iret X hE dX9_comeBack_210 hf
set_option maxRecDepth 20000 in
theorem v_X9_comeBack_52 {G : GG} {E : EE} (X : Cx G E cX9_comeBack RX9 (some .int) rmX9_comeBack 7) {q : (Int × WS)} (hE : EndI G E q)   : ∀ (n : Nat) (a1 a2 a3 a4 a5 : Int) (w : WS), f_X9_comeBack_52   n a1 a2 a3 a4 a5 w = some q → VV G E 0 0 52 [(0, gr G 85), (1, vi a1), (2, vi a2), (3, vi a3), (4, vi a4), (5, vi a5)] [] w := by
  intro n
  induction n with
  | zero => intro a1 a2 a3 a4 a5 w hf; cases hf
  | succ n ih =>
    intro a1 a2 a3 a4 a5 w hf
    rw [f_X9_comeBack_52_s] at hf
    refine V_iload X dX9_comeBack_52 rfl ?_
    refine V_gload_n X dX9_comeBack_54 rfl rfl ?_
    refine V_geti X ob_85 rfl rfl hin_X9 69 (Nat.le_of_ble_eq_true rfl) tw_1385 rfl dX9_comeBack_55 ?_
    refine V_icmp_ge X (tgt := 87) dX9_comeBack_58 (by decide) hf (fun hf => ?_) (fun hf => ?_)
    · refine V_gload_n X dX9_comeBack_61 rfl rfl ?_
      refine V_getr X ob_85 rfl rfl hin_X9 68 (Nat.le_of_ble_eq_true rfl) tw_1384 rfl dX9_comeBack_62 ?_
      refine V_iload X dX9_comeBack_65 rfl ?_
      refine V_gload_n X dX9_comeBack_67 rfl rfl ?_
      refine V_getr X ob_85 rfl rfl hin_X9 6 (Nat.le_of_ble_eq_true rfl) tw_1322 rfl dX9_comeBack_68 ?_
      refine V_bipush X dX9_comeBack_71 (by decide) ?_
      refine V_iload X dX9_comeBack_73 rfl ?_
      refine V_imul X dX9_comeBack_75 ?_
      refine V_iload X dX9_comeBack_76 rfl ?_
      refine V_iadd X dX9_comeBack_78 ?_
      refine V_iald X ar_89 dX9_comeBack_79 hf (fun hf => ?_)
      refine V_iast X ar_131 dX9_comeBack_80 hf (fun hf => ?_)
      refine V_iinc X dX9_comeBack_81 rfl (by decide) ?_
      refine V_goto X (tgt := 52) dX9_comeBack_84 (by decide) ?_
      exact V_cut [0, 1, 2, 3, 4, 5] rfl (ih _ _ _ _ _ _ hf)
    · refine V_gload_n X dX9_comeBack_87 rfl rfl ?_
      refine V_iconst X dX9_comeBack_88 ?_
      refine V_gload_n X dX9_comeBack_89 rfl rfl ?_
      refine V_geti X ob_85 rfl rfl hin_X9 63 (Nat.le_of_ble_eq_true rfl) tw_1379 rfl dX9_comeBack_90 ?_
      refine V_imul X dX9_comeBack_93 ?_
      refine V_gload_n X dX9_comeBack_94 rfl rfl ?_
      refine V_getr X ob_85 rfl rfl hin_X9 54 (Nat.le_of_ble_eq_true rfl) tw_1370 rfl dX9_comeBack_95 ?_
      refine V_iload_n X dX9_comeBack_98 rfl rfl ?_
      refine V_iald X ar_122 dX9_comeBack_99 hf (fun hf => ?_)
      refine V_cVV X hf [vi (3 * (w 85 63)), vi (w 122 (wr a3).toNat)] _ 2 (fun _ h => m_X9_putBack h) ob_85 rfl tw_1821 tw_95 tw_1818 tw_1820 tw_79 dX9_comeBack_100 ⟨by decide +kernel, by decide +kernel, by decide +kernel⟩ ⟨rfl, rfl⟩ ⟨Nat.le_of_ble_eq_true rfl, Nat.le_of_ble_eq_true rfl⟩ rfl (Nat.le_of_ble_eq_true rfl) ⟨Nat.zero_le _, Nat.zero_le _⟩ (fun r1 w1 hf => ?_)
      refine V_gload_n X dX9_comeBack_103 rfl rfl ?_
      refine V_iconst X dX9_comeBack_104 ?_
      refine V_gload_n X dX9_comeBack_105 rfl rfl ?_
      refine V_geti X ob_85 rfl rfl hin_X9 63 (Nat.le_of_ble_eq_true rfl) tw_1379 rfl dX9_comeBack_106 ?_
      refine V_imul X dX9_comeBack_109 ?_
      refine V_iconst X dX9_comeBack_110 ?_
      refine V_iadd X dX9_comeBack_111 ?_
      refine V_gload_n X dX9_comeBack_112 rfl rfl ?_
      refine V_getr X ob_85 rfl rfl hin_X9 55 (Nat.le_of_ble_eq_true rfl) tw_1371 rfl dX9_comeBack_113 ?_
      refine V_iload_n X dX9_comeBack_116 rfl rfl ?_
      refine V_iald X ar_123 dX9_comeBack_117 hf (fun hf => ?_)
      refine V_cVV X hf [vi ((3 * (w1 85 63)) + 1), vi (w1 123 (wr a3).toNat)] _ 2 (fun _ h => m_X9_putBack h) ob_85 rfl tw_1821 tw_95 tw_1818 tw_1820 tw_79 dX9_comeBack_118 ⟨by decide +kernel, by decide +kernel, by decide +kernel⟩ ⟨rfl, rfl⟩ ⟨Nat.le_of_ble_eq_true rfl, Nat.le_of_ble_eq_true rfl⟩ rfl (Nat.le_of_ble_eq_true rfl) ⟨Nat.zero_le _, Nat.zero_le _⟩ (fun r2 w2 hf => ?_)
      refine V_gload_n X dX9_comeBack_121 rfl rfl ?_
      refine V_iconst X dX9_comeBack_122 ?_
      refine V_gload_n X dX9_comeBack_123 rfl rfl ?_
      refine V_geti X ob_85 rfl rfl hin_X9 63 (Nat.le_of_ble_eq_true rfl) tw_1379 rfl dX9_comeBack_124 ?_
      refine V_imul X dX9_comeBack_127 ?_
      refine V_iconst X dX9_comeBack_128 ?_
      refine V_iadd X dX9_comeBack_129 ?_
      refine V_iload X dX9_comeBack_130 rfl ?_
      refine V_cVV X hf [vi ((3 * (w2 85 63)) + 2), vi a4] _ 2 (fun _ h => m_X9_putBack h) ob_85 rfl tw_1821 tw_95 tw_1818 tw_1820 tw_79 dX9_comeBack_132 ⟨by decide +kernel, by decide +kernel, by decide +kernel⟩ ⟨rfl, rfl⟩ ⟨Nat.le_of_ble_eq_true rfl, Nat.le_of_ble_eq_true rfl⟩ rfl (Nat.le_of_ble_eq_true rfl) ⟨Nat.zero_le _, Nat.zero_le _⟩ (fun r3 w3 hf => ?_)
      refine V_gload_n X dX9_comeBack_135 rfl rfl ?_
      refine V_getr X ob_85 rfl rfl hin_X9 46 (Nat.le_of_ble_eq_true rfl) tw_1362 rfl dX9_comeBack_136 ?_
      refine V_iload_n X dX9_comeBack_139 rfl rfl ?_
      refine V_iald X ar_115 dX9_comeBack_140 hf (fun hf => ?_)
      refine V_istore X dX9_comeBack_141 (by decide) ?_
      refine V_iload_n X dX9_comeBack_143 rfl rfl ?_
      refine V_if_eq X (tgt := 199) dX9_comeBack_144 (by decide) hf (fun hf => ?_) (fun hf => ?_)
      · refine V_gload_n X dX9_comeBack_199 rfl rfl ?_
        refine V_getr X ob_85 rfl rfl hin_X9 58 (Nat.le_of_ble_eq_true rfl) tw_1374 rfl dX9_comeBack_200 ?_
        refine V_iload_n X dX9_comeBack_203 rfl rfl ?_
        refine V_dup2 X dX9_comeBack_204 rfl rfl ?_
        refine V_iald X ar_126 dX9_comeBack_205 hf (fun hf => ?_)
        refine V_iconst X dX9_comeBack_206 ?_
        refine V_iadd X dX9_comeBack_207 ?_
        refine V_iast X ar_126 dX9_comeBack_208 hf (fun hf => ?_)
        refine V_iload_n X dX9_comeBack_209 rfl rfl ?_
        exact V_iret X hE dX9_comeBack_210 hf
      · refine V_gload_n X dX9_comeBack_147 rfl rfl ?_
        refine V_getr X ob_85 rfl rfl hin_X9 7 (Nat.le_of_ble_eq_true rfl) tw_1323 rfl dX9_comeBack_148 ?_
        refine V_iload X dX9_comeBack_151 rfl ?_
        refine V_gload_n X dX9_comeBack_153 rfl rfl ?_
        refine V_geti X ob_85 rfl rfl hin_X9 69 (Nat.le_of_ble_eq_true rfl) tw_1385 rfl dX9_comeBack_154 ?_
        refine V_iast X ar_90 dX9_comeBack_157 hf (fun hf => ?_)
        refine V_iconst X dX9_comeBack_158 ?_
        refine V_istore X dX9_comeBack_159 (by decide) ?_
        exact V_cut [0, 2, 5, 6] rfl (v_X9_comeBack_161 X hE FU _ _ _ _ hf)
set_option maxRecDepth 20000 in
theorem m_X9_comeBack {G : GG} {a1 : Int} {w : WS} {q : (Int × WS)}  (hf : f_X9_comeBack a1 w = some q) : MI G yX9_comeBack cX9_comeBack 7 (some .int) rmX9_comeBack [gr G 85, vi a1] w q := by
  refine MI_of (by decide +kernel) (Nat.le_of_ble_eq_true rfl) (fun E X hE => ?_)
  have X : Cx G E cX9_comeBack RX9 (some .int) rmX9_comeBack 7 := X
  unfold f_X9_comeBack at hf
  refine V_gload_n X dX9_comeBack_0 rfl rfl ?_
  refine V_dup X dX9_comeBack_1 rfl ?_
  refine V_geti X ob_85 rfl rfl hin_X9 63 (Nat.le_of_ble_eq_true rfl) tw_1379 rfl dX9_comeBack_2 ?_
  refine V_iconst X dX9_comeBack_5 ?_
  refine V_isub X dX9_comeBack_6 ?_
  refine V_puti X ob_85 rfl rfl hin_X9 63 (Nat.le_of_ble_eq_true rfl) tw_1379 tyX9 tyX9_ok nmX9 rfl (by decide +kernel) rfl dX9_comeBack_7 ?_
  refine V_gload_n X dX9_comeBack_10 rfl rfl ?_
  refine V_getr X ob_85 rfl rfl hin_X9 64 (Nat.le_of_ble_eq_true rfl) tw_1380 rfl dX9_comeBack_11 ?_
  refine V_gload_n X dX9_comeBack_14 rfl rfl ?_
  refine V_geti X ob_85 rfl rfl hin_X9 63 (Nat.le_of_ble_eq_true rfl) tw_1379 rfl dX9_comeBack_15 ?_
  refine V_iald X ar_127 dX9_comeBack_18 hf (fun hf => ?_)
  refine V_istore_n X dX9_comeBack_19 rfl (by decide) ?_
  refine V_gload_n X dX9_comeBack_20 rfl rfl ?_
  refine V_getr X ob_85 rfl rfl hin_X9 65 (Nat.le_of_ble_eq_true rfl) tw_1381 rfl dX9_comeBack_21 ?_
  refine V_gload_n X dX9_comeBack_24 rfl rfl ?_
  refine V_geti X ob_85 rfl rfl hin_X9 63 (Nat.le_of_ble_eq_true rfl) tw_1379 rfl dX9_comeBack_25 ?_
  refine V_iald X ar_128 dX9_comeBack_28 hf (fun hf => ?_)
  refine V_istore_n X dX9_comeBack_29 rfl (by decide) ?_
  refine V_gload_n X dX9_comeBack_30 rfl rfl ?_
  refine V_getr X ob_85 rfl rfl hin_X9 56 (Nat.le_of_ble_eq_true rfl) tw_1372 rfl dX9_comeBack_31 ?_
  refine V_iload_n X dX9_comeBack_34 rfl rfl ?_
  refine V_iald X ar_124 dX9_comeBack_35 hf (fun hf => ?_)
  refine V_istore X dX9_comeBack_36 (by decide) ?_
  refine V_gload_n X dX9_comeBack_38 rfl rfl ?_
  refine V_gload_n X dX9_comeBack_39 rfl rfl ?_
  refine V_getr X ob_85 rfl rfl hin_X9 7 (Nat.le_of_ble_eq_true rfl) tw_1323 rfl dX9_comeBack_40 ?_
  refine V_iload X dX9_comeBack_43 rfl ?_
  refine V_iald X ar_90 dX9_comeBack_45 hf (fun hf => ?_)
  refine V_puti X ob_85 rfl rfl hin_X9 69 (Nat.le_of_ble_eq_true rfl) tw_1385 tyX9 tyX9_ok nmX9 rfl (by decide +kernel) rfl dX9_comeBack_46 ?_
  refine V_iconst X dX9_comeBack_49 ?_
  refine V_istore X dX9_comeBack_50 (by decide) ?_
  exact V_cut [0, 1, 2, 3, 4, 5] rfl (v_X9_comeBack_52 X hE FU _ _ _ _ _ _ hf)
abbrev rmX9_goOn : Room := { frames := 2, cells := 0, slots := 0, locals := 49 }
set_option maxRecDepth 20000 in
theorem v_X9_goOn_45 {G : GG} {E : EE} (X : Cx G E cX9_goOn RX9 none rmX9_goOn 6) {q : (Int × WS)} (hE : EndV G E q)   {k5 : Int → Int → WS → Option (Int × WS)} (hk5 : ∀ (a3 a4 : Int) (w : WS), k5 a3 a4 w = some q → VV G E 0 0 5 [(0, gr G 85), (3, vi a3), (4, vi a4)] [] w) {s0 : Int} {w : WS} (hf : f_X9_goOn_45  k5 s0 w = some q) : VV G E 0 0 45 [(0, gr G 85)] [vi s0] w := by
  unfold f_X9_goOn_45 at hf
  refine V_istore X dX9_goOn_45 (by decide) ?_
  refine V_gload_n X dX9_goOn_47 rfl rfl ?_
  refine V_iload X dX9_goOn_48 rfl ?_
  refine V_cVI X hf [vi s0] _ 1 (fun _ h => m_X9_comeBack h) ob_85 rfl tw_1817 tw_95 tw_1814 tw_1816 tw_78 dX9_goOn_50 ⟨by decide +kernel, by decide +kernel, by decide +kernel⟩ ⟨rfl, rfl⟩ ⟨Nat.le_of_ble_eq_true rfl, Nat.le_of_ble_eq_true rfl⟩ rfl (Nat.le_of_ble_eq_true rfl) ⟨Nat.zero_le _, Nat.zero_le _⟩ (fun r1 w1 hf => ?_)
  refine V_istore_n X dX9_goOn_53 rfl (by decide) ?_
  refine V_iload X dX9_goOn_54 rfl ?_
  refine V_if_eq X (tgt := 68) dX9_goOn_56 (by decide) hf (fun hf => ?_) (fun hf => ?_)
  · refine V_gload_n X dX9_goOn_68 rfl rfl ?_
    refine V_getr X ob_85 rfl rfl hin_X9 50 (Nat.le_of_ble_eq_true rfl) tw_1366 rfl dX9_goOn_69 ?_
    refine V_iload_n X dX9_goOn_72 rfl rfl ?_
    refine V_iald X ar_119 dX9_goOn_73 hf (fun hf => ?_)
    refine V_istore X dX9_goOn_74 (by decide) ?_
    refine V_goto X (tgt := 5) dX9_goOn_76 (by decide) ?_
    exact V_cut [0, 3, 4] rfl (hk5 _ _ _ hf)
  · refine V_gload_n X dX9_goOn_59 rfl rfl ?_
    refine V_getr X ob_85 rfl rfl hin_X9 49 (Nat.le_of_ble_eq_true rfl) tw_1365 rfl dX9_goOn_60 ?_
    refine V_iload_n X dX9_goOn_63 rfl rfl ?_
    refine V_iald X ar_118 dX9_goOn_64 hf (fun hf => ?_)
    refine V_goto X (tgt := 74) dX9_goOn_65 (by decide) ?_
    refine V_istore X dX9_goOn_74 (by decide) ?_
    refine V_goto X (tgt := 5) dX9_goOn_76 (by decide) ?_
    exact V_cut [0, 3, 4] rfl (hk5 _ _ _ hf)
set_option maxRecDepth 20000 in
theorem v_X9_goOn_19 {G : GG} {E : EE} (X : Cx G E cX9_goOn RX9 none rmX9_goOn 6) {q : (Int × WS)} (hE : EndV G E q)   {k5 : Int → Int → WS → Option (Int × WS)} (hk5 : ∀ (a3 a4 : Int) (w : WS), k5 a3 a4 w = some q → VV G E 0 0 5 [(0, gr G 85), (3, vi a3), (4, vi a4)] [] w) {a4 : Int} {w : WS} (hf : f_X9_goOn_19  k5 a4 w = some q) : VV G E 0 0 19 [(0, gr G 85), (4, vi a4)] [] w := by
  unfold f_X9_goOn_19 at hf
  refine V_gload_n X dX9_goOn_19 rfl rfl ?_
  refine V_geti X ob_85 rfl rfl hin_X9 63 (Nat.le_of_ble_eq_true rfl) tw_1379 rfl dX9_goOn_20 ?_
  refine V_if_ne X (tgt := 33) dX9_goOn_23 (by decide) hf (fun hf => ?_) (fun hf => ?_)
  · refine V_gload_n X dX9_goOn_26 rfl rfl ?_
    refine V_bipush X dX9_goOn_27 (by decide) ?_
    refine V_puti X ob_85 rfl rfl hin_X9 61 (Nat.le_of_ble_eq_true rfl) tw_1377 tyX9 tyX9_ok nmX9 rfl (by decide +kernel) rfl dX9_goOn_29 ?_
    exact V_vret X hE dX9_goOn_32 hf
  · refine V_iload X dX9_goOn_33 rfl ?_
    refine V_bipush X dX9_goOn_35 (by decide) ?_
    refine V_icmp_ne X (tgt := 44) dX9_goOn_37 (by decide) hf (fun hf => ?_) (fun hf => ?_)
    · refine V_iconst X dX9_goOn_40 ?_
      refine V_goto X (tgt := 45) dX9_goOn_41 (by decide) ?_
      exact V_cut [0] rfl (v_X9_goOn_45 X hE hk5 hf)
    · refine V_iconst X dX9_goOn_44 ?_
      exact V_cut [0] rfl (v_X9_goOn_45 X hE hk5 hf)
set_option maxRecDepth 20000 in
theorem v_X9_goOn_123 {G : GG} {E : EE} (X : Cx G E cX9_goOn RX9 none rmX9_goOn 6) {q : (Int × WS)} (hE : EndV G E q)   {a5 s0 : Int} {w : WS} (hf : f_X9_goOn_123   a5 s0 w = some q) : VV G E 0 0 123 [(0, gr G 85), (5, vi a5)] [vi s0, gr G 85] w := by
  unfold f_X9_goOn_123 at hf
  obtain ⟨hz, hf⟩ := ite_n hf
  refine V_putz X ob_85 rfl rfl hin_X9 71 (Nat.le_of_ble_eq_true rfl) tw_1387 tyX9 tyX9_ok nmX9 rfl (by decide +kernel) hz rfl dX9_goOn_123 ?_
  refine V_gload_n X dX9_goOn_126 rfl rfl ?_
  refine V_gload_n X dX9_goOn_127 rfl rfl ?_
  refine V_geti X ob_85 rfl rfl hin_X9 71 (Nat.le_of_ble_eq_true rfl) tw_1387 rfl dX9_goOn_128 ?_
  refine V_if_ne X (tgt := 148) dX9_goOn_131 (by decide) hf (fun hf => ?_) (fun hf => ?_)
  · refine V_iload X dX9_goOn_134 rfl ?_
    refine V_gload_n X dX9_goOn_136 rfl rfl ?_
    refine V_geti X ob_85 rfl rfl hin_X9 51 (Nat.le_of_ble_eq_true rfl) tw_1367 rfl dX9_goOn_137 ?_
    refine V_icmp_lt X (tgt := 148) dX9_goOn_140 (by decide) hf (fun hf => ?_) (fun hf => ?_)
    · refine V_iconst X dX9_goOn_148 ?_
      refine V_puti X ob_85 rfl rfl hin_X9 61 (Nat.le_of_ble_eq_true rfl) tw_1377 tyX9 tyX9_ok nmX9 rfl (by decide +kernel) rfl dX9_goOn_149 ?_
      refine V_gload_n X dX9_goOn_152 rfl rfl ?_
      refine V_iload X dX9_goOn_153 rfl ?_
      refine V_puti X ob_85 rfl rfl hin_X9 70 (Nat.le_of_ble_eq_true rfl) tw_1386 tyX9 tyX9_ok nmX9 rfl (by decide +kernel) rfl dX9_goOn_155 ?_
      exact V_vret X hE dX9_goOn_158 hf
    · refine V_bipush X dX9_goOn_143 (by decide) ?_
      refine V_goto X (tgt := 149) dX9_goOn_145 (by decide) ?_
      refine V_puti X ob_85 rfl rfl hin_X9 61 (Nat.le_of_ble_eq_true rfl) tw_1377 tyX9 tyX9_ok nmX9 rfl (by decide +kernel) rfl dX9_goOn_149 ?_
      refine V_gload_n X dX9_goOn_152 rfl rfl ?_
      refine V_iload X dX9_goOn_153 rfl ?_
      refine V_puti X ob_85 rfl rfl hin_X9 70 (Nat.le_of_ble_eq_true rfl) tw_1386 tyX9 tyX9_ok nmX9 rfl (by decide +kernel) rfl dX9_goOn_155 ?_
      exact V_vret X hE dX9_goOn_158 hf
  · refine V_iconst X dX9_goOn_148 ?_
    refine V_puti X ob_85 rfl rfl hin_X9 61 (Nat.le_of_ble_eq_true rfl) tw_1377 tyX9 tyX9_ok nmX9 rfl (by decide +kernel) rfl dX9_goOn_149 ?_
    refine V_gload_n X dX9_goOn_152 rfl rfl ?_
    refine V_iload X dX9_goOn_153 rfl ?_
    refine V_puti X ob_85 rfl rfl hin_X9 70 (Nat.le_of_ble_eq_true rfl) tw_1386 tyX9 tyX9_ok nmX9 rfl (by decide +kernel) rfl dX9_goOn_155 ?_
    exact V_vret X hE dX9_goOn_158 hf
set_option maxRecDepth 20000 in
theorem v_X9_goOn_118 {G : GG} {E : EE} (X : Cx G E cX9_goOn RX9 none rmX9_goOn 6) {q : (Int × WS)} (hE : EndV G E q)   {a5 : Int} {w : WS} (hf : f_X9_goOn_118   a5 w = some q) : VV G E 0 0 118 [(0, gr G 85), (5, vi a5)] [gr G 85] w := by
  unfold f_X9_goOn_118 at hf
  refine V_iconst X dX9_goOn_118 ?_
  refine V_goto X (tgt := 123) dX9_goOn_119 (by decide) ?_
  exact V_cut [0, 5] rfl (v_X9_goOn_123 X hE hf)
set_option maxRecDepth 20000 in
theorem v_X9_goOn_122 {G : GG} {E : EE} (X : Cx G E cX9_goOn RX9 none rmX9_goOn 6) {q : (Int × WS)} (hE : EndV G E q)   {a5 : Int} {w : WS} (hf : f_X9_goOn_122   a5 w = some q) : VV G E 0 0 122 [(0, gr G 85), (5, vi a5)] [gr G 85] w := by
  unfold f_X9_goOn_122 at hf
  refine V_iconst X dX9_goOn_122 ?_
  exact V_cut [0, 5] rfl (v_X9_goOn_123 X hE hf)
set_option maxRecDepth 20000 in
theorem v_X9_goOn_93 {G : GG} {E : EE} (X : Cx G E cX9_goOn RX9 none rmX9_goOn 6) {q : (Int × WS)} (hE : EndV G E q)   {a4 s0 : Int} {w : WS} (hf : f_X9_goOn_93   a4 s0 w = some q) : VV G E 0 0 93 [(0, gr G 85), (4, vi a4)] [vi s0] w := by
  unfold f_X9_goOn_93 at hf
  refine V_istore X dX9_goOn_93 (by decide) ?_
  refine V_gload_n X dX9_goOn_95 rfl rfl ?_
  refine V_iload X dX9_goOn_96 rfl ?_
  refine V_bipush X dX9_goOn_98 (by decide) ?_
  refine V_icmp_eq X (tgt := 118) dX9_goOn_100 (by decide) hf (fun hf => ?_) (fun hf => ?_)
  · exact V_cut [0, 5] rfl (v_X9_goOn_118 X hE hf)
  · refine V_iload X dX9_goOn_103 rfl ?_
    refine V_iconst X dX9_goOn_105 ?_
    refine V_icmp_ne X (tgt := 122) dX9_goOn_106 (by decide) hf (fun hf => ?_) (fun hf => ?_)
    · refine V_iload X dX9_goOn_109 rfl ?_
      refine V_gload_n X dX9_goOn_111 rfl rfl ?_
      refine V_geti X ob_85 rfl rfl hin_X9 51 (Nat.le_of_ble_eq_true rfl) tw_1367 rfl dX9_goOn_112 ?_
      refine V_icmp_lt X (tgt := 122) dX9_goOn_115 (by decide) hf (fun hf => ?_) (fun hf => ?_)
      · exact V_cut [0, 5] rfl (v_X9_goOn_122 X hE hf)
      · exact V_cut [0, 5] rfl (v_X9_goOn_118 X hE hf)
    · exact V_cut [0, 5] rfl (v_X9_goOn_122 X hE hf)
set_option maxRecDepth 20000 in
theorem v_X9_goOn_5 {G : GG} {E : EE} (X : Cx G E cX9_goOn RX9 none rmX9_goOn 6) {q : (Int × WS)} (hE : EndV G E q)   : ∀ (n : Nat) (a3 a4 : Int) (w : WS), f_X9_goOn_5   n a3 a4 w = some q → VV G E 0 0 5 [(0, gr G 85), (3, vi a3), (4, vi a4)] [] w := by
  intro n
  induction n with
  | zero => intro a3 a4 w hf; cases hf
  | succ n ih =>
    intro a3 a4 w hf
    rw [f_X9_goOn_5_s] at hf
    refine V_iload X dX9_goOn_5 rfl ?_
    refine V_bipush X dX9_goOn_7 (by decide) ?_
    refine V_icmp_eq X (tgt := 19) dX9_goOn_9 (by decide) hf (fun hf => ?_) (fun hf => ?_)
    · exact V_cut [0, 4] rfl (v_X9_goOn_19 X hE (fun x0 x1 x hf => ih x0 x1 x hf) hf)
    · refine V_iload X dX9_goOn_12 rfl ?_
      refine V_bipush X dX9_goOn_14 (by decide) ?_
      refine V_icmp_ne X (tgt := 79) dX9_goOn_16 (by decide) hf (fun hf => ?_) (fun hf => ?_)
      · exact V_cut [0, 4] rfl (v_X9_goOn_19 X hE (fun x0 x1 x hf => ih x0 x1 x hf) hf)
      · refine V_iload X dX9_goOn_79 rfl ?_
        refine V_iconst X dX9_goOn_81 ?_
        refine V_icmp_ne X (tgt := 91) dX9_goOn_82 (by decide) hf (fun hf => ?_) (fun hf => ?_)
        · refine V_iload_n X dX9_goOn_85 rfl rfl ?_
          refine V_iconst X dX9_goOn_86 ?_
          refine V_iadd X dX9_goOn_87 ?_
          refine V_goto X (tgt := 93) dX9_goOn_88 (by decide) ?_
          exact V_cut [0, 4] rfl (v_X9_goOn_93 X hE hf)
        · refine V_iload X dX9_goOn_91 rfl ?_
          exact V_cut [0, 4] rfl (v_X9_goOn_93 X hE hf)
set_option maxRecDepth 20000 in
theorem m_X9_goOn {G : GG} {a1 : Int} {a2 : Int} {w : WS} {q : (Int × WS)}  (hf : f_X9_goOn a1 a2 w = some q) : MV G yX9_goOn cX9_goOn 6 none rmX9_goOn [gr G 85, vi a1, vi a2] w q := by
  refine MV_of (by decide +kernel) (Nat.le_of_ble_eq_true rfl) (fun E X hE => ?_)
  have X : Cx G E cX9_goOn RX9 none rmX9_goOn 6 := X
  unfold f_X9_goOn at hf
  refine V_iload_n X dX9_goOn_0 rfl rfl ?_
  refine V_istore_n X dX9_goOn_1 rfl (by decide) ?_
  refine V_iload_n X dX9_goOn_2 rfl rfl ?_
  refine V_istore X dX9_goOn_3 (by decide) ?_
  exact V_cut [0, 3, 4] rfl (v_X9_goOn_5 X hE FU _ _ _ hf)
abbrev rmX9_doStatement : Room := { frames := 7, cells := 0, slots := 0, locals := 171 }
set_option maxRecDepth 20000 in
theorem v_X9_doStatement_173 {G : GG} {E : EE} (X : Cx G E cX9_doStatement RX9 none rmX9_doStatement 4) {q : (Int × WS)} (hE : EndV G E q)   {a1 : Int} {w : WS} (hf : f_X9_doStatement_173   a1 w = some q) : VV G E 0 0 173 [(0, gr G 85), (1, vi a1)] [] w := by
  unfold f_X9_doStatement_173 at hf
  refine V_gload_n X dX9_doStatement_173 rfl rfl ?_
  refine V_iload_n X dX9_doStatement_174 rfl rfl ?_
  refine V_gload_n X dX9_doStatement_175 rfl rfl ?_
  refine V_getr X ob_85 rfl rfl hin_X9 49 (Nat.le_of_ble_eq_true rfl) tw_1365 rfl dX9_doStatement_176 ?_
  refine V_iload_n X dX9_doStatement_179 rfl rfl ?_
  refine V_iald X ar_118 dX9_doStatement_180 hf (fun hf => ?_)
  refine V_cVV X hf [vi a1, vi (w 118 (wr a1).toNat)] _ 2 (fun _ h => m_X9_goOn h) ob_85 rfl tw_1813 tw_95 tw_1810 tw_1812 tw_77 dX9_doStatement_181 ⟨by decide +kernel, by decide +kernel, by decide +kernel⟩ ⟨rfl, rfl⟩ ⟨Nat.le_of_ble_eq_true rfl, Nat.le_of_ble_eq_true rfl⟩ rfl (Nat.le_of_ble_eq_true rfl) ⟨Nat.zero_le _, Nat.zero_le _⟩ (fun r4 w4 hf => ?_)
  exact V_vret X hE dX9_doStatement_184 hf
set_option maxRecDepth 20000 in
theorem v_X9_doStatement_70 {G : GG} {E : EE} (X : Cx G E cX9_doStatement RX9 none rmX9_doStatement 4) {q : (Int × WS)} (hE : EndV G E q)   {a1 a2 s0 : Int} {w : WS} (hf : f_X9_doStatement_70   a1 a2 s0 w = some q) : VV G E 0 0 70 [(0, gr G 85), (1, vi a1), (2, vi a2)] [vi s0] w := by
  unfold f_X9_doStatement_70 at hf
  refine V_istore_n X dX9_doStatement_70 rfl (by decide) ?_
  refine V_iload_n X dX9_doStatement_71 rfl rfl ?_
  refine V_if_le X (tgt := 81) dX9_doStatement_72 (by decide) hf (fun hf => ?_) (fun hf => ?_)
  · refine V_gload_n X dX9_doStatement_75 rfl rfl ?_
    refine V_iload_n X dX9_doStatement_76 rfl rfl ?_
    refine V_puti X ob_85 rfl rfl hin_X9 61 (Nat.le_of_ble_eq_true rfl) tw_1377 tyX9 tyX9_ok nmX9 rfl (by decide +kernel) rfl dX9_doStatement_77 ?_
    exact V_vret X hE dX9_doStatement_80 hf
  · refine V_iload_n X dX9_doStatement_81 rfl rfl ?_
    refine V_iconst X dX9_doStatement_82 ?_
    refine V_icmp_ne X (tgt := 108) dX9_doStatement_83 (by decide) hf (fun hf => ?_) (fun hf => ?_)
    · refine V_gload_n X dX9_doStatement_86 rfl rfl ?_
      refine V_getr X ob_85 rfl rfl hin_X9 58 (Nat.le_of_ble_eq_true rfl) tw_1374 rfl dX9_doStatement_87 ?_
      refine V_iload_n X dX9_doStatement_90 rfl rfl ?_
      refine V_dup2 X dX9_doStatement_91 rfl rfl ?_
      refine V_iald X ar_126 dX9_doStatement_92 hf (fun hf => ?_)
      refine V_iconst X dX9_doStatement_93 ?_
      refine V_iadd X dX9_doStatement_94 ?_
      refine V_iast X ar_126 dX9_doStatement_95 hf (fun hf => ?_)
      refine V_gload_n X dX9_doStatement_96 rfl rfl ?_
      refine V_iload_n X dX9_doStatement_97 rfl rfl ?_
      refine V_gload_n X dX9_doStatement_98 rfl rfl ?_
      refine V_getr X ob_85 rfl rfl hin_X9 50 (Nat.le_of_ble_eq_true rfl) tw_1366 rfl dX9_doStatement_99 ?_
      refine V_iload_n X dX9_doStatement_102 rfl rfl ?_
      refine V_iald X ar_119 dX9_doStatement_103 hf (fun hf => ?_)
      refine V_cVV X hf [vi a1, vi ((up w 126 (wr a1).toNat ((w 126 (wr a1).toNat) + 1)) 119 (wr a1).toNat)] _ 2 (fun _ h => m_X9_goOn h) ob_85 rfl tw_1813 tw_95 tw_1810 tw_1812 tw_77 dX9_doStatement_104 ⟨by decide +kernel, by decide +kernel, by decide +kernel⟩ ⟨rfl, rfl⟩ ⟨Nat.le_of_ble_eq_true rfl, Nat.le_of_ble_eq_true rfl⟩ rfl (Nat.le_of_ble_eq_true rfl) ⟨Nat.zero_le _, Nat.zero_le _⟩ (fun r2 w2 hf => ?_)
      exact V_vret X hE dX9_doStatement_107 hf
    · refine V_iload_n X dX9_doStatement_108 rfl rfl ?_
      refine V_bipush X dX9_doStatement_109 (by decide) ?_
      refine V_icmp_ne X (tgt := 151) dX9_doStatement_111 (by decide) hf (fun hf => ?_) (fun hf => ?_)
      · refine V_gload_n X dX9_doStatement_114 rfl rfl ?_
        refine V_gload_n X dX9_doStatement_115 rfl rfl ?_
        refine V_getr X ob_85 rfl rfl hin_X9 53 (Nat.le_of_ble_eq_true rfl) tw_1369 rfl dX9_doStatement_116 ?_
        refine V_gload_n X dX9_doStatement_119 rfl rfl ?_
        refine V_getr X ob_85 rfl rfl hin_X9 47 (Nat.le_of_ble_eq_true rfl) tw_1363 rfl dX9_doStatement_120 ?_
        refine V_iload_n X dX9_doStatement_123 rfl rfl ?_
        refine V_iald X ar_116 dX9_doStatement_124 hf (fun hf => ?_)
        refine V_iald X ar_121 dX9_doStatement_125 hf (fun hf => ?_)
        refine V_puti X ob_85 rfl rfl hin_X9 70 (Nat.le_of_ble_eq_true rfl) tw_1386 tyX9 tyX9_ok nmX9 rfl (by decide +kernel) rfl dX9_doStatement_126 ?_
        refine V_gload_n X dX9_doStatement_129 rfl rfl ?_
        refine V_gload_n X dX9_doStatement_130 rfl rfl ?_
        refine V_geti X ob_85 rfl rfl hin_X9 70 (Nat.le_of_ble_eq_true rfl) tw_1386 rfl dX9_doStatement_131 ?_
        refine V_gload_n X dX9_doStatement_134 rfl rfl ?_
        refine V_geti X ob_85 rfl rfl hin_X9 51 (Nat.le_of_ble_eq_true rfl) tw_1367 rfl dX9_doStatement_135 ?_
        refine V_icmp_lt X (tgt := 146) dX9_doStatement_138 (by decide) hf (fun hf => ?_) (fun hf => ?_)
        · refine V_iconst X dX9_doStatement_146 ?_
          refine V_puti X ob_85 rfl rfl hin_X9 61 (Nat.le_of_ble_eq_true rfl) tw_1377 tyX9 tyX9_ok nmX9 rfl (by decide +kernel) rfl dX9_doStatement_147 ?_
          exact V_vret X hE dX9_doStatement_150 hf
        · refine V_bipush X dX9_doStatement_141 (by decide) ?_
          refine V_goto X (tgt := 147) dX9_doStatement_143 (by decide) ?_
          refine V_puti X ob_85 rfl rfl hin_X9 61 (Nat.le_of_ble_eq_true rfl) tw_1377 tyX9 tyX9_ok nmX9 rfl (by decide +kernel) rfl dX9_doStatement_147 ?_
          exact V_vret X hE dX9_doStatement_150 hf
      · refine V_iload_n X dX9_doStatement_151 rfl rfl ?_
        refine V_bipush X dX9_doStatement_152 (by decide) ?_
        refine V_icmp_ne X (tgt := 173) dX9_doStatement_154 (by decide) hf (fun hf => ?_) (fun hf => ?_)
        · refine V_gload_n X dX9_doStatement_157 rfl rfl ?_
          refine V_gload_n X dX9_doStatement_158 rfl rfl ?_
          refine V_getr X ob_85 rfl rfl hin_X9 46 (Nat.le_of_ble_eq_true rfl) tw_1362 rfl dX9_doStatement_159 ?_
          refine V_iload_n X dX9_doStatement_162 rfl rfl ?_
          refine V_iald X ar_115 dX9_doStatement_163 hf (fun hf => ?_)
          refine V_gload_n X dX9_doStatement_164 rfl rfl ?_
          refine V_getr X ob_85 rfl rfl hin_X9 48 (Nat.le_of_ble_eq_true rfl) tw_1364 rfl dX9_doStatement_165 ?_
          refine V_iload_n X dX9_doStatement_168 rfl rfl ?_
          refine V_iald X ar_117 dX9_doStatement_169 hf (fun hf => ?_)
          refine V_cVV X hf [vi (w 115 (wr a1).toNat), vi (w 117 (wr a1).toNat)] _ 2 (fun _ h => m_X9_setTo h) ob_85 rfl tw_1809 tw_95 tw_1806 tw_1808 tw_76 dX9_doStatement_170 ⟨by decide +kernel, by decide +kernel, by decide +kernel⟩ ⟨rfl, rfl⟩ ⟨Nat.le_of_ble_eq_true rfl, Nat.le_of_ble_eq_true rfl⟩ rfl (Nat.le_of_ble_eq_true rfl) ⟨Nat.zero_le _, Nat.zero_le _⟩ (fun r3 w3 hf => ?_)
          exact V_cut [0, 1] rfl (v_X9_doStatement_173 X hE hf)
        · exact V_cut [0, 1] rfl (v_X9_doStatement_173 X hE hf)
set_option maxRecDepth 20000 in
theorem m_X9_doStatement {G : GG} {a1 : Int} {w : WS} {q : (Int × WS)}  (hf : f_X9_doStatement a1 w = some q) : MV G yX9_doStatement cX9_doStatement 4 none rmX9_doStatement [gr G 85, vi a1] w q := by
  refine MV_of (by decide +kernel) (Nat.le_of_ble_eq_true rfl) (fun E X hE => ?_)
  have X : Cx G E cX9_doStatement RX9 none rmX9_doStatement 4 := X
  unfold f_X9_doStatement at hf
  refine V_gload_n X dX9_doStatement_0 rfl rfl ?_
  refine V_dup X dX9_doStatement_1 rfl ?_
  refine V_geti X ob_85 rfl rfl hin_X9 60 (Nat.le_of_ble_eq_true rfl) tw_1376 rfl dX9_doStatement_2 ?_
  refine V_iconst X dX9_doStatement_5 ?_
  refine V_iadd X dX9_doStatement_6 ?_
  refine V_puti X ob_85 rfl rfl hin_X9 60 (Nat.le_of_ble_eq_true rfl) tw_1376 tyX9 tyX9_ok nmX9 rfl (by decide +kernel) rfl dX9_doStatement_7 ?_
  refine V_gload_n X dX9_doStatement_10 rfl rfl ?_
  refine V_getr X ob_85 rfl rfl hin_X9 57 (Nat.le_of_ble_eq_true rfl) tw_1373 rfl dX9_doStatement_11 ?_
  refine V_iload_n X dX9_doStatement_14 rfl rfl ?_
  refine V_dup2 X dX9_doStatement_15 rfl rfl ?_
  refine V_iald X ar_125 dX9_doStatement_16 hf (fun hf => ?_)
  refine V_iconst X dX9_doStatement_17 ?_
  refine V_iadd X dX9_doStatement_18 ?_
  refine V_iast X ar_125 dX9_doStatement_19 hf (fun hf => ?_)
  refine V_gload_n X dX9_doStatement_20 rfl rfl ?_
  refine V_iload_n X dX9_doStatement_21 rfl rfl ?_
  refine V_puti X ob_85 rfl rfl hin_X9 62 (Nat.le_of_ble_eq_true rfl) tw_1378 tyX9 tyX9_ok nmX9 rfl (by decide +kernel) rfl dX9_doStatement_22 ?_
  refine V_gload_n X dX9_doStatement_25 rfl rfl ?_
  refine V_getr X ob_85 rfl rfl hin_X9 45 (Nat.le_of_ble_eq_true rfl) tw_1361 rfl dX9_doStatement_26 ?_
  refine V_iload_n X dX9_doStatement_29 rfl rfl ?_
  refine V_cald X ar_114 dX9_doStatement_30 hf (fun hf => ?_)
  refine V_istore_n X dX9_doStatement_31 rfl (by decide) ?_
  refine V_iload_n X dX9_doStatement_32 rfl rfl ?_
  refine V_bipush X dX9_doStatement_33 (by decide) ?_
  refine V_icmp_ne X (tgt := 51) dX9_doStatement_35 (by decide) hf (fun hf => ?_) (fun hf => ?_)
  · refine V_gload_n X dX9_doStatement_38 rfl rfl ?_
    refine V_gload_n X dX9_doStatement_39 rfl rfl ?_
    refine V_getr X ob_85 rfl rfl hin_X9 48 (Nat.le_of_ble_eq_true rfl) tw_1364 rfl dX9_doStatement_40 ?_
    refine V_iload_n X dX9_doStatement_43 rfl rfl ?_
    refine V_iald X ar_117 dX9_doStatement_44 hf (fun hf => ?_)
    refine V_cVI X hf [vi ((up (up (up w 85 60 ((w 85 60) + 1)) 125 (wr a1).toNat (((up w 85 60 ((w 85 60) + 1)) 125 (wr a1).toNat) + 1)) 85 62 a1) 117 (wr a1).toNat)] _ 1 (fun _ h => m_X9_workOut h) ob_85 rfl tw_1674 tw_95 tw_1671 tw_1673 tw_44 dX9_doStatement_45 ⟨by decide +kernel, by decide +kernel, by decide +kernel⟩ ⟨rfl, rfl⟩ ⟨Nat.le_of_ble_eq_true rfl, Nat.le_of_ble_eq_true rfl⟩ rfl (Nat.le_of_ble_eq_true rfl) ⟨Nat.zero_le _, Nat.zero_le _⟩ (fun r1 w1 hf => ?_)
    refine V_goto X (tgt := 70) dX9_doStatement_48 (by decide) ?_
    exact V_cut [0, 1, 2] rfl (v_X9_doStatement_70 X hE hf)
  · refine V_iload_n X dX9_doStatement_51 rfl rfl ?_
    refine V_bipush X dX9_doStatement_52 (by decide) ?_
    refine V_icmp_ne X (tgt := 65) dX9_doStatement_54 (by decide) hf (fun hf => ?_) (fun hf => ?_)
    · refine V_gload_n X dX9_doStatement_57 rfl rfl ?_
      refine V_iload_n X dX9_doStatement_58 rfl rfl ?_
      refine V_cVI X hf [vi a1] _ 1 (fun _ h => m_X9_doScan h) ob_85 rfl tw_1717 tw_95 tw_1714 tw_1716 tw_53 dX9_doStatement_59 ⟨by decide +kernel, by decide +kernel, by decide +kernel⟩ ⟨rfl, rfl⟩ ⟨Nat.le_of_ble_eq_true rfl, Nat.le_of_ble_eq_true rfl⟩ rfl (Nat.le_of_ble_eq_true rfl) ⟨Nat.zero_le _, Nat.zero_le _⟩ (fun r5 w5 hf => ?_)
      refine V_goto X (tgt := 70) dX9_doStatement_62 (by decide) ?_
      exact V_cut [0, 1, 2] rfl (v_X9_doStatement_70 X hE hf)
    · refine V_gload_n X dX9_doStatement_65 rfl rfl ?_
      refine V_iload_n X dX9_doStatement_66 rfl rfl ?_
      refine V_cVI X hf [vi a1] _ 1 (fun _ h => m_X9_doCall h) ob_85 rfl tw_1801 tw_95 tw_1798 tw_1800 tw_74 dX9_doStatement_67 ⟨by decide +kernel, by decide +kernel, by decide +kernel⟩ ⟨rfl, rfl⟩ ⟨Nat.le_of_ble_eq_true rfl, Nat.le_of_ble_eq_true rfl⟩ rfl (Nat.le_of_ble_eq_true rfl) ⟨Nat.zero_le _, Nat.zero_le _⟩ (fun r6 w6 hf => ?_)
      exact V_cut [0, 1, 2] rfl (v_X9_doStatement_70 X hE hf)
abbrev rmX9_run : Room := { frames := 8, cells := 0, slots := 0, locals := 194 }
set_option maxRecDepth 20000 in
theorem v_X9_run_153 {G : GG} {E : EE} (X : Cx G E cX9_run RX9 (some .char) rmX9_run 4) {q : (Int × WS)} (hE : EndI G E q)   {w : WS} (hf : f_X9_run_153    w = some q) : VV G E 0 0 153 [(0, gr G 85)] [] w := by
  unfold f_X9_run_153 at hf
  refine V_gload_n X dX9_run_153 rfl rfl ?_
  refine V_geti X ob_85 rfl rfl hin_X9 61 (Nat.le_of_ble_eq_true rfl) tw_1377 rfl dX9_run_154 ?_
  refine V_if_le X (tgt := 165) dX9_run_157 (by decide) hf (fun hf => ?_) (fun hf => ?_)
  · refine V_bipush X dX9_run_160 (by decide) ?_
    refine V_goto X (tgt := 179) dX9_run_162 (by decide) ?_
    exact V_cret X hE dX9_run_179 (by decide) hf
  · refine V_gload_n X dX9_run_165 rfl rfl ?_
    refine V_geti X ob_85 rfl rfl hin_X9 71 (Nat.le_of_ble_eq_true rfl) tw_1387 rfl dX9_run_166 ?_
    refine V_if_eq X (tgt := 177) dX9_run_169 (by decide) hf (fun hf => ?_) (fun hf => ?_)
    · refine V_bipush X dX9_run_177 (by decide) ?_
      exact V_cret X hE dX9_run_179 (by decide) hf
    · refine V_bipush X dX9_run_172 (by decide) ?_
      refine V_goto X (tgt := 179) dX9_run_174 (by decide) ?_
      exact V_cret X hE dX9_run_179 (by decide) hf
set_option maxRecDepth 20000 in
theorem v_X9_run_120 {G : GG} {E : EE} (X : Cx G E cX9_run RX9 (some .char) rmX9_run 4) {q : (Int × WS)} (hE : EndI G E q)   : ∀ (n : Nat) (a2 : Int) (w : WS), f_X9_run_120   n a2 w = some q → VV G E 0 0 120 [(0, gr G 85), (2, vi a2)] [] w := by
  intro n
  induction n with
  | zero => intro a2 w hf; cases hf
  | succ n ih =>
    intro a2 w hf
    rw [f_X9_run_120_s] at hf
    refine V_gload_n X dX9_run_120 rfl rfl ?_
    refine V_geti X ob_85 rfl rfl hin_X9 60 (Nat.le_of_ble_eq_true rfl) tw_1376 rfl dX9_run_121 ?_
    refine V_iload_n X dX9_run_124 rfl rfl ?_
    refine V_icmp_ge X (tgt := 153) dX9_run_125 (by decide) hf (fun hf => ?_) (fun hf => ?_)
    · refine V_gload_n X dX9_run_128 rfl rfl ?_
      refine V_geti X ob_85 rfl rfl hin_X9 71 (Nat.le_of_ble_eq_true rfl) tw_1387 rfl dX9_run_129 ?_
      refine V_if_ne X (tgt := 153) dX9_run_132 (by decide) hf (fun hf => ?_) (fun hf => ?_)
      · refine V_gload_n X dX9_run_135 rfl rfl ?_
        refine V_geti X ob_85 rfl rfl hin_X9 61 (Nat.le_of_ble_eq_true rfl) tw_1377 rfl dX9_run_136 ?_
        refine V_if_ne X (tgt := 153) dX9_run_139 (by decide) hf (fun hf => ?_) (fun hf => ?_)
        · refine V_gload_n X dX9_run_142 rfl rfl ?_
          refine V_gload_n X dX9_run_143 rfl rfl ?_
          refine V_geti X ob_85 rfl rfl hin_X9 70 (Nat.le_of_ble_eq_true rfl) tw_1386 rfl dX9_run_144 ?_
          refine V_cVV X hf [vi (w 85 70)] _ 1 (fun _ h => m_X9_doStatement h) ob_85 rfl tw_1670 tw_95 tw_1667 tw_1669 tw_43 dX9_run_147 ⟨by decide +kernel, by decide +kernel, by decide +kernel⟩ ⟨rfl, rfl⟩ ⟨Nat.le_of_ble_eq_true rfl, Nat.le_of_ble_eq_true rfl⟩ rfl (Nat.le_of_ble_eq_true rfl) ⟨Nat.zero_le _, Nat.zero_le _⟩ (fun r5 w5 hf => ?_)
          refine V_goto X (tgt := 120) dX9_run_150 (by decide) ?_
          exact V_cut [0, 2] rfl (ih _ _ hf)
        · exact V_cut [0] rfl (v_X9_run_153 X hE hf)
      · exact V_cut [0] rfl (v_X9_run_153 X hE hf)
    · exact V_cut [0] rfl (v_X9_run_153 X hE hf)
set_option maxRecDepth 20000 in
theorem v_X9_run_64 {G : GG} {E : EE} (X : Cx G E cX9_run RX9 (some .char) rmX9_run 4) {q : (Int × WS)} (hE : EndI G E q)   : ∀ (n : Nat) (a1 a2 a3 : Int) (w : WS), f_X9_run_64   n a1 a2 a3 w = some q → VV G E 0 0 64 [(0, gr G 85), (1, vi a1), (2, vi a2), (3, vi a3)] [] w := by
  intro n
  induction n with
  | zero => intro a1 a2 a3 w hf; cases hf
  | succ n ih =>
    intro a1 a2 a3 w hf
    rw [f_X9_run_64_s] at hf
    refine V_iload_n X dX9_run_64 rfl rfl ?_
    refine V_bipush X dX9_run_65 (by decide) ?_
    refine V_icmp_ge X (tgt := 90) dX9_run_67 (by decide) hf (fun hf => ?_) (fun hf => ?_)
    · refine V_gload_n X dX9_run_70 rfl rfl ?_
      refine V_getr X ob_85 rfl rfl hin_X9 57 (Nat.le_of_ble_eq_true rfl) tw_1373 rfl dX9_run_71 ?_
      refine V_iload_n X dX9_run_74 rfl rfl ?_
      refine V_iconst X dX9_run_75 ?_
      refine V_iast X ar_125 dX9_run_76 hf (fun hf => ?_)
      refine V_gload_n X dX9_run_77 rfl rfl ?_
      refine V_getr X ob_85 rfl rfl hin_X9 58 (Nat.le_of_ble_eq_true rfl) tw_1374 rfl dX9_run_78 ?_
      refine V_iload_n X dX9_run_81 rfl rfl ?_
      refine V_iconst X dX9_run_82 ?_
      refine V_iast X ar_126 dX9_run_83 hf (fun hf => ?_)
      refine V_iinc X dX9_run_84 rfl (by decide) ?_
      refine V_goto X (tgt := 64) dX9_run_87 (by decide) ?_
      exact V_cut [0, 1, 2, 3] rfl (ih _ _ _ _ hf)
    · refine V_gload_n X dX9_run_90 rfl rfl ?_
      refine V_iconst X dX9_run_91 ?_
      refine V_putz X ob_85 rfl rfl hin_X9 59 (Nat.le_of_ble_eq_true rfl) tw_1375 tyX9 tyX9_ok nmX9 rfl (by decide +kernel) (Or.inr rfl) rfl dX9_run_92 ?_
      refine V_gload_n X dX9_run_95 rfl rfl ?_
      refine V_iconst X dX9_run_96 ?_
      refine V_puti X ob_85 rfl rfl hin_X9 60 (Nat.le_of_ble_eq_true rfl) tw_1376 tyX9 tyX9_ok nmX9 rfl (by decide +kernel) rfl dX9_run_97 ?_
      refine V_gload_n X dX9_run_100 rfl rfl ?_
      refine V_iconst X dX9_run_101 ?_
      refine V_puti X ob_85 rfl rfl hin_X9 61 (Nat.le_of_ble_eq_true rfl) tw_1377 tyX9 tyX9_ok nmX9 rfl (by decide +kernel) rfl dX9_run_102 ?_
      refine V_gload_n X dX9_run_105 rfl rfl ?_
      refine V_iconst X dX9_run_106 ?_
      refine V_puti X ob_85 rfl rfl hin_X9 63 (Nat.le_of_ble_eq_true rfl) tw_1379 tyX9 tyX9_ok nmX9 rfl (by decide +kernel) rfl dX9_run_107 ?_
      refine V_gload_n X dX9_run_110 rfl rfl ?_
      refine V_iload_n X dX9_run_111 rfl rfl ?_
      refine V_puti X ob_85 rfl rfl hin_X9 70 (Nat.le_of_ble_eq_true rfl) tw_1386 tyX9 tyX9_ok nmX9 rfl (by decide +kernel) rfl dX9_run_112 ?_
      refine V_gload_n X dX9_run_115 rfl rfl ?_
      refine V_iconst X dX9_run_116 ?_
      refine V_putz X ob_85 rfl rfl hin_X9 71 (Nat.le_of_ble_eq_true rfl) tw_1387 tyX9 tyX9_ok nmX9 rfl (by decide +kernel) (Or.inl rfl) rfl dX9_run_117 ?_
      exact V_cut [0, 2] rfl (v_X9_run_120 X hE FU _ _ hf)
set_option maxRecDepth 20000 in
theorem v_X9_run_52 {G : GG} {E : EE} (X : Cx G E cX9_run RX9 (some .char) rmX9_run 4) {q : (Int × WS)} (hE : EndI G E q)   {a1 a2 s0 : Int} {w : WS} (hf : f_X9_run_52   a1 a2 s0 w = some q) : VV G E 0 0 52 [(0, gr G 85), (1, vi a1), (2, vi a2)] [vi s0, gr G 85] w := by
  unfold f_X9_run_52 at hf
  refine V_iconst X dX9_run_52 ?_
  refine V_cVI X hf [vi s0, vi 2] _ 2 (fun _ h => m_X9_fails h) ob_85 rfl tw_1580 tw_95 tw_1577 tw_1579 tw_38 dX9_run_53 ⟨by decide +kernel, by decide +kernel, by decide +kernel⟩ ⟨rfl, rfl⟩ ⟨Nat.le_of_ble_eq_true rfl, Nat.le_of_ble_eq_true rfl⟩ rfl (Nat.le_of_ble_eq_true rfl) ⟨Nat.zero_le _, Nat.zero_le _⟩ (fun r4 w4 hf => ?_)
  refine V_if_eq X (tgt := 62) dX9_run_56 (by decide) hf (fun hf => ?_) (fun hf => ?_)
  · refine V_iconst X dX9_run_62 ?_
    refine V_istore_n X dX9_run_63 rfl (by decide) ?_
    exact V_cut [0, 1, 2, 3] rfl (v_X9_run_64 X hE FU _ _ _ _ hf)
  · refine V_bipush X dX9_run_59 (by decide) ?_
    exact V_cret X hE dX9_run_61 (by decide) hf
set_option maxRecDepth 20000 in
theorem v_X9_run_23 {G : GG} {E : EE} (X : Cx G E cX9_run RX9 (some .char) rmX9_run 4) {q : (Int × WS)} (hE : EndI G E q)   {a1 a2 s0 : Int} {w : WS} (hf : f_X9_run_23   a1 a2 s0 w = some q) : VV G E 0 0 23 [(0, gr G 85), (1, vi a1), (2, vi a2)] [vi s0, gr G 85] w := by
  unfold f_X9_run_23 at hf
  refine V_iconst X dX9_run_23 ?_
  refine V_cVI X hf [vi s0, vi 1] _ 2 (fun _ h => m_X9_fails h) ob_85 rfl tw_1580 tw_95 tw_1577 tw_1579 tw_38 dX9_run_24 ⟨by decide +kernel, by decide +kernel, by decide +kernel⟩ ⟨rfl, rfl⟩ ⟨Nat.le_of_ble_eq_true rfl, Nat.le_of_ble_eq_true rfl⟩ rfl (Nat.le_of_ble_eq_true rfl) ⟨Nat.zero_le _, Nat.zero_le _⟩ (fun r2 w2 hf => ?_)
  refine V_if_ne X (tgt := 59) dX9_run_27 (by decide) hf (fun hf => ?_) (fun hf => ?_)
  · refine V_gload_n X dX9_run_30 rfl rfl ?_
    refine V_iload_n X dX9_run_31 rfl rfl ?_
    refine V_i2l X dX9_run_32 ?_
    refine V_lconst (a := 0) X dX9_run_33 (by decide) ?_
    refine V_gload_n X dX9_run_34 rfl rfl ?_
    refine V_geti X ob_85 rfl rfl hin_X9 51 (Nat.le_of_ble_eq_true rfl) tw_1367 rfl dX9_run_35 ?_
    refine V_iconst X dX9_run_38 ?_
    refine V_isub X dX9_run_39 ?_
    refine V_i2l X dX9_run_40 ?_
    refine V_cSI X hf [vl (wr a1), vl 0, vl (wr ((w2 85 51) - 1))] _ 3 (fun _ h => m_X9_in h) tw_1574 tw_95 tw_1572 tw_1573 dX9_run_41 ⟨by decide +kernel, by decide +kernel, by decide +kernel⟩ ⟨rfl, rfl⟩ ⟨Nat.le_of_ble_eq_true rfl, Nat.le_of_ble_eq_true rfl⟩ rfl (Nat.le_of_ble_eq_true rfl) ⟨Nat.zero_le _, Nat.zero_le _⟩ (fun r3 w3 hf => ?_)
    refine V_if_ne X (tgt := 51) dX9_run_44 (by decide) hf (fun hf => ?_) (fun hf => ?_)
    · refine V_iconst X dX9_run_47 ?_
      refine V_goto X (tgt := 52) dX9_run_48 (by decide) ?_
      exact V_cut [0, 1, 2] rfl (v_X9_run_52 X hE hf)
    · refine V_iconst X dX9_run_51 ?_
      exact V_cut [0, 1, 2] rfl (v_X9_run_52 X hE hf)
  · refine V_bipush X dX9_run_59 (by decide) ?_
    exact V_cret X hE dX9_run_61 (by decide) hf
set_option maxRecDepth 20000 in
theorem m_X9_run {G : GG} {a1 : Int} {a2 : Int} {w : WS} {q : (Int × WS)}  (hf : f_X9_run a1 a2 w = some q) : MI G yX9_run cX9_run 4 (some .char) rmX9_run [gr G 85, vi a1, vi a2] w q := by
  refine MI_of (by decide +kernel) (Nat.le_of_ble_eq_true rfl) (fun E X hE => ?_)
  have X : Cx G E cX9_run RX9 (some .char) rmX9_run 4 := X
  unfold f_X9_run at hf
  refine V_gload_n X dX9_run_0 rfl rfl ?_
  refine V_iconst X dX9_run_1 ?_
  refine V_puti X ob_85 rfl rfl hin_X9 0 (Nat.le_of_ble_eq_true rfl) tw_1316 tyX9 tyX9_ok nmX9 rfl (by decide +kernel) rfl dX9_run_2 ?_
  refine V_gload_n X dX9_run_5 rfl rfl ?_
  refine V_iload_n X dX9_run_6 rfl rfl ?_
  refine V_i2l X dX9_run_7 ?_
  refine V_lconst (a := 1) X dX9_run_8 (by decide) ?_
  refine V_ldc2 (a := 1000) X tw_1666 dX9_run_9 (by decide) ?_
  refine V_cSI X hf [vl (wr a2), vl 1, vl 1000] _ 3 (fun _ h => m_X9_in h) tw_1574 tw_95 tw_1572 tw_1573 dX9_run_12 ⟨by decide +kernel, by decide +kernel, by decide +kernel⟩ ⟨rfl, rfl⟩ ⟨Nat.le_of_ble_eq_true rfl, Nat.le_of_ble_eq_true rfl⟩ rfl (Nat.le_of_ble_eq_true rfl) ⟨Nat.zero_le _, Nat.zero_le _⟩ (fun r1 w1 hf => ?_)
  refine V_if_ne X (tgt := 22) dX9_run_15 (by decide) hf (fun hf => ?_) (fun hf => ?_)
  · refine V_iconst X dX9_run_18 ?_
    refine V_goto X (tgt := 23) dX9_run_19 (by decide) ?_
    exact V_cut [0, 1, 2] rfl (v_X9_run_23 X hE hf)
  · refine V_iconst X dX9_run_22 ?_
    exact V_cut [0, 1, 2] rfl (v_X9_run_23 X hE hf)
abbrev rmX9_noRun : Room := { frames := 1, cells := 0, slots := 0, locals := 22 }
set_option maxRecDepth 20000 in
theorem v_X9_noRun_13 {G : GG} {E : EE} (X : Cx G E cX9_noRun RX9 (some .boolean) rmX9_noRun 1) {q : (Int × WS)} (hE : EndI G E q)   {s0 : Int} {w : WS} (hf : f_X9_noRun_13   s0 w = some q) : VV G E 0 0 13 [] [vi s0, gr G 85] w := by
  unfold f_X9_noRun_13 at hf
  refine V_iconst X dX9_noRun_13 ?_
  refine V_cVI X hf [vi s0, vi 1] _ 2 (fun _ h => m_X9_fails h) ob_85 rfl tw_1580 tw_95 tw_1577 tw_1579 tw_38 dX9_noRun_14 ⟨by decide +kernel, by decide +kernel, by decide +kernel⟩ ⟨rfl, rfl⟩ ⟨Nat.le_of_ble_eq_true rfl, Nat.le_of_ble_eq_true rfl⟩ rfl (Nat.le_of_ble_eq_true rfl) ⟨Nat.zero_le _, Nat.zero_le _⟩ (fun r1 w1 hf => ?_)
  obtain ⟨hz, hf⟩ := ite_n hf
  exact V_zret X hE dX9_noRun_17 hz hf
set_option maxRecDepth 20000 in
theorem m_X9_noRun {G : GG}  {w : WS} {q : (Int × WS)}  (hf : f_X9_noRun  w = some q) : MI G yX9_noRun cX9_noRun 1 (some .boolean) rmX9_noRun [gr G 85] w q := by
  refine MI_of (by decide +kernel) (Nat.le_of_ble_eq_true rfl) (fun E X hE => ?_)
  have X : Cx G E cX9_noRun RX9 (some .boolean) rmX9_noRun 1 := X
  unfold f_X9_noRun at hf
  refine V_gload_n X dX9_noRun_0 rfl rfl ?_
  refine V_gload_n X dX9_noRun_1 rfl rfl ?_
  refine V_geti X ob_85 rfl rfl hin_X9 59 (Nat.le_of_ble_eq_true rfl) tw_1375 rfl dX9_noRun_2 ?_
  refine V_if_ne X (tgt := 12) dX9_noRun_5 (by decide) hf (fun hf => ?_) (fun hf => ?_)
  · refine V_iconst X dX9_noRun_8 ?_
    refine V_goto X (tgt := 13) dX9_noRun_9 (by decide) ?_
    exact V_cut [] rfl (v_X9_noRun_13 X hE hf)
  · refine V_iconst X dX9_noRun_12 ?_
    exact V_cut [] rfl (v_X9_noRun_13 X hE hf)
abbrev rmX9_error : Room := { frames := 2, cells := 0, slots := 0, locals := 42 }
set_option maxRecDepth 20000 in
theorem v_X9_error_25 {G : GG} {E : EE} (X : Cx G E cX9_error RX9 (some .int) rmX9_error 1) {q : (Int × WS)} (hE : EndI G E q)   {s0 : Int} {w : WS} (hf : f_X9_error_25   s0 w = some q) : VV G E 0 0 25 [(0, gr G 85)] [vi s0, gr G 85] w := by
  unfold f_X9_error_25 at hf
  refine V_iconst X dX9_error_25 ?_
  refine V_cVI X hf [vi s0, vi 2] _ 2 (fun _ h => m_X9_fails h) ob_85 rfl tw_1580 tw_95 tw_1577 tw_1579 tw_38 dX9_error_26 ⟨by decide +kernel, by decide +kernel, by decide +kernel⟩ ⟨rfl, rfl⟩ ⟨Nat.le_of_ble_eq_true rfl, Nat.le_of_ble_eq_true rfl⟩ rfl (Nat.le_of_ble_eq_true rfl) ⟨Nat.zero_le _, Nat.zero_le _⟩ (fun r2 w2 hf => ?_)
  refine V_if_eq X (tgt := 36) dX9_error_29 (by decide) hf (fun hf => ?_) (fun hf => ?_)
  · refine V_gload_n X dX9_error_36 rfl rfl ?_
    refine V_geti X ob_85 rfl rfl hin_X9 61 (Nat.le_of_ble_eq_true rfl) tw_1377 rfl dX9_error_37 ?_
    exact V_iret X hE dX9_error_40 hf
  · refine V_iconst X dX9_error_32 ?_
    refine V_goto X (tgt := 40) dX9_error_33 (by decide) ?_
    exact V_iret X hE dX9_error_40 hf
set_option maxRecDepth 20000 in
theorem m_X9_error {G : GG}  {w : WS} {q : (Int × WS)}  (hf : f_X9_error  w = some q) : MI G yX9_error cX9_error 1 (some .int) rmX9_error [gr G 85] w q := by
  refine MI_of (by decide +kernel) (Nat.le_of_ble_eq_true rfl) (fun E X hE => ?_)
  have X : Cx G E cX9_error RX9 (some .int) rmX9_error 1 := X
  unfold f_X9_error at hf
  refine V_gload_n X dX9_error_0 rfl rfl ?_
  refine V_iconst X dX9_error_1 ?_
  refine V_puti X ob_85 rfl rfl hin_X9 0 (Nat.le_of_ble_eq_true rfl) tw_1316 tyX9 tyX9_ok nmX9 rfl (by decide +kernel) rfl dX9_error_2 ?_
  refine V_gload_n X dX9_error_5 rfl rfl ?_
  refine V_cVI X hf [] _ 0 (fun _ h => m_X9_noRun h) ob_85 rfl tw_1829 tw_95 tw_1826 tw_1828 tw_80 dX9_error_6 ⟨by decide +kernel, by decide +kernel, by decide +kernel⟩ ⟨rfl, rfl⟩ ⟨Nat.le_of_ble_eq_true rfl, Nat.le_of_ble_eq_true rfl⟩ rfl (Nat.le_of_ble_eq_true rfl) ⟨Nat.zero_le _, Nat.zero_le _⟩ (fun r1 w1 hf => ?_)
  refine V_if_ne X (tgt := 32) dX9_error_9 (by decide) hf (fun hf => ?_) (fun hf => ?_)
  · refine V_gload_n X dX9_error_12 rfl rfl ?_
    refine V_gload_n X dX9_error_13 rfl rfl ?_
    refine V_geti X ob_85 rfl rfl hin_X9 61 (Nat.le_of_ble_eq_true rfl) tw_1377 rfl dX9_error_14 ?_
    refine V_if_ne X (tgt := 24) dX9_error_17 (by decide) hf (fun hf => ?_) (fun hf => ?_)
    · refine V_iconst X dX9_error_20 ?_
      refine V_goto X (tgt := 25) dX9_error_21 (by decide) ?_
      exact V_cut [0] rfl (v_X9_error_25 X hE hf)
    · refine V_iconst X dX9_error_24 ?_
      exact V_cut [0] rfl (v_X9_error_25 X hE hf)
  · refine V_iconst X dX9_error_32 ?_
    refine V_goto X (tgt := 40) dX9_error_33 (by decide) ?_
    exact V_iret X hE dX9_error_40 hf
abbrev rmX9_last : Room := { frames := 2, cells := 0, slots := 0, locals := 42 }
set_option maxRecDepth 20000 in
theorem m_X9_last {G : GG}  {w : WS} {q : (Int × WS)}  (hf : f_X9_last  w = some q) : MI G yX9_last cX9_last 1 (some .int) rmX9_last [gr G 85] w q := by
  refine MI_of (by decide +kernel) (Nat.le_of_ble_eq_true rfl) (fun E X hE => ?_)
  have X : Cx G E cX9_last RX9 (some .int) rmX9_last 1 := X
  unfold f_X9_last at hf
  refine V_gload_n X dX9_last_0 rfl rfl ?_
  refine V_iconst X dX9_last_1 ?_
  refine V_puti X ob_85 rfl rfl hin_X9 0 (Nat.le_of_ble_eq_true rfl) tw_1316 tyX9 tyX9_ok nmX9 rfl (by decide +kernel) rfl dX9_last_2 ?_
  refine V_gload_n X dX9_last_5 rfl rfl ?_
  refine V_cVI X hf [] _ 0 (fun _ h => m_X9_noRun h) ob_85 rfl tw_1829 tw_95 tw_1826 tw_1828 tw_80 dX9_last_6 ⟨by decide +kernel, by decide +kernel, by decide +kernel⟩ ⟨rfl, rfl⟩ ⟨Nat.le_of_ble_eq_true rfl, Nat.le_of_ble_eq_true rfl⟩ rfl (Nat.le_of_ble_eq_true rfl) ⟨Nat.zero_le _, Nat.zero_le _⟩ (fun r1 w1 hf => ?_)
  refine V_if_eq X (tgt := 16) dX9_last_9 (by decide) hf (fun hf => ?_) (fun hf => ?_)
  · refine V_gload_n X dX9_last_16 rfl rfl ?_
    refine V_geti X ob_85 rfl rfl hin_X9 62 (Nat.le_of_ble_eq_true rfl) tw_1378 rfl dX9_last_17 ?_
    exact V_iret X hE dX9_last_20 hf
  · refine V_iconst X dX9_last_12 ?_
    refine V_goto X (tgt := 20) dX9_last_13 (by decide) ?_
    exact V_iret X hE dX9_last_20 hf
abbrev rmX9_steps : Room := { frames := 2, cells := 0, slots := 0, locals := 42 }
set_option maxRecDepth 20000 in
theorem m_X9_steps {G : GG}  {w : WS} {q : (Int × WS)}  (hf : f_X9_steps  w = some q) : MI G yX9_steps cX9_steps 1 (some .int) rmX9_steps [gr G 85] w q := by
  refine MI_of (by decide +kernel) (Nat.le_of_ble_eq_true rfl) (fun E X hE => ?_)
  have X : Cx G E cX9_steps RX9 (some .int) rmX9_steps 1 := X
  unfold f_X9_steps at hf
  refine V_gload_n X dX9_steps_0 rfl rfl ?_
  refine V_iconst X dX9_steps_1 ?_
  refine V_puti X ob_85 rfl rfl hin_X9 0 (Nat.le_of_ble_eq_true rfl) tw_1316 tyX9 tyX9_ok nmX9 rfl (by decide +kernel) rfl dX9_steps_2 ?_
  refine V_gload_n X dX9_steps_5 rfl rfl ?_
  refine V_cVI X hf [] _ 0 (fun _ h => m_X9_noRun h) ob_85 rfl tw_1829 tw_95 tw_1826 tw_1828 tw_80 dX9_steps_6 ⟨by decide +kernel, by decide +kernel, by decide +kernel⟩ ⟨rfl, rfl⟩ ⟨Nat.le_of_ble_eq_true rfl, Nat.le_of_ble_eq_true rfl⟩ rfl (Nat.le_of_ble_eq_true rfl) ⟨Nat.zero_le _, Nat.zero_le _⟩ (fun r1 w1 hf => ?_)
  refine V_if_eq X (tgt := 16) dX9_steps_9 (by decide) hf (fun hf => ?_) (fun hf => ?_)
  · refine V_gload_n X dX9_steps_16 rfl rfl ?_
    refine V_geti X ob_85 rfl rfl hin_X9 60 (Nat.le_of_ble_eq_true rfl) tw_1376 rfl dX9_steps_17 ?_
    exact V_iret X hE dX9_steps_20 hf
  · refine V_iconst X dX9_steps_12 ?_
    refine V_goto X (tgt := 20) dX9_steps_13 (by decide) ?_
    exact V_iret X hE dX9_steps_20 hf
abbrev rmX9_done : Room := { frames := 2, cells := 0, slots := 0, locals := 42 }
set_option maxRecDepth 20000 in
theorem v_X9_done_34 {G : GG} {E : EE} (X : Cx G E cX9_done RX9 (some .int) rmX9_done 2) {q : (Int × WS)} (hE : EndI G E q)   {a1 s0 : Int} {w : WS} (hf : f_X9_done_34   a1 s0 w = some q) : VV G E 0 0 34 [(0, gr G 85), (1, vi a1)] [vi s0, gr G 85] w := by
  unfold f_X9_done_34 at hf
  refine V_iconst X dX9_done_34 ?_
  refine V_cVI X hf [vi s0, vi 2] _ 2 (fun _ h => m_X9_fails h) ob_85 rfl tw_1580 tw_95 tw_1577 tw_1579 tw_38 dX9_done_35 ⟨by decide +kernel, by decide +kernel, by decide +kernel⟩ ⟨rfl, rfl⟩ ⟨Nat.le_of_ble_eq_true rfl, Nat.le_of_ble_eq_true rfl⟩ rfl (Nat.le_of_ble_eq_true rfl) ⟨Nat.zero_le _, Nat.zero_le _⟩ (fun r3 w3 hf => ?_)
  refine V_if_eq X (tgt := 45) dX9_done_38 (by decide) hf (fun hf => ?_) (fun hf => ?_)
  · refine V_gload_n X dX9_done_45 rfl rfl ?_
    refine V_getr X ob_85 rfl rfl hin_X9 57 (Nat.le_of_ble_eq_true rfl) tw_1373 rfl dX9_done_46 ?_
    refine V_iload_n X dX9_done_49 rfl rfl ?_
    refine V_iald X ar_125 dX9_done_50 hf (fun hf => ?_)
    exact V_iret X hE dX9_done_51 hf
  · refine V_iconst X dX9_done_41 ?_
    refine V_goto X (tgt := 51) dX9_done_42 (by decide) ?_
    exact V_iret X hE dX9_done_51 hf
set_option maxRecDepth 20000 in
theorem m_X9_done {G : GG} {a1 : Int} {w : WS} {q : (Int × WS)}  (hf : f_X9_done a1 w = some q) : MI G yX9_done cX9_done 2 (some .int) rmX9_done [gr G 85, vi a1] w q := by
  refine MI_of (by decide +kernel) (Nat.le_of_ble_eq_true rfl) (fun E X hE => ?_)
  have X : Cx G E cX9_done RX9 (some .int) rmX9_done 2 := X
  unfold f_X9_done at hf
  refine V_gload_n X dX9_done_0 rfl rfl ?_
  refine V_iconst X dX9_done_1 ?_
  refine V_puti X ob_85 rfl rfl hin_X9 0 (Nat.le_of_ble_eq_true rfl) tw_1316 tyX9 tyX9_ok nmX9 rfl (by decide +kernel) rfl dX9_done_2 ?_
  refine V_gload_n X dX9_done_5 rfl rfl ?_
  refine V_cVI X hf [] _ 0 (fun _ h => m_X9_noRun h) ob_85 rfl tw_1829 tw_95 tw_1826 tw_1828 tw_80 dX9_done_6 ⟨by decide +kernel, by decide +kernel, by decide +kernel⟩ ⟨rfl, rfl⟩ ⟨Nat.le_of_ble_eq_true rfl, Nat.le_of_ble_eq_true rfl⟩ rfl (Nat.le_of_ble_eq_true rfl) ⟨Nat.zero_le _, Nat.zero_le _⟩ (fun r1 w1 hf => ?_)
  refine V_if_ne X (tgt := 41) dX9_done_9 (by decide) hf (fun hf => ?_) (fun hf => ?_)
  · refine V_gload_n X dX9_done_12 rfl rfl ?_
    refine V_iload_n X dX9_done_13 rfl rfl ?_
    refine V_i2l X dX9_done_14 ?_
    refine V_lconst (a := 0) X dX9_done_15 (by decide) ?_
    refine V_gload_n X dX9_done_16 rfl rfl ?_
    refine V_geti X ob_85 rfl rfl hin_X9 51 (Nat.le_of_ble_eq_true rfl) tw_1367 rfl dX9_done_17 ?_
    refine V_iconst X dX9_done_20 ?_
    refine V_isub X dX9_done_21 ?_
    refine V_i2l X dX9_done_22 ?_
    refine V_cSI X hf [vl (wr a1), vl 0, vl (wr ((w1 85 51) - 1))] _ 3 (fun _ h => m_X9_in h) tw_1574 tw_95 tw_1572 tw_1573 dX9_done_23 ⟨by decide +kernel, by decide +kernel, by decide +kernel⟩ ⟨rfl, rfl⟩ ⟨Nat.le_of_ble_eq_true rfl, Nat.le_of_ble_eq_true rfl⟩ rfl (Nat.le_of_ble_eq_true rfl) ⟨Nat.zero_le _, Nat.zero_le _⟩ (fun r2 w2 hf => ?_)
    refine V_if_ne X (tgt := 33) dX9_done_26 (by decide) hf (fun hf => ?_) (fun hf => ?_)
    · refine V_iconst X dX9_done_29 ?_
      refine V_goto X (tgt := 34) dX9_done_30 (by decide) ?_
      exact V_cut [0, 1] rfl (v_X9_done_34 X hE hf)
    · refine V_iconst X dX9_done_33 ?_
      exact V_cut [0, 1] rfl (v_X9_done_34 X hE hf)
  · refine V_iconst X dX9_done_41 ?_
    refine V_goto X (tgt := 51) dX9_done_42 (by decide) ?_
    exact V_iret X hE dX9_done_51 hf
abbrev rmX9_failed : Room := { frames := 2, cells := 0, slots := 0, locals := 42 }
set_option maxRecDepth 20000 in
theorem v_X9_failed_34 {G : GG} {E : EE} (X : Cx G E cX9_failed RX9 (some .int) rmX9_failed 2) {q : (Int × WS)} (hE : EndI G E q)   {a1 s0 : Int} {w : WS} (hf : f_X9_failed_34   a1 s0 w = some q) : VV G E 0 0 34 [(0, gr G 85), (1, vi a1)] [vi s0, gr G 85] w := by
  unfold f_X9_failed_34 at hf
  refine V_iconst X dX9_failed_34 ?_
  refine V_cVI X hf [vi s0, vi 2] _ 2 (fun _ h => m_X9_fails h) ob_85 rfl tw_1580 tw_95 tw_1577 tw_1579 tw_38 dX9_failed_35 ⟨by decide +kernel, by decide +kernel, by decide +kernel⟩ ⟨rfl, rfl⟩ ⟨Nat.le_of_ble_eq_true rfl, Nat.le_of_ble_eq_true rfl⟩ rfl (Nat.le_of_ble_eq_true rfl) ⟨Nat.zero_le _, Nat.zero_le _⟩ (fun r3 w3 hf => ?_)
  refine V_if_eq X (tgt := 45) dX9_failed_38 (by decide) hf (fun hf => ?_) (fun hf => ?_)
  · refine V_gload_n X dX9_failed_45 rfl rfl ?_
    refine V_getr X ob_85 rfl rfl hin_X9 58 (Nat.le_of_ble_eq_true rfl) tw_1374 rfl dX9_failed_46 ?_
    refine V_iload_n X dX9_failed_49 rfl rfl ?_
    refine V_iald X ar_126 dX9_failed_50 hf (fun hf => ?_)
    exact V_iret X hE dX9_failed_51 hf
  · refine V_iconst X dX9_failed_41 ?_
    refine V_goto X (tgt := 51) dX9_failed_42 (by decide) ?_
    exact V_iret X hE dX9_failed_51 hf
set_option maxRecDepth 20000 in
theorem m_X9_failed {G : GG} {a1 : Int} {w : WS} {q : (Int × WS)}  (hf : f_X9_failed a1 w = some q) : MI G yX9_failed cX9_failed 2 (some .int) rmX9_failed [gr G 85, vi a1] w q := by
  refine MI_of (by decide +kernel) (Nat.le_of_ble_eq_true rfl) (fun E X hE => ?_)
  have X : Cx G E cX9_failed RX9 (some .int) rmX9_failed 2 := X
  unfold f_X9_failed at hf
  refine V_gload_n X dX9_failed_0 rfl rfl ?_
  refine V_iconst X dX9_failed_1 ?_
  refine V_puti X ob_85 rfl rfl hin_X9 0 (Nat.le_of_ble_eq_true rfl) tw_1316 tyX9 tyX9_ok nmX9 rfl (by decide +kernel) rfl dX9_failed_2 ?_
  refine V_gload_n X dX9_failed_5 rfl rfl ?_
  refine V_cVI X hf [] _ 0 (fun _ h => m_X9_noRun h) ob_85 rfl tw_1829 tw_95 tw_1826 tw_1828 tw_80 dX9_failed_6 ⟨by decide +kernel, by decide +kernel, by decide +kernel⟩ ⟨rfl, rfl⟩ ⟨Nat.le_of_ble_eq_true rfl, Nat.le_of_ble_eq_true rfl⟩ rfl (Nat.le_of_ble_eq_true rfl) ⟨Nat.zero_le _, Nat.zero_le _⟩ (fun r1 w1 hf => ?_)
  refine V_if_ne X (tgt := 41) dX9_failed_9 (by decide) hf (fun hf => ?_) (fun hf => ?_)
  · refine V_gload_n X dX9_failed_12 rfl rfl ?_
    refine V_iload_n X dX9_failed_13 rfl rfl ?_
    refine V_i2l X dX9_failed_14 ?_
    refine V_lconst (a := 0) X dX9_failed_15 (by decide) ?_
    refine V_gload_n X dX9_failed_16 rfl rfl ?_
    refine V_geti X ob_85 rfl rfl hin_X9 51 (Nat.le_of_ble_eq_true rfl) tw_1367 rfl dX9_failed_17 ?_
    refine V_iconst X dX9_failed_20 ?_
    refine V_isub X dX9_failed_21 ?_
    refine V_i2l X dX9_failed_22 ?_
    refine V_cSI X hf [vl (wr a1), vl 0, vl (wr ((w1 85 51) - 1))] _ 3 (fun _ h => m_X9_in h) tw_1574 tw_95 tw_1572 tw_1573 dX9_failed_23 ⟨by decide +kernel, by decide +kernel, by decide +kernel⟩ ⟨rfl, rfl⟩ ⟨Nat.le_of_ble_eq_true rfl, Nat.le_of_ble_eq_true rfl⟩ rfl (Nat.le_of_ble_eq_true rfl) ⟨Nat.zero_le _, Nat.zero_le _⟩ (fun r2 w2 hf => ?_)
    refine V_if_ne X (tgt := 33) dX9_failed_26 (by decide) hf (fun hf => ?_) (fun hf => ?_)
    · refine V_iconst X dX9_failed_29 ?_
      refine V_goto X (tgt := 34) dX9_failed_30 (by decide) ?_
      exact V_cut [0, 1] rfl (v_X9_failed_34 X hE hf)
    · refine V_iconst X dX9_failed_33 ?_
      exact V_cut [0, 1] rfl (v_X9_failed_34 X hE hf)
  · refine V_iconst X dX9_failed_41 ?_
    refine V_goto X (tgt := 51) dX9_failed_42 (by decide) ?_
    exact V_iret X hE dX9_failed_51 hf
abbrev rmX9_depth : Room := { frames := 2, cells := 0, slots := 0, locals := 42 }
set_option maxRecDepth 20000 in
theorem m_X9_depth {G : GG}  {w : WS} {q : (Int × WS)}  (hf : f_X9_depth  w = some q) : MI G yX9_depth cX9_depth 1 (some .int) rmX9_depth [gr G 85] w q := by
  refine MI_of (by decide +kernel) (Nat.le_of_ble_eq_true rfl) (fun E X hE => ?_)
  have X : Cx G E cX9_depth RX9 (some .int) rmX9_depth 1 := X
  unfold f_X9_depth at hf
  refine V_gload_n X dX9_depth_0 rfl rfl ?_
  refine V_iconst X dX9_depth_1 ?_
  refine V_puti X ob_85 rfl rfl hin_X9 0 (Nat.le_of_ble_eq_true rfl) tw_1316 tyX9 tyX9_ok nmX9 rfl (by decide +kernel) rfl dX9_depth_2 ?_
  refine V_gload_n X dX9_depth_5 rfl rfl ?_
  refine V_cVI X hf [] _ 0 (fun _ h => m_X9_noRun h) ob_85 rfl tw_1829 tw_95 tw_1826 tw_1828 tw_80 dX9_depth_6 ⟨by decide +kernel, by decide +kernel, by decide +kernel⟩ ⟨rfl, rfl⟩ ⟨Nat.le_of_ble_eq_true rfl, Nat.le_of_ble_eq_true rfl⟩ rfl (Nat.le_of_ble_eq_true rfl) ⟨Nat.zero_le _, Nat.zero_le _⟩ (fun r1 w1 hf => ?_)
  refine V_if_eq X (tgt := 16) dX9_depth_9 (by decide) hf (fun hf => ?_) (fun hf => ?_)
  · refine V_gload_n X dX9_depth_16 rfl rfl ?_
    refine V_geti X ob_85 rfl rfl hin_X9 63 (Nat.le_of_ble_eq_true rfl) tw_1379 rfl dX9_depth_17 ?_
    exact V_iret X hE dX9_depth_20 hf
  · refine V_iconst X dX9_depth_12 ?_
    refine V_goto X (tgt := 20) dX9_depth_13 (by decide) ?_
    exact V_iret X hE dX9_depth_20 hf
abbrev rmX9_spare : Room := { frames := 0, cells := 0, slots := 0, locals := 0 }
set_option maxRecDepth 20000 in
theorem v_X9_spare_29 {G : GG} {E : EE} (X : Cx G E cX9_spare RX9 none rmX9_spare 2) {q : (Int × WS)} (hE : EndV G E q)   : ∀ (n : Nat) (a1 : Int) (w : WS), f_X9_spare_29   n a1 w = some q → VV G E 0 0 29 [(0, gr G 85), (1, vi a1)] [] w := by
  intro n
  induction n with
  | zero => intro a1 w hf; cases hf
  | succ n ih =>
    intro a1 w hf
    rw [f_X9_spare_29_s] at hf
    refine V_iload_n X dX9_spare_29 rfl rfl ?_
    refine V_bipush X dX9_spare_30 (by decide) ?_
    refine V_icmp_ge X (tgt := 53) dX9_spare_32 (by decide) hf (fun hf => ?_) (fun hf => ?_)
    · refine V_gload_n X dX9_spare_35 rfl rfl ?_
      refine V_getr X ob_85 rfl rfl hin_X9 78 (Nat.le_of_ble_eq_true rfl) tw_1394 rfl dX9_spare_36 ?_
      refine V_iload_n X dX9_spare_39 rfl rfl ?_
      refine V_gload_n X dX9_spare_40 rfl rfl ?_
      refine V_getr X ob_85 rfl rfl hin_X9 7 (Nat.le_of_ble_eq_true rfl) tw_1323 rfl dX9_spare_41 ?_
      refine V_iload_n X dX9_spare_44 rfl rfl ?_
      refine V_iald X ar_90 dX9_spare_45 hf (fun hf => ?_)
      refine V_iast X ar_133 dX9_spare_46 hf (fun hf => ?_)
      refine V_iinc X dX9_spare_47 rfl (by decide) ?_
      refine V_goto X (tgt := 29) dX9_spare_50 (by decide) ?_
      exact V_cut [0, 1] rfl (ih _ _ hf)
    · exact V_vret X hE dX9_spare_53 hf
set_option maxRecDepth 20000 in
theorem v_X9_spare_2 {G : GG} {E : EE} (X : Cx G E cX9_spare RX9 none rmX9_spare 2) {q : (Int × WS)} (hE : EndV G E q)   : ∀ (n : Nat) (a1 : Int) (w : WS), f_X9_spare_2   n a1 w = some q → VV G E 0 0 2 [(0, gr G 85), (1, vi a1)] [] w := by
  intro n
  induction n with
  | zero => intro a1 w hf; cases hf
  | succ n ih =>
    intro a1 w hf
    rw [f_X9_spare_2_s] at hf
    refine V_iload_n X dX9_spare_2 rfl rfl ?_
    refine V_sipush X dX9_spare_3 (by decide) ?_
    refine V_icmp_ge X (tgt := 27) dX9_spare_6 (by decide) hf (fun hf => ?_) (fun hf => ?_)
    · refine V_gload_n X dX9_spare_9 rfl rfl ?_
      refine V_getr X ob_85 rfl rfl hin_X9 77 (Nat.le_of_ble_eq_true rfl) tw_1393 rfl dX9_spare_10 ?_
      refine V_iload_n X dX9_spare_13 rfl rfl ?_
      refine V_gload_n X dX9_spare_14 rfl rfl ?_
      refine V_getr X ob_85 rfl rfl hin_X9 6 (Nat.le_of_ble_eq_true rfl) tw_1322 rfl dX9_spare_15 ?_
      refine V_iload_n X dX9_spare_18 rfl rfl ?_
      refine V_iald X ar_89 dX9_spare_19 hf (fun hf => ?_)
      refine V_iast X ar_132 dX9_spare_20 hf (fun hf => ?_)
      refine V_iinc X dX9_spare_21 rfl (by decide) ?_
      refine V_goto X (tgt := 2) dX9_spare_24 (by decide) ?_
      exact V_cut [0, 1] rfl (ih _ _ hf)
    · refine V_iconst X dX9_spare_27 ?_
      refine V_istore_n X dX9_spare_28 rfl (by decide) ?_
      exact V_cut [0, 1] rfl (v_X9_spare_29 X hE FU _ _ hf)
set_option maxRecDepth 20000 in
theorem m_X9_spare {G : GG}  {w : WS} {q : (Int × WS)}  (hf : f_X9_spare  w = some q) : MV G yX9_spare cX9_spare 2 none rmX9_spare [gr G 85] w q := by
  refine MV_of (by decide +kernel) (Nat.le_of_ble_eq_true rfl) (fun E X hE => ?_)
  have X : Cx G E cX9_spare RX9 none rmX9_spare 2 := X
  unfold f_X9_spare at hf
  refine V_iconst X dX9_spare_0 ?_
  refine V_istore_n X dX9_spare_1 rfl (by decide) ?_
  exact V_cut [0, 1] rfl (v_X9_spare_2 X hE FU _ _ hf)
abbrev rmX9_unspare : Room := { frames := 0, cells := 0, slots := 0, locals := 0 }
set_option maxRecDepth 20000 in
theorem v_X9_unspare_29 {G : GG} {E : EE} (X : Cx G E cX9_unspare RX9 none rmX9_unspare 2) {q : (Int × WS)} (hE : EndV G E q)   : ∀ (n : Nat) (a1 : Int) (w : WS), f_X9_unspare_29   n a1 w = some q → VV G E 0 0 29 [(0, gr G 85), (1, vi a1)] [] w := by
  intro n
  induction n with
  | zero => intro a1 w hf; cases hf
  | succ n ih =>
    intro a1 w hf
    rw [f_X9_unspare_29_s] at hf
    refine V_iload_n X dX9_unspare_29 rfl rfl ?_
    refine V_bipush X dX9_unspare_30 (by decide) ?_
    refine V_icmp_ge X (tgt := 53) dX9_unspare_32 (by decide) hf (fun hf => ?_) (fun hf => ?_)
    · refine V_gload_n X dX9_unspare_35 rfl rfl ?_
      refine V_getr X ob_85 rfl rfl hin_X9 7 (Nat.le_of_ble_eq_true rfl) tw_1323 rfl dX9_unspare_36 ?_
      refine V_iload_n X dX9_unspare_39 rfl rfl ?_
      refine V_gload_n X dX9_unspare_40 rfl rfl ?_
      refine V_getr X ob_85 rfl rfl hin_X9 78 (Nat.le_of_ble_eq_true rfl) tw_1394 rfl dX9_unspare_41 ?_
      refine V_iload_n X dX9_unspare_44 rfl rfl ?_
      refine V_iald X ar_133 dX9_unspare_45 hf (fun hf => ?_)
      refine V_iast X ar_90 dX9_unspare_46 hf (fun hf => ?_)
      refine V_iinc X dX9_unspare_47 rfl (by decide) ?_
      refine V_goto X (tgt := 29) dX9_unspare_50 (by decide) ?_
      exact V_cut [0, 1] rfl (ih _ _ hf)
    · exact V_vret X hE dX9_unspare_53 hf
set_option maxRecDepth 20000 in
theorem v_X9_unspare_2 {G : GG} {E : EE} (X : Cx G E cX9_unspare RX9 none rmX9_unspare 2) {q : (Int × WS)} (hE : EndV G E q)   : ∀ (n : Nat) (a1 : Int) (w : WS), f_X9_unspare_2   n a1 w = some q → VV G E 0 0 2 [(0, gr G 85), (1, vi a1)] [] w := by
  intro n
  induction n with
  | zero => intro a1 w hf; cases hf
  | succ n ih =>
    intro a1 w hf
    rw [f_X9_unspare_2_s] at hf
    refine V_iload_n X dX9_unspare_2 rfl rfl ?_
    refine V_sipush X dX9_unspare_3 (by decide) ?_
    refine V_icmp_ge X (tgt := 27) dX9_unspare_6 (by decide) hf (fun hf => ?_) (fun hf => ?_)
    · refine V_gload_n X dX9_unspare_9 rfl rfl ?_
      refine V_getr X ob_85 rfl rfl hin_X9 6 (Nat.le_of_ble_eq_true rfl) tw_1322 rfl dX9_unspare_10 ?_
      refine V_iload_n X dX9_unspare_13 rfl rfl ?_
      refine V_gload_n X dX9_unspare_14 rfl rfl ?_
      refine V_getr X ob_85 rfl rfl hin_X9 77 (Nat.le_of_ble_eq_true rfl) tw_1393 rfl dX9_unspare_15 ?_
      refine V_iload_n X dX9_unspare_18 rfl rfl ?_
      refine V_iald X ar_132 dX9_unspare_19 hf (fun hf => ?_)
      refine V_iast X ar_89 dX9_unspare_20 hf (fun hf => ?_)
      refine V_iinc X dX9_unspare_21 rfl (by decide) ?_
      refine V_goto X (tgt := 2) dX9_unspare_24 (by decide) ?_
      exact V_cut [0, 1] rfl (ih _ _ hf)
    · refine V_iconst X dX9_unspare_27 ?_
      refine V_istore_n X dX9_unspare_28 rfl (by decide) ?_
      exact V_cut [0, 1] rfl (v_X9_unspare_29 X hE FU _ _ hf)
set_option maxRecDepth 20000 in
theorem m_X9_unspare {G : GG}  {w : WS} {q : (Int × WS)}  (hf : f_X9_unspare  w = some q) : MV G yX9_unspare cX9_unspare 2 none rmX9_unspare [gr G 85] w q := by
  refine MV_of (by decide +kernel) (Nat.le_of_ble_eq_true rfl) (fun E X hE => ?_)
  have X : Cx G E cX9_unspare RX9 none rmX9_unspare 2 := X
  unfold f_X9_unspare at hf
  refine V_iconst X dX9_unspare_0 ?_
  refine V_istore_n X dX9_unspare_1 rfl (by decide) ?_
  exact V_cut [0, 1] rfl (v_X9_unspare_2 X hE FU _ _ hf)
abbrev rmX9_takeTyped : Room := { frames := 0, cells := 0, slots := 0, locals := 0 }
set_option maxRecDepth 20000 in
theorem v_X9_takeTyped_10 {G : GG} {E : EE} (X : Cx G E cX9_takeTyped RX9 none rmX9_takeTyped 2) {q : (Int × WS)} (hE : EndV G E q)   : ∀ (n : Nat) (a1 : Int) (w : WS), f_X9_takeTyped_10   n a1 w = some q → VV G E 0 0 10 [(0, gr G 85), (1, vi a1)] [] w := by
  intro n
  induction n with
  | zero => intro a1 w hf; cases hf
  | succ n ih =>
    intro a1 w hf
    rw [f_X9_takeTyped_10_s] at hf
    refine V_iload_n X dX9_takeTyped_10 rfl rfl ?_
    refine V_gload_n X dX9_takeTyped_11 rfl rfl ?_
    refine V_geti X ob_85 rfl rfl hin_X9 2 (Nat.le_of_ble_eq_true rfl) tw_1318 rfl dX9_takeTyped_12 ?_
    refine V_icmp_ge X (tgt := 36) dX9_takeTyped_15 (by decide) hf (fun hf => ?_) (fun hf => ?_)
    · refine V_gload_n X dX9_takeTyped_18 rfl rfl ?_
      refine V_getr X ob_85 rfl rfl hin_X9 19 (Nat.le_of_ble_eq_true rfl) tw_1335 rfl dX9_takeTyped_19 ?_
      refine V_iload_n X dX9_takeTyped_22 rfl rfl ?_
      refine V_gload_n X dX9_takeTyped_23 rfl rfl ?_
      refine V_getr X ob_85 rfl rfl hin_X9 1 (Nat.le_of_ble_eq_true rfl) tw_1317 rfl dX9_takeTyped_24 ?_
      refine V_iload_n X dX9_takeTyped_27 rfl rfl ?_
      refine V_iald X ar_86 dX9_takeTyped_28 hf (fun hf => ?_)
      refine V_iast X ar_100 dX9_takeTyped_29 hf (fun hf => ?_)
      refine V_iinc X dX9_takeTyped_30 rfl (by decide) ?_
      refine V_goto X (tgt := 10) dX9_takeTyped_33 (by decide) ?_
      exact V_cut [0, 1] rfl (ih _ _ hf)
    · exact V_vret X hE dX9_takeTyped_36 hf
set_option maxRecDepth 20000 in
theorem m_X9_takeTyped {G : GG}  {w : WS} {q : (Int × WS)}  (hf : f_X9_takeTyped  w = some q) : MV G yX9_takeTyped cX9_takeTyped 2 none rmX9_takeTyped [gr G 85] w q := by
  refine MV_of (by decide +kernel) (Nat.le_of_ble_eq_true rfl) (fun E X hE => ?_)
  have X : Cx G E cX9_takeTyped RX9 none rmX9_takeTyped 2 := X
  unfold f_X9_takeTyped at hf
  refine V_gload_n X dX9_takeTyped_0 rfl rfl ?_
  refine V_gload_n X dX9_takeTyped_1 rfl rfl ?_
  refine V_geti X ob_85 rfl rfl hin_X9 2 (Nat.le_of_ble_eq_true rfl) tw_1318 rfl dX9_takeTyped_2 ?_
  refine V_puti X ob_85 rfl rfl hin_X9 20 (Nat.le_of_ble_eq_true rfl) tw_1336 tyX9 tyX9_ok nmX9 rfl (by decide +kernel) rfl dX9_takeTyped_5 ?_
  refine V_iconst X dX9_takeTyped_8 ?_
  refine V_istore_n X dX9_takeTyped_9 rfl (by decide) ?_
  exact V_cut [0, 1] rfl (v_X9_takeTyped_10 X hE FU _ _ hf)
abbrev rmX9_match : Room := { frames := 6, cells := 0, slots := 0, locals := 145 }
set_option maxRecDepth 20000 in
theorem v_X9_match_87 {G : GG} {E : EE} (X : Cx G E cX9_match RX9 (some .boolean) rmX9_match 3) {q : (Int × WS)} (hE : EndI G E q)   {s0 : Int} {w : WS} (hf : f_X9_match_87   s0 w = some q) : VV G E 0 0 87 [(0, gr G 85)] [vi s0, gr G 85] w := by
  unfold f_X9_match_87 at hf
  obtain ⟨hz, hf⟩ := ite_n hf
  refine V_putz X ob_85 rfl rfl hin_X9 73 (Nat.le_of_ble_eq_true rfl) tw_1389 tyX9 tyX9_ok nmX9 rfl (by decide +kernel) hz rfl dX9_match_87 ?_
  refine V_gload_n X dX9_match_90 rfl rfl ?_
  refine V_gload_n X dX9_match_91 rfl rfl ?_
  refine V_geti X ob_85 rfl rfl hin_X9 22 (Nat.le_of_ble_eq_true rfl) tw_1338 rfl dX9_match_92 ?_
  refine V_puti X ob_85 rfl rfl hin_X9 76 (Nat.le_of_ble_eq_true rfl) tw_1392 tyX9 tyX9_ok nmX9 rfl (by decide +kernel) rfl dX9_match_95 ?_
  refine V_gload_n X dX9_match_98 rfl rfl ?_
  refine V_gload_n X dX9_match_99 rfl rfl ?_
  refine V_geti X ob_85 rfl rfl hin_X9 43 (Nat.le_of_ble_eq_true rfl) tw_1359 rfl dX9_match_100 ?_
  refine V_puti X ob_85 rfl rfl hin_X9 74 (Nat.le_of_ble_eq_true rfl) tw_1390 tyX9 tyX9_ok nmX9 rfl (by decide +kernel) rfl dX9_match_103 ?_
  refine V_gload_n X dX9_match_106 rfl rfl ?_
  refine V_gload_n X dX9_match_107 rfl rfl ?_
  refine V_geti X ob_85 rfl rfl hin_X9 39 (Nat.le_of_ble_eq_true rfl) tw_1355 rfl dX9_match_108 ?_
  refine V_puti X ob_85 rfl rfl hin_X9 75 (Nat.le_of_ble_eq_true rfl) tw_1391 tyX9 tyX9_ok nmX9 rfl (by decide +kernel) rfl dX9_match_111 ?_
  refine V_gload_n X dX9_match_114 rfl rfl ?_
  refine V_geti X ob_85 rfl rfl hin_X9 73 (Nat.le_of_ble_eq_true rfl) tw_1389 rfl dX9_match_115 ?_
  refine V_if_eq X (tgt := 125) dX9_match_118 (by decide) hf (fun hf => ?_) (fun hf => ?_)
  · refine V_gload_n X dX9_match_125 rfl rfl ?_
    refine V_geti X ob_85 rfl rfl hin_X9 73 (Nat.le_of_ble_eq_true rfl) tw_1389 rfl dX9_match_126 ?_
    obtain ⟨hz, hf⟩ := ite_n hf
    exact V_zret X hE dX9_match_129 hz hf
  · refine V_gload_n X dX9_match_121 rfl rfl ?_
    refine V_cVV X hf [] _ 0 (fun _ h => m_X9_assignKept h) ob_85 rfl tw_1793 tw_95 tw_1790 tw_1792 tw_72 dX9_match_122 ⟨by decide +kernel, by decide +kernel, by decide +kernel⟩ ⟨rfl, rfl⟩ ⟨Nat.le_of_ble_eq_true rfl, Nat.le_of_ble_eq_true rfl⟩ rfl (Nat.le_of_ble_eq_true rfl) ⟨Nat.zero_le _, Nat.zero_le _⟩ (fun r8 w8 hf => ?_)
    refine V_gload_n X dX9_match_125 rfl rfl ?_
    refine V_geti X ob_85 rfl rfl hin_X9 73 (Nat.le_of_ble_eq_true rfl) tw_1389 rfl dX9_match_126 ?_
    obtain ⟨hz, hf⟩ := ite_n hf
    exact V_zret X hE dX9_match_129 hz hf
set_option maxRecDepth 20000 in
theorem v_X9_match_62 {G : GG} {E : EE} (X : Cx G E cX9_match RX9 (some .boolean) rmX9_match 3) {q : (Int × WS)} (hE : EndI G E q)   {a2 s0 : Int} {w : WS} (hf : f_X9_match_62   a2 s0 w = some q) : VV G E 0 0 62 [(0, gr G 85), (2, vi a2)] [vi s0, gr G 85] w := by
  unfold f_X9_match_62 at hf
  refine V_iconst X dX9_match_62 ?_
  refine V_cVI X hf [vi s0, vi 2] _ 2 (fun _ h => m_X9_fails h) ob_85 rfl tw_1580 tw_95 tw_1577 tw_1579 tw_38 dX9_match_63 ⟨by decide +kernel, by decide +kernel, by decide +kernel⟩ ⟨rfl, rfl⟩ ⟨Nat.le_of_ble_eq_true rfl, Nat.le_of_ble_eq_true rfl⟩ rfl (Nat.le_of_ble_eq_true rfl) ⟨Nat.zero_le _, Nat.zero_le _⟩ (fun r7 w7 hf => ?_)
  refine V_if_eq X (tgt := 71) dX9_match_66 (by decide) hf (fun hf => ?_) (fun hf => ?_)
  · refine V_gload_n X dX9_match_71 rfl rfl ?_
    refine V_iconst X dX9_match_72 ?_
    refine V_putz X ob_85 rfl rfl hin_X9 72 (Nat.le_of_ble_eq_true rfl) tw_1388 tyX9 tyX9_ok nmX9 rfl (by decide +kernel) (Or.inr rfl) rfl dX9_match_73 ?_
    refine V_gload_n X dX9_match_76 rfl rfl ?_
    refine V_iload_n X dX9_match_77 rfl rfl ?_
    refine V_iconst X dX9_match_78 ?_
    refine V_icmp_ne X (tgt := 86) dX9_match_79 (by decide) hf (fun hf => ?_) (fun hf => ?_)
    · refine V_iconst X dX9_match_82 ?_
      refine V_goto X (tgt := 87) dX9_match_83 (by decide) ?_
      exact V_cut [0] rfl (v_X9_match_87 X hE hf)
    · refine V_iconst X dX9_match_86 ?_
      exact V_cut [0] rfl (v_X9_match_87 X hE hf)
  · refine V_iconst X dX9_match_69 ?_
    exact V_zret X hE dX9_match_70 (Or.inl rfl) hf
set_option maxRecDepth 20000 in
theorem v_X9_match_51 {G : GG} {E : EE} (X : Cx G E cX9_match RX9 (some .boolean) rmX9_match 3) {q : (Int × WS)} (hE : EndI G E q)   {a2 : Int} {w : WS} (hf : f_X9_match_51   a2 w = some q) : VV G E 0 0 51 [(0, gr G 85), (2, vi a2)] [] w := by
  unfold f_X9_match_51 at hf
  refine V_gload_n X dX9_match_51 rfl rfl ?_
  refine V_iload_n X dX9_match_52 rfl rfl ?_
  refine V_iconst X dX9_match_53 ?_
  refine V_icmp_ne X (tgt := 61) dX9_match_54 (by decide) hf (fun hf => ?_) (fun hf => ?_)
  · refine V_iconst X dX9_match_57 ?_
    refine V_goto X (tgt := 62) dX9_match_58 (by decide) ?_
    exact V_cut [0, 2] rfl (v_X9_match_62 X hE hf)
  · refine V_iconst X dX9_match_61 ?_
    exact V_cut [0, 2] rfl (v_X9_match_62 X hE hf)
set_option maxRecDepth 20000 in
theorem v_X9_match_19 {G : GG} {E : EE} (X : Cx G E cX9_match RX9 (some .boolean) rmX9_match 3) {q : (Int × WS)} (hE : EndI G E q)   {a1 s0 : Int} {w : WS} (hf : f_X9_match_19   a1 s0 w = some q) : VV G E 0 0 19 [(0, gr G 85), (1, vi a1)] [vi s0, gr G 85] w := by
  unfold f_X9_match_19 at hf
  refine V_iconst X dX9_match_19 ?_
  refine V_cVI X hf [vi s0, vi 1] _ 2 (fun _ h => m_X9_fails h) ob_85 rfl tw_1580 tw_95 tw_1577 tw_1579 tw_38 dX9_match_20 ⟨by decide +kernel, by decide +kernel, by decide +kernel⟩ ⟨rfl, rfl⟩ ⟨Nat.le_of_ble_eq_true rfl, Nat.le_of_ble_eq_true rfl⟩ rfl (Nat.le_of_ble_eq_true rfl) ⟨Nat.zero_le _, Nat.zero_le _⟩ (fun r2 w2 hf => ?_)
  refine V_if_eq X (tgt := 28) dX9_match_23 (by decide) hf (fun hf => ?_) (fun hf => ?_)
  · refine V_gload_n X dX9_match_28 rfl rfl ?_
    refine V_cVV X hf [] _ 0 (fun _ h => m_X9_spare h) ob_85 rfl tw_1857 tw_95 tw_1854 tw_1856 tw_81 dX9_match_29 ⟨by decide +kernel, by decide +kernel, by decide +kernel⟩ ⟨rfl, rfl⟩ ⟨Nat.le_of_ble_eq_true rfl, Nat.le_of_ble_eq_true rfl⟩ rfl (Nat.le_of_ble_eq_true rfl) ⟨Nat.zero_le _, Nat.zero_le _⟩ (fun r3 w3 hf => ?_)
    refine V_gload_n X dX9_match_32 rfl rfl ?_
    refine V_cVV X hf [] _ 0 (fun _ h => m_X9_takeTyped h) ob_85 rfl tw_1861 tw_95 tw_1858 tw_1860 tw_82 dX9_match_33 ⟨by decide +kernel, by decide +kernel, by decide +kernel⟩ ⟨rfl, rfl⟩ ⟨Nat.le_of_ble_eq_true rfl, Nat.le_of_ble_eq_true rfl⟩ rfl (Nat.le_of_ble_eq_true rfl) ⟨Nat.zero_le _, Nat.zero_le _⟩ (fun r4 w4 hf => ?_)
    refine V_gload_n X dX9_match_36 rfl rfl ?_
    refine V_iload_n X dX9_match_37 rfl rfl ?_
    refine V_cVI X hf [vi a1] _ 1 (fun _ h => m_X9_matches h) ob_85 rfl tw_1725 tw_95 tw_1722 tw_1724 tw_55 dX9_match_38 ⟨by decide +kernel, by decide +kernel, by decide +kernel⟩ ⟨rfl, rfl⟩ ⟨Nat.le_of_ble_eq_true rfl, Nat.le_of_ble_eq_true rfl⟩ rfl (Nat.le_of_ble_eq_true rfl) ⟨Nat.zero_le _, Nat.zero_le _⟩ (fun r5 w5 hf => ?_)
    refine V_istore_n X dX9_match_41 rfl (by decide) ?_
    refine V_iload_n X dX9_match_42 rfl rfl ?_
    refine V_iconst X dX9_match_43 ?_
    refine V_icmp_ne X (tgt := 51) dX9_match_44 (by decide) hf (fun hf => ?_) (fun hf => ?_)
    · refine V_gload_n X dX9_match_47 rfl rfl ?_
      refine V_cVV X hf [] _ 0 (fun _ h => m_X9_unspare h) ob_85 rfl tw_1865 tw_95 tw_1862 tw_1864 tw_83 dX9_match_48 ⟨by decide +kernel, by decide +kernel, by decide +kernel⟩ ⟨rfl, rfl⟩ ⟨Nat.le_of_ble_eq_true rfl, Nat.le_of_ble_eq_true rfl⟩ rfl (Nat.le_of_ble_eq_true rfl) ⟨Nat.zero_le _, Nat.zero_le _⟩ (fun r6 w6 hf => ?_)
      exact V_cut [0, 2] rfl (v_X9_match_51 X hE hf)
    · exact V_cut [0, 2] rfl (v_X9_match_51 X hE hf)
  · refine V_iconst X dX9_match_26 ?_
    exact V_zret X hE dX9_match_27 (Or.inl rfl) hf
set_option maxRecDepth 20000 in
theorem m_X9_match {G : GG} {a1 : Int} {w : WS} {q : (Int × WS)}  (hf : f_X9_match a1 w = some q) : MI G yX9_match cX9_match 3 (some .boolean) rmX9_match [gr G 85, vi a1] w q := by
  refine MI_of (by decide +kernel) (Nat.le_of_ble_eq_true rfl) (fun E X hE => ?_)
  have X : Cx G E cX9_match RX9 (some .boolean) rmX9_match 3 := X
  unfold f_X9_match at hf
  refine V_gload_n X dX9_match_0 rfl rfl ?_
  refine V_iconst X dX9_match_1 ?_
  refine V_puti X ob_85 rfl rfl hin_X9 0 (Nat.le_of_ble_eq_true rfl) tw_1316 tyX9 tyX9_ok nmX9 rfl (by decide +kernel) rfl dX9_match_2 ?_
  refine V_gload_n X dX9_match_5 rfl rfl ?_
  refine V_gload_n X dX9_match_6 rfl rfl ?_
  refine V_iload_n X dX9_match_7 rfl rfl ?_
  refine V_cVI X hf [vi a1] _ 1 (fun _ h => m_X9_isPattern h) ob_85 rfl tw_1619 tw_95 tw_1616 tw_1618 tw_40 dX9_match_8 ⟨by decide +kernel, by decide +kernel, by decide +kernel⟩ ⟨rfl, rfl⟩ ⟨Nat.le_of_ble_eq_true rfl, Nat.le_of_ble_eq_true rfl⟩ rfl (Nat.le_of_ble_eq_true rfl) ⟨Nat.zero_le _, Nat.zero_le _⟩ (fun r1 w1 hf => ?_)
  refine V_if_ne X (tgt := 18) dX9_match_11 (by decide) hf (fun hf => ?_) (fun hf => ?_)
  · refine V_iconst X dX9_match_14 ?_
    refine V_goto X (tgt := 19) dX9_match_15 (by decide) ?_
    exact V_cut [0, 1] rfl (v_X9_match_19 X hE hf)
  · refine V_iconst X dX9_match_18 ?_
    exact V_cut [0, 1] rfl (v_X9_match_19 X hE hf)
abbrev rmX9_from : Room := { frames := 1, cells := 0, slots := 0, locals := 22 }
set_option maxRecDepth 20000 in
theorem v_X9_from_38 {G : GG} {E : EE} (X : Cx G E cX9_from RX9 (some .int) rmX9_from 1) {q : (Int × WS)} (hE : EndI G E q)   {s0 : Int} {w : WS} (hf : f_X9_from_38   s0 w = some q) : VV G E 0 0 38 [(0, gr G 85)] [vi s0, gr G 85] w := by
  unfold f_X9_from_38 at hf
  refine V_iconst X dX9_from_38 ?_
  refine V_cVI X hf [vi s0, vi 2] _ 2 (fun _ h => m_X9_fails h) ob_85 rfl tw_1580 tw_95 tw_1577 tw_1579 tw_38 dX9_from_39 ⟨by decide +kernel, by decide +kernel, by decide +kernel⟩ ⟨rfl, rfl⟩ ⟨Nat.le_of_ble_eq_true rfl, Nat.le_of_ble_eq_true rfl⟩ rfl (Nat.le_of_ble_eq_true rfl) ⟨Nat.zero_le _, Nat.zero_le _⟩ (fun r2 w2 hf => ?_)
  refine V_if_eq X (tgt := 49) dX9_from_42 (by decide) hf (fun hf => ?_) (fun hf => ?_)
  · refine V_gload_n X dX9_from_49 rfl rfl ?_
    refine V_geti X ob_85 rfl rfl hin_X9 74 (Nat.le_of_ble_eq_true rfl) tw_1390 rfl dX9_from_50 ?_
    exact V_iret X hE dX9_from_53 hf
  · refine V_iconst X dX9_from_45 ?_
    refine V_goto X (tgt := 53) dX9_from_46 (by decide) ?_
    exact V_iret X hE dX9_from_53 hf
set_option maxRecDepth 20000 in
theorem v_X9_from_18 {G : GG} {E : EE} (X : Cx G E cX9_from RX9 (some .int) rmX9_from 1) {q : (Int × WS)} (hE : EndI G E q)   {s0 : Int} {w : WS} (hf : f_X9_from_18   s0 w = some q) : VV G E 0 0 18 [(0, gr G 85)] [vi s0, gr G 85] w := by
  unfold f_X9_from_18 at hf
  refine V_iconst X dX9_from_18 ?_
  refine V_cVI X hf [vi s0, vi 1] _ 2 (fun _ h => m_X9_fails h) ob_85 rfl tw_1580 tw_95 tw_1577 tw_1579 tw_38 dX9_from_19 ⟨by decide +kernel, by decide +kernel, by decide +kernel⟩ ⟨rfl, rfl⟩ ⟨Nat.le_of_ble_eq_true rfl, Nat.le_of_ble_eq_true rfl⟩ rfl (Nat.le_of_ble_eq_true rfl) ⟨Nat.zero_le _, Nat.zero_le _⟩ (fun r1 w1 hf => ?_)
  refine V_if_ne X (tgt := 45) dX9_from_22 (by decide) hf (fun hf => ?_) (fun hf => ?_)
  · refine V_gload_n X dX9_from_25 rfl rfl ?_
    refine V_gload_n X dX9_from_26 rfl rfl ?_
    refine V_geti X ob_85 rfl rfl hin_X9 73 (Nat.le_of_ble_eq_true rfl) tw_1389 rfl dX9_from_27 ?_
    refine V_if_ne X (tgt := 37) dX9_from_30 (by decide) hf (fun hf => ?_) (fun hf => ?_)
    · refine V_iconst X dX9_from_33 ?_
      refine V_goto X (tgt := 38) dX9_from_34 (by decide) ?_
      exact V_cut [0] rfl (v_X9_from_38 X hE hf)
    · refine V_iconst X dX9_from_37 ?_
      exact V_cut [0] rfl (v_X9_from_38 X hE hf)
  · refine V_iconst X dX9_from_45 ?_
    refine V_goto X (tgt := 53) dX9_from_46 (by decide) ?_
    exact V_iret X hE dX9_from_53 hf
set_option maxRecDepth 20000 in
theorem m_X9_from {G : GG}  {w : WS} {q : (Int × WS)}  (hf : f_X9_from  w = some q) : MI G yX9_from cX9_from 1 (some .int) rmX9_from [gr G 85] w q := by
  refine MI_of (by decide +kernel) (Nat.le_of_ble_eq_true rfl) (fun E X hE => ?_)
  have X : Cx G E cX9_from RX9 (some .int) rmX9_from 1 := X
  unfold f_X9_from at hf
  refine V_gload_n X dX9_from_0 rfl rfl ?_
  refine V_iconst X dX9_from_1 ?_
  refine V_puti X ob_85 rfl rfl hin_X9 0 (Nat.le_of_ble_eq_true rfl) tw_1316 tyX9 tyX9_ok nmX9 rfl (by decide +kernel) rfl dX9_from_2 ?_
  refine V_gload_n X dX9_from_5 rfl rfl ?_
  refine V_gload_n X dX9_from_6 rfl rfl ?_
  refine V_geti X ob_85 rfl rfl hin_X9 72 (Nat.le_of_ble_eq_true rfl) tw_1388 rfl dX9_from_7 ?_
  refine V_if_ne X (tgt := 17) dX9_from_10 (by decide) hf (fun hf => ?_) (fun hf => ?_)
  · refine V_iconst X dX9_from_13 ?_
    refine V_goto X (tgt := 18) dX9_from_14 (by decide) ?_
    exact V_cut [0] rfl (v_X9_from_18 X hE hf)
  · refine V_iconst X dX9_from_17 ?_
    exact V_cut [0] rfl (v_X9_from_18 X hE hf)
abbrev rmX9_to : Room := { frames := 1, cells := 0, slots := 0, locals := 22 }
set_option maxRecDepth 20000 in
theorem v_X9_to_38 {G : GG} {E : EE} (X : Cx G E cX9_to RX9 (some .int) rmX9_to 1) {q : (Int × WS)} (hE : EndI G E q)   {s0 : Int} {w : WS} (hf : f_X9_to_38   s0 w = some q) : VV G E 0 0 38 [(0, gr G 85)] [vi s0, gr G 85] w := by
  unfold f_X9_to_38 at hf
  refine V_iconst X dX9_to_38 ?_
  refine V_cVI X hf [vi s0, vi 2] _ 2 (fun _ h => m_X9_fails h) ob_85 rfl tw_1580 tw_95 tw_1577 tw_1579 tw_38 dX9_to_39 ⟨by decide +kernel, by decide +kernel, by decide +kernel⟩ ⟨rfl, rfl⟩ ⟨Nat.le_of_ble_eq_true rfl, Nat.le_of_ble_eq_true rfl⟩ rfl (Nat.le_of_ble_eq_true rfl) ⟨Nat.zero_le _, Nat.zero_le _⟩ (fun r2 w2 hf => ?_)
  refine V_if_eq X (tgt := 49) dX9_to_42 (by decide) hf (fun hf => ?_) (fun hf => ?_)
  · refine V_gload_n X dX9_to_49 rfl rfl ?_
    refine V_geti X ob_85 rfl rfl hin_X9 75 (Nat.le_of_ble_eq_true rfl) tw_1391 rfl dX9_to_50 ?_
    exact V_iret X hE dX9_to_53 hf
  · refine V_iconst X dX9_to_45 ?_
    refine V_goto X (tgt := 53) dX9_to_46 (by decide) ?_
    exact V_iret X hE dX9_to_53 hf
set_option maxRecDepth 20000 in
theorem v_X9_to_18 {G : GG} {E : EE} (X : Cx G E cX9_to RX9 (some .int) rmX9_to 1) {q : (Int × WS)} (hE : EndI G E q)   {s0 : Int} {w : WS} (hf : f_X9_to_18   s0 w = some q) : VV G E 0 0 18 [(0, gr G 85)] [vi s0, gr G 85] w := by
  unfold f_X9_to_18 at hf
  refine V_iconst X dX9_to_18 ?_
  refine V_cVI X hf [vi s0, vi 1] _ 2 (fun _ h => m_X9_fails h) ob_85 rfl tw_1580 tw_95 tw_1577 tw_1579 tw_38 dX9_to_19 ⟨by decide +kernel, by decide +kernel, by decide +kernel⟩ ⟨rfl, rfl⟩ ⟨Nat.le_of_ble_eq_true rfl, Nat.le_of_ble_eq_true rfl⟩ rfl (Nat.le_of_ble_eq_true rfl) ⟨Nat.zero_le _, Nat.zero_le _⟩ (fun r1 w1 hf => ?_)
  refine V_if_ne X (tgt := 45) dX9_to_22 (by decide) hf (fun hf => ?_) (fun hf => ?_)
  · refine V_gload_n X dX9_to_25 rfl rfl ?_
    refine V_gload_n X dX9_to_26 rfl rfl ?_
    refine V_geti X ob_85 rfl rfl hin_X9 73 (Nat.le_of_ble_eq_true rfl) tw_1389 rfl dX9_to_27 ?_
    refine V_if_ne X (tgt := 37) dX9_to_30 (by decide) hf (fun hf => ?_) (fun hf => ?_)
    · refine V_iconst X dX9_to_33 ?_
      refine V_goto X (tgt := 38) dX9_to_34 (by decide) ?_
      exact V_cut [0] rfl (v_X9_to_38 X hE hf)
    · refine V_iconst X dX9_to_37 ?_
      exact V_cut [0] rfl (v_X9_to_38 X hE hf)
  · refine V_iconst X dX9_to_45 ?_
    refine V_goto X (tgt := 53) dX9_to_46 (by decide) ?_
    exact V_iret X hE dX9_to_53 hf
set_option maxRecDepth 20000 in
theorem m_X9_to {G : GG}  {w : WS} {q : (Int × WS)}  (hf : f_X9_to  w = some q) : MI G yX9_to cX9_to 1 (some .int) rmX9_to [gr G 85] w q := by
  refine MI_of (by decide +kernel) (Nat.le_of_ble_eq_true rfl) (fun E X hE => ?_)
  have X : Cx G E cX9_to RX9 (some .int) rmX9_to 1 := X
  unfold f_X9_to at hf
  refine V_gload_n X dX9_to_0 rfl rfl ?_
  refine V_iconst X dX9_to_1 ?_
  refine V_puti X ob_85 rfl rfl hin_X9 0 (Nat.le_of_ble_eq_true rfl) tw_1316 tyX9 tyX9_ok nmX9 rfl (by decide +kernel) rfl dX9_to_2 ?_
  refine V_gload_n X dX9_to_5 rfl rfl ?_
  refine V_gload_n X dX9_to_6 rfl rfl ?_
  refine V_geti X ob_85 rfl rfl hin_X9 72 (Nat.le_of_ble_eq_true rfl) tw_1388 rfl dX9_to_7 ?_
  refine V_if_ne X (tgt := 17) dX9_to_10 (by decide) hf (fun hf => ?_) (fun hf => ?_)
  · refine V_iconst X dX9_to_13 ?_
    refine V_goto X (tgt := 18) dX9_to_14 (by decide) ?_
    exact V_cut [0] rfl (v_X9_to_18 X hE hf)
  · refine V_iconst X dX9_to_17 ?_
    exact V_cut [0] rfl (v_X9_to_18 X hE hf)
abbrev rmX9_begun : Room := { frames := 1, cells := 0, slots := 0, locals := 22 }
set_option maxRecDepth 20000 in
theorem v_X9_begun_18 {G : GG} {E : EE} (X : Cx G E cX9_begun RX9 (some .int) rmX9_begun 1) {q : (Int × WS)} (hE : EndI G E q)   {s0 : Int} {w : WS} (hf : f_X9_begun_18   s0 w = some q) : VV G E 0 0 18 [(0, gr G 85)] [vi s0, gr G 85] w := by
  unfold f_X9_begun_18 at hf
  refine V_iconst X dX9_begun_18 ?_
  refine V_cVI X hf [vi s0, vi 1] _ 2 (fun _ h => m_X9_fails h) ob_85 rfl tw_1580 tw_95 tw_1577 tw_1579 tw_38 dX9_begun_19 ⟨by decide +kernel, by decide +kernel, by decide +kernel⟩ ⟨rfl, rfl⟩ ⟨Nat.le_of_ble_eq_true rfl, Nat.le_of_ble_eq_true rfl⟩ rfl (Nat.le_of_ble_eq_true rfl) ⟨Nat.zero_le _, Nat.zero_le _⟩ (fun r1 w1 hf => ?_)
  refine V_if_eq X (tgt := 29) dX9_begun_22 (by decide) hf (fun hf => ?_) (fun hf => ?_)
  · refine V_gload_n X dX9_begun_29 rfl rfl ?_
    refine V_geti X ob_85 rfl rfl hin_X9 76 (Nat.le_of_ble_eq_true rfl) tw_1392 rfl dX9_begun_30 ?_
    exact V_iret X hE dX9_begun_33 hf
  · refine V_iconst X dX9_begun_25 ?_
    refine V_goto X (tgt := 33) dX9_begun_26 (by decide) ?_
    exact V_iret X hE dX9_begun_33 hf
set_option maxRecDepth 20000 in
theorem m_X9_begun {G : GG}  {w : WS} {q : (Int × WS)}  (hf : f_X9_begun  w = some q) : MI G yX9_begun cX9_begun 1 (some .int) rmX9_begun [gr G 85] w q := by
  refine MI_of (by decide +kernel) (Nat.le_of_ble_eq_true rfl) (fun E X hE => ?_)
  have X : Cx G E cX9_begun RX9 (some .int) rmX9_begun 1 := X
  unfold f_X9_begun at hf
  refine V_gload_n X dX9_begun_0 rfl rfl ?_
  refine V_iconst X dX9_begun_1 ?_
  refine V_puti X ob_85 rfl rfl hin_X9 0 (Nat.le_of_ble_eq_true rfl) tw_1316 tyX9 tyX9_ok nmX9 rfl (by decide +kernel) rfl dX9_begun_2 ?_
  refine V_gload_n X dX9_begun_5 rfl rfl ?_
  refine V_gload_n X dX9_begun_6 rfl rfl ?_
  refine V_geti X ob_85 rfl rfl hin_X9 72 (Nat.le_of_ble_eq_true rfl) tw_1388 rfl dX9_begun_7 ?_
  refine V_if_ne X (tgt := 17) dX9_begun_10 (by decide) hf (fun hf => ?_) (fun hf => ?_)
  · refine V_iconst X dX9_begun_13 ?_
    refine V_goto X (tgt := 18) dX9_begun_14 (by decide) ?_
    exact V_cut [0] rfl (v_X9_begun_18 X hE hf)
  · refine V_iconst X dX9_begun_17 ?_
    exact V_cut [0] rfl (v_X9_begun_18 X hE hf)
