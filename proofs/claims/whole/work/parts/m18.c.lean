abbrev rI8 : Room := { frames := 3, cells := 84, slots := 60883, locals := 86 }
def eX8 (cA : Nat → ClassId) (h : Nat) : List va_E := ((((((((((([.inr (10, [.ref (h + 1), .ref (h + 4), vi 0, .ref (h + 7), .ref (h + 10), .ref (h + 13), .ref (h + 20), .ref (h + 27), .ref (h + 45), .ref (h + 51), .ref (h + 70), .ref (h + 83), vi 0, vi 0, vi 0, vi 0, vi 0, vi 0, vi 0])] ++ eX6 cA (h + 1) 1 60 60) ++ eX6 cA (h + 4) 30 600 20) ++ eX6 cA (h + 7) 26 1560 60) ++ eX6 cA (h + 10) 26 1560 60) ++ eX0 cA (h + 13)) ++ eX0 cA (h + 20)) ++ eX2 cA (h + 27) (h + 13) (h + 4) (h + 7)) ++ eX5 cA (h + 45) (h + 20) (h + 4) (h + 7)) ++ eX4 cA (h + 51) ) ++ eX7 cA (h + 70) (h + 51) (h + 27) (h + 45) (h + 7)) ++ eX1 cA (h + 83) 200)
set_option maxHeartbeats 20000000 in
set_option maxRecDepth 20000 in
theorem c_X8 {G : Gb} (h : Nat) : MBc G yX8_init cX8_init 1 rI8 h [] (.inr (10, [.null, .null, vi 0, .null, .null, .null, .null, .null, .null, .null, .null, .null, vi 0, vi 0, vi 0, vi 0, vi 0, vi 0, vi 0])) (eX8 G.2.2 h) := by
  refine MBc_of (by decide +kernel) rfl (Nat.le_of_ble_eq_true rfl) (fun E X hI hE => ?_)
  have X : Cb G E h cX8_init RX8 none rI8 1 := X
  refine B_aload_n X dX8_init_0 rfl rfl ?_
  refine B_obj X ow_32 ow_33 ow_34 dX8_init_1 (Nat.le_of_ble_eq_true rfl) (Nat.le_of_ble_eq_true rfl) ?_
  refine B_aload_n X dX8_init_4 rfl rfl ?_
  refine B_new X (ci := 8) rfl hin_X6 tyX6 tyX6_ok tw_120 tw_121 tw_87 df_X6 (m9 := 1) rfl dX8_init_5 ⟨by decide +kernel, by decide +kernel⟩ ?_
  refine B_dup X dX8_init_8 rfl ?_
  refine B_iconst X dX8_init_9 ?_
  refine B_bipush X dX8_init_10 (by decide) ?_
  refine B_call X _ [vi 1, vi 60] _ 2 (c_X6 (h + 1) 1 60 60 (a := 1) (b := 60) (by decide +kernel) (by decide +kernel) (by decide +kernel) (Nat.le_of_ble_eq_true rfl)) tw_124 tw_87 tw_122 tw_123 rfl dX8_init_12 ⟨by decide +kernel, by decide +kernel, by decide +kernel⟩ ⟨Nat.le_of_ble_eq_true rfl, Nat.le_of_ble_eq_true rfl⟩ ⟨rfl, rfl⟩ rfl (Nat.le_of_ble_eq_true rfl) (m9 := 1) rfl ⟨by decide +kernel, by decide +kernel⟩ ?_
  refine B_putF X hI rfl hin_X8 0 (Nat.le_of_ble_eq_true rfl) tw_401 tyX8 tyX8_ok nmX8 rfl rfl (tyX8_ok 0 (Nat.le_of_ble_eq_true rfl)) rfl rfl (Nat.le_of_ble_eq_true rfl) (fs' := [.ref (h + 1), .null, vi 0, .null, .null, .null, .null, .null, .null, .null, .null, .null, vi 0, vi 0, vi 0, vi 0, vi 0, vi 0, vi 0]) rfl dX8_init_15 ?_
  refine B_aload_n X dX8_init_18 rfl rfl ?_
  refine B_new X (ci := 8) rfl hin_X6 tyX6 tyX6_ok tw_120 tw_121 tw_87 df_X6 (m9 := 4) rfl dX8_init_19 ⟨by decide +kernel, by decide +kernel⟩ ?_
  refine B_dup X dX8_init_22 rfl ?_
  refine B_bipush X dX8_init_23 (by decide) ?_
  refine B_bipush X dX8_init_25 (by decide) ?_
  refine B_call X _ [vi 30, vi 20] _ 2 (c_X6 (h + 4) 30 20 600 (a := 30) (b := 20) (by decide +kernel) (by decide +kernel) (by decide +kernel) (Nat.le_of_ble_eq_true rfl)) tw_124 tw_87 tw_122 tw_123 rfl dX8_init_27 ⟨by decide +kernel, by decide +kernel, by decide +kernel⟩ ⟨Nat.le_of_ble_eq_true rfl, Nat.le_of_ble_eq_true rfl⟩ ⟨rfl, rfl⟩ rfl (Nat.le_of_ble_eq_true rfl) (m9 := 4) rfl ⟨by decide +kernel, by decide +kernel⟩ ?_
  refine B_putF X hI rfl hin_X8 1 (Nat.le_of_ble_eq_true rfl) tw_402 tyX8 tyX8_ok nmX8 rfl rfl (tyX8_ok 1 (Nat.le_of_ble_eq_true rfl)) rfl rfl (Nat.le_of_ble_eq_true rfl) (fs' := [.ref (h + 1), .ref (h + 4), vi 0, .null, .null, .null, .null, .null, .null, .null, .null, .null, vi 0, vi 0, vi 0, vi 0, vi 0, vi 0, vi 0]) rfl dX8_init_30 ?_
  refine B_aload_n X dX8_init_33 rfl rfl ?_
  refine B_new X (ci := 8) rfl hin_X6 tyX6 tyX6_ok tw_120 tw_121 tw_87 df_X6 (m9 := 7) rfl dX8_init_34 ⟨by decide +kernel, by decide +kernel⟩ ?_
  refine B_dup X dX8_init_37 rfl ?_
  refine B_bipush X dX8_init_38 (by decide) ?_
  refine B_bipush X dX8_init_40 (by decide) ?_
  refine B_call X _ [vi 26, vi 60] _ 2 (c_X6 (h + 7) 26 60 1560 (a := 26) (b := 60) (by decide +kernel) (by decide +kernel) (by decide +kernel) (Nat.le_of_ble_eq_true rfl)) tw_124 tw_87 tw_122 tw_123 rfl dX8_init_42 ⟨by decide +kernel, by decide +kernel, by decide +kernel⟩ ⟨Nat.le_of_ble_eq_true rfl, Nat.le_of_ble_eq_true rfl⟩ ⟨rfl, rfl⟩ rfl (Nat.le_of_ble_eq_true rfl) (m9 := 7) rfl ⟨by decide +kernel, by decide +kernel⟩ ?_
  refine B_putF X hI rfl hin_X8 3 (Nat.le_of_ble_eq_true rfl) tw_404 tyX8 tyX8_ok nmX8 rfl rfl (tyX8_ok 3 (Nat.le_of_ble_eq_true rfl)) rfl rfl (Nat.le_of_ble_eq_true rfl) (fs' := [.ref (h + 1), .ref (h + 4), vi 0, .ref (h + 7), .null, .null, .null, .null, .null, .null, .null, .null, vi 0, vi 0, vi 0, vi 0, vi 0, vi 0, vi 0]) rfl dX8_init_45 ?_
  refine B_aload_n X dX8_init_48 rfl rfl ?_
  refine B_new X (ci := 8) rfl hin_X6 tyX6 tyX6_ok tw_120 tw_121 tw_87 df_X6 (m9 := 10) rfl dX8_init_49 ⟨by decide +kernel, by decide +kernel⟩ ?_
  refine B_dup X dX8_init_52 rfl ?_
  refine B_bipush X dX8_init_53 (by decide) ?_
  refine B_bipush X dX8_init_55 (by decide) ?_
  refine B_call X _ [vi 26, vi 60] _ 2 (c_X6 (h + 10) 26 60 1560 (a := 26) (b := 60) (by decide +kernel) (by decide +kernel) (by decide +kernel) (Nat.le_of_ble_eq_true rfl)) tw_124 tw_87 tw_122 tw_123 rfl dX8_init_57 ⟨by decide +kernel, by decide +kernel, by decide +kernel⟩ ⟨Nat.le_of_ble_eq_true rfl, Nat.le_of_ble_eq_true rfl⟩ ⟨rfl, rfl⟩ rfl (Nat.le_of_ble_eq_true rfl) (m9 := 10) rfl ⟨by decide +kernel, by decide +kernel⟩ ?_
  refine B_putF X hI rfl hin_X8 4 (Nat.le_of_ble_eq_true rfl) tw_405 tyX8 tyX8_ok nmX8 rfl rfl (tyX8_ok 4 (Nat.le_of_ble_eq_true rfl)) rfl rfl (Nat.le_of_ble_eq_true rfl) (fs' := [.ref (h + 1), .ref (h + 4), vi 0, .ref (h + 7), .ref (h + 10), .null, .null, .null, .null, .null, .null, .null, vi 0, vi 0, vi 0, vi 0, vi 0, vi 0, vi 0]) rfl dX8_init_60 ?_
  refine B_aload_n X dX8_init_63 rfl rfl ?_
  refine B_new X (ci := 2) rfl hin_X0 tyX0 tyX0_ok tw_137 tw_138 tw_88 df_X0 (m9 := 13) rfl dX8_init_64 ⟨by decide +kernel, by decide +kernel⟩ ?_
  refine B_dup X dX8_init_67 rfl ?_
  refine B_bipush X dX8_init_68 (by decide) ?_
  refine B_call X _ [vi 50] _ 1 (c_X0 (h + 13) ) tw_141 tw_88 tw_139 tw_140 rfl dX8_init_70 ⟨by decide +kernel, by decide +kernel, by decide +kernel⟩ ⟨Nat.le_of_ble_eq_true rfl, Nat.le_of_ble_eq_true rfl⟩ ⟨rfl, rfl⟩ rfl (Nat.le_of_ble_eq_true rfl) (m9 := 13) rfl ⟨by decide +kernel, by decide +kernel⟩ ?_
  refine B_putF X hI rfl hin_X8 5 (Nat.le_of_ble_eq_true rfl) tw_406 tyX8 tyX8_ok nmX8 rfl rfl (tyX8_ok 5 (Nat.le_of_ble_eq_true rfl)) rfl rfl (Nat.le_of_ble_eq_true rfl) (fs' := [.ref (h + 1), .ref (h + 4), vi 0, .ref (h + 7), .ref (h + 10), .ref (h + 13), .null, .null, .null, .null, .null, .null, vi 0, vi 0, vi 0, vi 0, vi 0, vi 0, vi 0]) rfl dX8_init_73 ?_
  refine B_aload_n X dX8_init_76 rfl rfl ?_
  refine B_new X (ci := 2) rfl hin_X0 tyX0 tyX0_ok tw_137 tw_138 tw_88 df_X0 (m9 := 20) rfl dX8_init_77 ⟨by decide +kernel, by decide +kernel⟩ ?_
  refine B_dup X dX8_init_80 rfl ?_
  refine B_bipush X dX8_init_81 (by decide) ?_
  refine B_call X _ [vi 50] _ 1 (c_X0 (h + 20) ) tw_141 tw_88 tw_139 tw_140 rfl dX8_init_83 ⟨by decide +kernel, by decide +kernel, by decide +kernel⟩ ⟨Nat.le_of_ble_eq_true rfl, Nat.le_of_ble_eq_true rfl⟩ ⟨rfl, rfl⟩ rfl (Nat.le_of_ble_eq_true rfl) (m9 := 20) rfl ⟨by decide +kernel, by decide +kernel⟩ ?_
  refine B_putF X hI rfl hin_X8 6 (Nat.le_of_ble_eq_true rfl) tw_407 tyX8 tyX8_ok nmX8 rfl rfl (tyX8_ok 6 (Nat.le_of_ble_eq_true rfl)) rfl rfl (Nat.le_of_ble_eq_true rfl) (fs' := [.ref (h + 1), .ref (h + 4), vi 0, .ref (h + 7), .ref (h + 10), .ref (h + 13), .ref (h + 20), .null, .null, .null, .null, .null, vi 0, vi 0, vi 0, vi 0, vi 0, vi 0, vi 0]) rfl dX8_init_86 ?_
  refine B_aload_n X dX8_init_89 rfl rfl ?_
  refine B_new X (ci := 4) rfl hin_X2 tyX2 tyX2_ok tw_176 tw_177 tw_90 df_X2 (m9 := 27) rfl dX8_init_90 ⟨by decide +kernel, by decide +kernel⟩ ?_
  refine B_dup X dX8_init_93 rfl ?_
  refine B_aload_n X dX8_init_94 rfl rfl ?_
  refine B_getF X rfl rfl hin_X8 5 (Nat.le_of_ble_eq_true rfl) tw_406 rfl dX8_init_95 ?_
  refine B_aload_n X dX8_init_98 rfl rfl ?_
  refine B_getF X rfl rfl hin_X8 1 (Nat.le_of_ble_eq_true rfl) tw_402 rfl dX8_init_99 ?_
  refine B_aload_n X dX8_init_102 rfl rfl ?_
  refine B_getF X rfl rfl hin_X8 3 (Nat.le_of_ble_eq_true rfl) tw_404 rfl dX8_init_103 ?_
  refine B_call X _ [.ref (h + 13), .ref (h + 4), .ref (h + 7)] _ 3 (c_X2 (h + 27) (h + 13) (h + 4) (h + 7)) tw_180 tw_90 tw_178 tw_179 rfl dX8_init_106 ⟨by decide +kernel, by decide +kernel, by decide +kernel⟩ ⟨Nat.le_of_ble_eq_true rfl, Nat.le_of_ble_eq_true rfl⟩ ⟨rfl, rfl⟩ rfl (Nat.le_of_ble_eq_true rfl) (m9 := 27) rfl ⟨by decide +kernel, by decide +kernel⟩ ?_
  refine B_putF X hI rfl hin_X8 7 (Nat.le_of_ble_eq_true rfl) tw_408 tyX8 tyX8_ok nmX8 rfl rfl (tyX8_ok 7 (Nat.le_of_ble_eq_true rfl)) rfl rfl (Nat.le_of_ble_eq_true rfl) (fs' := [.ref (h + 1), .ref (h + 4), vi 0, .ref (h + 7), .ref (h + 10), .ref (h + 13), .ref (h + 20), .ref (h + 27), .null, .null, .null, .null, vi 0, vi 0, vi 0, vi 0, vi 0, vi 0, vi 0]) rfl dX8_init_109 ?_
  refine B_aload_n X dX8_init_112 rfl rfl ?_
  refine B_new X (ci := 7) rfl hin_X5 tyX5 tyX5_ok tw_258 tw_259 tw_92 df_X5 (m9 := 45) rfl dX8_init_113 ⟨by decide +kernel, by decide +kernel⟩ ?_
  refine B_dup X dX8_init_116 rfl ?_
  refine B_aload_n X dX8_init_117 rfl rfl ?_
  refine B_getF X rfl rfl hin_X8 6 (Nat.le_of_ble_eq_true rfl) tw_407 rfl dX8_init_118 ?_
  refine B_aload_n X dX8_init_121 rfl rfl ?_
  refine B_getF X rfl rfl hin_X8 1 (Nat.le_of_ble_eq_true rfl) tw_402 rfl dX8_init_122 ?_
  refine B_aload_n X dX8_init_125 rfl rfl ?_
  refine B_getF X rfl rfl hin_X8 3 (Nat.le_of_ble_eq_true rfl) tw_404 rfl dX8_init_126 ?_
  refine B_call X _ [.ref (h + 20), .ref (h + 4), .ref (h + 7)] _ 3 (c_X5 (h + 45) (h + 20) (h + 4) (h + 7)) tw_262 tw_92 tw_260 tw_261 rfl dX8_init_129 ⟨by decide +kernel, by decide +kernel, by decide +kernel⟩ ⟨Nat.le_of_ble_eq_true rfl, Nat.le_of_ble_eq_true rfl⟩ ⟨rfl, rfl⟩ rfl (Nat.le_of_ble_eq_true rfl) (m9 := 45) rfl ⟨by decide +kernel, by decide +kernel⟩ ?_
  refine B_putF X hI rfl hin_X8 8 (Nat.le_of_ble_eq_true rfl) tw_409 tyX8 tyX8_ok nmX8 rfl rfl (tyX8_ok 8 (Nat.le_of_ble_eq_true rfl)) rfl rfl (Nat.le_of_ble_eq_true rfl) (fs' := [.ref (h + 1), .ref (h + 4), vi 0, .ref (h + 7), .ref (h + 10), .ref (h + 13), .ref (h + 20), .ref (h + 27), .ref (h + 45), .null, .null, .null, vi 0, vi 0, vi 0, vi 0, vi 0, vi 0, vi 0]) rfl dX8_init_132 ?_
  refine B_aload_n X dX8_init_135 rfl rfl ?_
  refine B_new X (ci := 6) rfl hin_X4 tyX4 tyX4_ok tw_286 tw_287 tw_93 df_X4 (m9 := 51) rfl dX8_init_136 ⟨by decide +kernel, by decide +kernel⟩ ?_
  refine B_dup X dX8_init_139 rfl ?_
  refine B_callN X _ [] _ 0 (c_X4 (h + 51) ) tw_290 tw_93 nw_13 tw_289 rfl dX8_init_140 ⟨by decide +kernel, by decide +kernel, by decide +kernel⟩ ⟨Nat.le_of_ble_eq_true rfl, Nat.le_of_ble_eq_true rfl⟩ ⟨rfl, rfl⟩ rfl (Nat.le_of_ble_eq_true rfl) (m9 := 51) rfl ⟨by decide +kernel, by decide +kernel⟩ ?_
  refine B_putF X hI rfl hin_X8 9 (Nat.le_of_ble_eq_true rfl) tw_410 tyX8 tyX8_ok nmX8 rfl rfl (tyX8_ok 9 (Nat.le_of_ble_eq_true rfl)) rfl rfl (Nat.le_of_ble_eq_true rfl) (fs' := [.ref (h + 1), .ref (h + 4), vi 0, .ref (h + 7), .ref (h + 10), .ref (h + 13), .ref (h + 20), .ref (h + 27), .ref (h + 45), .ref (h + 51), .null, .null, vi 0, vi 0, vi 0, vi 0, vi 0, vi 0, vi 0]) rfl dX8_init_143 ?_
  refine B_aload_n X dX8_init_146 rfl rfl ?_
  refine B_new X (ci := 9) rfl hin_X7 tyX7 tyX7_ok tw_336 tw_337 tw_94 df_X7 (m9 := 70) rfl dX8_init_147 ⟨by decide +kernel, by decide +kernel⟩ ?_
  refine B_dup X dX8_init_150 rfl ?_
  refine B_aload_n X dX8_init_151 rfl rfl ?_
  refine B_getF X rfl rfl hin_X8 9 (Nat.le_of_ble_eq_true rfl) tw_410 rfl dX8_init_152 ?_
  refine B_aload_n X dX8_init_155 rfl rfl ?_
  refine B_getF X rfl rfl hin_X8 7 (Nat.le_of_ble_eq_true rfl) tw_408 rfl dX8_init_156 ?_
  refine B_aload_n X dX8_init_159 rfl rfl ?_
  refine B_getF X rfl rfl hin_X8 8 (Nat.le_of_ble_eq_true rfl) tw_409 rfl dX8_init_160 ?_
  refine B_aload_n X dX8_init_163 rfl rfl ?_
  refine B_getF X rfl rfl hin_X8 3 (Nat.le_of_ble_eq_true rfl) tw_404 rfl dX8_init_164 ?_
  refine B_call X _ [.ref (h + 51), .ref (h + 27), .ref (h + 45), .ref (h + 7)] _ 4 (c_X7 (h + 70) (h + 51) (h + 27) (h + 45) (h + 7)) tw_340 tw_94 tw_338 tw_339 rfl dX8_init_167 ⟨by decide +kernel, by decide +kernel, by decide +kernel⟩ ⟨Nat.le_of_ble_eq_true rfl, Nat.le_of_ble_eq_true rfl⟩ ⟨rfl, rfl⟩ rfl (Nat.le_of_ble_eq_true rfl) (m9 := 70) rfl ⟨by decide +kernel, by decide +kernel⟩ ?_
  refine B_putF X hI rfl hin_X8 10 (Nat.le_of_ble_eq_true rfl) tw_411 tyX8 tyX8_ok nmX8 rfl rfl (tyX8_ok 10 (Nat.le_of_ble_eq_true rfl)) rfl rfl (Nat.le_of_ble_eq_true rfl) (fs' := [.ref (h + 1), .ref (h + 4), vi 0, .ref (h + 7), .ref (h + 10), .ref (h + 13), .ref (h + 20), .ref (h + 27), .ref (h + 45), .ref (h + 51), .ref (h + 70), .null, vi 0, vi 0, vi 0, vi 0, vi 0, vi 0, vi 0]) rfl dX8_init_170 ?_
  refine B_aload_n X dX8_init_173 rfl rfl ?_
  refine B_new X (ci := 3) rfl hin_X1 tyX1 tyX1_ok tw_399 tw_144 tw_89 df_X1 (m9 := 83) rfl dX8_init_174 ⟨by decide +kernel, by decide +kernel⟩ ?_
  refine B_dup X dX8_init_177 rfl ?_
  refine B_sipush X dX8_init_178 (by decide) ?_
  refine B_call X _ [vi 200] _ 1 (c_X1 (h + 83) 200 (a := 200) (by decide +kernel) (Nat.le_of_ble_eq_true rfl)) tw_147 tw_89 tw_400 tw_146 rfl dX8_init_181 ⟨by decide +kernel, by decide +kernel, by decide +kernel⟩ ⟨Nat.le_of_ble_eq_true rfl, Nat.le_of_ble_eq_true rfl⟩ ⟨rfl, rfl⟩ rfl (Nat.le_of_ble_eq_true rfl) (m9 := 83) rfl ⟨by decide +kernel, by decide +kernel⟩ ?_
  refine B_putF X hI rfl hin_X8 11 (Nat.le_of_ble_eq_true rfl) tw_412 tyX8 tyX8_ok nmX8 rfl rfl (tyX8_ok 11 (Nat.le_of_ble_eq_true rfl)) rfl rfl (Nat.le_of_ble_eq_true rfl) (fs' := [.ref (h + 1), .ref (h + 4), vi 0, .ref (h + 7), .ref (h + 10), .ref (h + 13), .ref (h + 20), .ref (h + 27), .ref (h + 45), .ref (h + 51), .ref (h + 70), .ref (h + 83), vi 0, vi 0, vi 0, vi 0, vi 0, vi 0, vi 0]) rfl dX8_init_184 ?_
  exact B_ret X hE ⟨by decide +kernel, by decide +kernel⟩ dX8_init_187
