abbrev rmX9_goesBack : Room := { frames := 1, cells := 0, slots := 0, locals := 24 }
set_option maxRecDepth 20000 in
theorem m_X9_goesBack {G : GG}  {w : WS} {q : (Int × WS)}  (hf : f_X9_goesBack  w = some q) : MI G yX9_goesBack cX9_goesBack 6 (some .boolean) rmX9_goesBack [gr G 85] w q := by
  refine MI_of (by decide +kernel) (Nat.le_of_ble_eq_true rfl) (fun E X hE => ?_)
  have X : Cx G E cX9_goesBack RX9 (some .boolean) rmX9_goesBack 6 := X
  unfold f_X9_goesBack at hf
  refine V_gload_n X dX9_goesBack_0 rfl rfl ?_
  refine V_geti X ob_85 rfl rfl hin_X9 34 (Nat.le_of_ble_eq_true rfl) tw_1350 rfl dX9_goesBack_1 ?_
  refine V_if_eq X (tgt := 14) dX9_goesBack_4 (by decide) hf (fun hf => ?_) (fun hf => ?_)
  · refine V_iconst X dX9_goesBack_14 ?_
    exact V_zret X hE dX9_goesBack_15 (Or.inl rfl) hf
  · refine V_gload_n X dX9_goesBack_7 rfl rfl ?_
    refine V_geti X ob_85 rfl rfl hin_X9 41 (Nat.le_of_ble_eq_true rfl) tw_1357 rfl dX9_goesBack_8 ?_
    refine V_if_eq X (tgt := 16) dX9_goesBack_11 (by decide) hf (fun hf => ?_) (fun hf => ?_)
    · refine V_gload_n X dX9_goesBack_16 rfl rfl ?_
      refine V_dup X dX9_goesBack_17 rfl ?_
      refine V_geti X ob_85 rfl rfl hin_X9 34 (Nat.le_of_ble_eq_true rfl) tw_1350 rfl dX9_goesBack_18 ?_
      refine V_iconst X dX9_goesBack_21 ?_
      refine V_isub X dX9_goesBack_22 ?_
      refine V_puti X ob_85 rfl rfl hin_X9 34 (Nat.le_of_ble_eq_true rfl) tw_1350 tyX9 tyX9_ok nmX9 rfl (by decide +kernel) rfl dX9_goesBack_23 ?_
      refine V_gload_n X dX9_goesBack_26 rfl rfl ?_
      refine V_geti X ob_85 rfl rfl hin_X9 34 (Nat.le_of_ble_eq_true rfl) tw_1350 rfl dX9_goesBack_27 ?_
      refine V_istore_n X dX9_goesBack_30 rfl (by decide) ?_
      refine V_gload_n X dX9_goesBack_31 rfl rfl ?_
      refine V_getr X ob_85 rfl rfl hin_X9 28 (Nat.le_of_ble_eq_true rfl) tw_1344 rfl dX9_goesBack_32 ?_
      refine V_iload_n X dX9_goesBack_35 rfl rfl ?_
      refine V_iald X ar_105 dX9_goesBack_36 hf (fun hf => ?_)
      refine V_istore_n X dX9_goesBack_37 rfl (by decide) ?_
      refine V_gload_n X dX9_goesBack_38 rfl rfl ?_
      refine V_gload_n X dX9_goesBack_39 rfl rfl ?_
      refine V_getr X ob_85 rfl rfl hin_X9 29 (Nat.le_of_ble_eq_true rfl) tw_1345 rfl dX9_goesBack_40 ?_
      refine V_iload_n X dX9_goesBack_43 rfl rfl ?_
      refine V_iald X ar_106 dX9_goesBack_44 hf (fun hf => ?_)
      refine V_puti X ob_85 rfl rfl hin_X9 39 (Nat.le_of_ble_eq_true rfl) tw_1355 tyX9 tyX9_ok nmX9 rfl (by decide +kernel) rfl dX9_goesBack_45 ?_
      refine V_gload_n X dX9_goesBack_48 rfl rfl ?_
      refine V_gload_n X dX9_goesBack_49 rfl rfl ?_
      refine V_getr X ob_85 rfl rfl hin_X9 30 (Nat.le_of_ble_eq_true rfl) tw_1346 rfl dX9_goesBack_50 ?_
      refine V_iload_n X dX9_goesBack_53 rfl rfl ?_
      refine V_iald X ar_107 dX9_goesBack_54 hf (fun hf => ?_)
      refine V_puti X ob_85 rfl rfl hin_X9 40 (Nat.le_of_ble_eq_true rfl) tw_1356 tyX9 tyX9_ok nmX9 rfl (by decide +kernel) rfl dX9_goesBack_55 ?_
      refine V_gload_n X dX9_goesBack_58 rfl rfl ?_
      refine V_gload_n X dX9_goesBack_59 rfl rfl ?_
      refine V_getr X ob_85 rfl rfl hin_X9 32 (Nat.le_of_ble_eq_true rfl) tw_1348 rfl dX9_goesBack_60 ?_
      refine V_iload_n X dX9_goesBack_63 rfl rfl ?_
      refine V_iald X ar_109 dX9_goesBack_64 hf (fun hf => ?_)
      refine V_puti X ob_85 rfl rfl hin_X9 38 (Nat.le_of_ble_eq_true rfl) tw_1354 tyX9 tyX9_ok nmX9 rfl (by decide +kernel) rfl dX9_goesBack_65 ?_
      refine V_gload_n X dX9_goesBack_68 rfl rfl ?_
      refine V_gload_n X dX9_goesBack_69 rfl rfl ?_
      refine V_getr X ob_85 rfl rfl hin_X9 33 (Nat.le_of_ble_eq_true rfl) tw_1349 rfl dX9_goesBack_70 ?_
      refine V_iload_n X dX9_goesBack_73 rfl rfl ?_
      refine V_iald X ar_110 dX9_goesBack_74 hf (fun hf => ?_)
      refine V_puti X ob_85 rfl rfl hin_X9 27 (Nat.le_of_ble_eq_true rfl) tw_1343 tyX9 tyX9_ok nmX9 rfl (by decide +kernel) rfl dX9_goesBack_75 ?_
      refine V_gload_n X dX9_goesBack_78 rfl rfl ?_
      refine V_getr X ob_85 rfl rfl hin_X9 31 (Nat.le_of_ble_eq_true rfl) tw_1347 rfl dX9_goesBack_79 ?_
      refine V_iload_n X dX9_goesBack_82 rfl rfl ?_
      refine V_iald X ar_108 dX9_goesBack_83 hf (fun hf => ?_)
      refine V_istore_n X dX9_goesBack_84 rfl (by decide) ?_
      refine V_gload_n X dX9_goesBack_85 rfl rfl ?_
      refine V_getr X ob_85 rfl rfl hin_X9 8 (Nat.le_of_ble_eq_true rfl) tw_1324 rfl dX9_goesBack_86 ?_
      refine V_iload_n X dX9_goesBack_89 rfl rfl ?_
      refine V_cald X ar_91 dX9_goesBack_90 hf (fun hf => ?_)
      refine V_istore X dX9_goesBack_91 (by decide) ?_
      refine V_iload X dX9_goesBack_93 rfl ?_
      refine V_bipush X dX9_goesBack_95 (by decide) ?_
      refine V_icmp_ne X (tgt := 122) dX9_goesBack_97 (by decide) hf (fun hf => ?_) (fun hf => ?_)
      · refine V_gload_n X dX9_goesBack_100 rfl rfl ?_
        refine V_gload_n X dX9_goesBack_101 rfl rfl ?_
        refine V_iconst X dX9_goesBack_102 ?_
        refine V_gload_n X dX9_goesBack_103 rfl rfl ?_
        refine V_getr X ob_85 rfl rfl hin_X9 10 (Nat.le_of_ble_eq_true rfl) tw_1326 rfl dX9_goesBack_104 ?_
        refine V_iload_n X dX9_goesBack_107 rfl rfl ?_
        refine V_iald X ar_93 dX9_goesBack_108 hf (fun hf => ?_)
        refine V_iconst X dX9_goesBack_109 ?_
        refine V_gload_n X dX9_goesBack_110 rfl rfl ?_
        refine V_geti X ob_85 rfl rfl hin_X9 40 (Nat.le_of_ble_eq_true rfl) tw_1356 rfl dX9_goesBack_111 ?_
        refine V_cVI X hf [vi 0, vi ((up (up (up (up (up w 85 34 ((w 85 34) - 1)) 85 39 ((up w 85 34 ((w 85 34) - 1)) 106 (wr ((up w 85 34 ((w 85 34) - 1)) 85 34)).toNat)) 85 40 ((up (up w 85 34 ((w 85 34) - 1)) 85 39 ((up w 85 34 ((w 85 34) - 1)) 106 (wr ((up w 85 34 ((w 85 34) - 1)) 85 34)).toNat)) 107 (wr ((up w 85 34 ((w 85 34) - 1)) 85 34)).toNat)) 85 38 ((up (up (up w 85 34 ((w 85 34) - 1)) 85 39 ((up w 85 34 ((w 85 34) - 1)) 106 (wr ((up w 85 34 ((w 85 34) - 1)) 85 34)).toNat)) 85 40 ((up (up w 85 34 ((w 85 34) - 1)) 85 39 ((up w 85 34 ((w 85 34) - 1)) 106 (wr ((up w 85 34 ((w 85 34) - 1)) 85 34)).toNat)) 107 (wr ((up w 85 34 ((w 85 34) - 1)) 85 34)).toNat)) 109 (wr ((up w 85 34 ((w 85 34) - 1)) 85 34)).toNat)) 85 27 ((up (up (up (up w 85 34 ((w 85 34) - 1)) 85 39 ((up w 85 34 ((w 85 34) - 1)) 106 (wr ((up w 85 34 ((w 85 34) - 1)) 85 34)).toNat)) 85 40 ((up (up w 85 34 ((w 85 34) - 1)) 85 39 ((up w 85 34 ((w 85 34) - 1)) 106 (wr ((up w 85 34 ((w 85 34) - 1)) 85 34)).toNat)) 107 (wr ((up w 85 34 ((w 85 34) - 1)) 85 34)).toNat)) 85 38 ((up (up (up w 85 34 ((w 85 34) - 1)) 85 39 ((up w 85 34 ((w 85 34) - 1)) 106 (wr ((up w 85 34 ((w 85 34) - 1)) 85 34)).toNat)) 85 40 ((up (up w 85 34 ((w 85 34) - 1)) 85 39 ((up w 85 34 ((w 85 34) - 1)) 106 (wr ((up w 85 34 ((w 85 34) - 1)) 85 34)).toNat)) 107 (wr ((up w 85 34 ((w 85 34) - 1)) 85 34)).toNat)) 109 (wr ((up w 85 34 ((w 85 34) - 1)) 85 34)).toNat)) 110 (wr ((up w 85 34 ((w 85 34) - 1)) 85 34)).toNat)) 93 (wr ((up w 85 34 ((w 85 34) - 1)) 105 (wr ((up w 85 34 ((w 85 34) - 1)) 85 34)).toNat)).toNat), vi 0, vi ((up (up (up (up (up w 85 34 ((w 85 34) - 1)) 85 39 ((up w 85 34 ((w 85 34) - 1)) 106 (wr ((up w 85 34 ((w 85 34) - 1)) 85 34)).toNat)) 85 40 ((up (up w 85 34 ((w 85 34) - 1)) 85 39 ((up w 85 34 ((w 85 34) - 1)) 106 (wr ((up w 85 34 ((w 85 34) - 1)) 85 34)).toNat)) 107 (wr ((up w 85 34 ((w 85 34) - 1)) 85 34)).toNat)) 85 38 ((up (up (up w 85 34 ((w 85 34) - 1)) 85 39 ((up w 85 34 ((w 85 34) - 1)) 106 (wr ((up w 85 34 ((w 85 34) - 1)) 85 34)).toNat)) 85 40 ((up (up w 85 34 ((w 85 34) - 1)) 85 39 ((up w 85 34 ((w 85 34) - 1)) 106 (wr ((up w 85 34 ((w 85 34) - 1)) 85 34)).toNat)) 107 (wr ((up w 85 34 ((w 85 34) - 1)) 85 34)).toNat)) 109 (wr ((up w 85 34 ((w 85 34) - 1)) 85 34)).toNat)) 85 27 ((up (up (up (up w 85 34 ((w 85 34) - 1)) 85 39 ((up w 85 34 ((w 85 34) - 1)) 106 (wr ((up w 85 34 ((w 85 34) - 1)) 85 34)).toNat)) 85 40 ((up (up w 85 34 ((w 85 34) - 1)) 85 39 ((up w 85 34 ((w 85 34) - 1)) 106 (wr ((up w 85 34 ((w 85 34) - 1)) 85 34)).toNat)) 107 (wr ((up w 85 34 ((w 85 34) - 1)) 85 34)).toNat)) 85 38 ((up (up (up w 85 34 ((w 85 34) - 1)) 85 39 ((up w 85 34 ((w 85 34) - 1)) 106 (wr ((up w 85 34 ((w 85 34) - 1)) 85 34)).toNat)) 85 40 ((up (up w 85 34 ((w 85 34) - 1)) 85 39 ((up w 85 34 ((w 85 34) - 1)) 106 (wr ((up w 85 34 ((w 85 34) - 1)) 85 34)).toNat)) 107 (wr ((up w 85 34 ((w 85 34) - 1)) 85 34)).toNat)) 109 (wr ((up w 85 34 ((w 85 34) - 1)) 85 34)).toNat)) 110 (wr ((up w 85 34 ((w 85 34) - 1)) 85 34)).toNat)) 85 40)] _ 4 (fun _ h => m_X9_addGoal h) ob_85 rfl tw_1733 tw_95 tw_1730 tw_1732 tw_57 dX9_goesBack_114 ⟨by decide +kernel, by decide +kernel, by decide +kernel⟩ ⟨rfl, rfl⟩ ⟨Nat.le_of_ble_eq_true rfl, Nat.le_of_ble_eq_true rfl⟩ rfl (Nat.le_of_ble_eq_true rfl) ⟨Nat.zero_le _, Nat.zero_le _⟩ (fun r1 w1 hf => ?_)
        refine V_puti X ob_85 rfl rfl hin_X9 40 (Nat.le_of_ble_eq_true rfl) tw_1356 tyX9 tyX9_ok nmX9 rfl (by decide +kernel) rfl dX9_goesBack_117 ?_
        refine V_iconst X dX9_goesBack_120 ?_
        exact V_zret X hE dX9_goesBack_121 (Or.inr rfl) hf
      · refine V_iload X dX9_goesBack_122 rfl ?_
        refine V_bipush X dX9_goesBack_124 (by decide) ?_
        refine V_icmp_ne X (tgt := 179) dX9_goesBack_126 (by decide) hf (fun hf => ?_) (fun hf => ?_)
        · refine V_gload_n X dX9_goesBack_129 rfl rfl ?_
          refine V_geti X ob_85 rfl rfl hin_X9 39 (Nat.le_of_ble_eq_true rfl) tw_1355 rfl dX9_goesBack_130 ?_
          refine V_iload_n X dX9_goesBack_133 rfl rfl ?_
          refine V_iadd X dX9_goesBack_134 ?_
          refine V_iconst X dX9_goesBack_135 ?_
          refine V_iadd X dX9_goesBack_136 ?_
          refine V_gload_n X dX9_goesBack_137 rfl rfl ?_
          refine V_geti X ob_85 rfl rfl hin_X9 20 (Nat.le_of_ble_eq_true rfl) tw_1336 rfl dX9_goesBack_138 ?_
          refine V_icmp_le X (tgt := 149) dX9_goesBack_141 (by decide) hf (fun hf => ?_) (fun hf => ?_)
          · refine V_gload_n X dX9_goesBack_144 rfl rfl ?_
            refine V_cVI X hf [] _ 0 (fun _ h => m_X9_backAgain h) ob_85 rfl tw_1749 tw_95 tw_1746 tw_1748 tw_61 dX9_goesBack_145 ⟨by decide +kernel, by decide +kernel, by decide +kernel⟩ ⟨rfl, rfl⟩ ⟨Nat.le_of_ble_eq_true rfl, Nat.le_of_ble_eq_true rfl⟩ rfl (Nat.le_of_ble_eq_true rfl) ⟨Nat.zero_le _, Nat.zero_le _⟩ (fun r2 w2 hf => ?_)
            obtain ⟨hz, hf⟩ := ite_n hf
            exact V_zret X hE dX9_goesBack_148 hz hf
          · refine V_gload_n X dX9_goesBack_149 rfl rfl ?_
            refine V_iload_n X dX9_goesBack_150 rfl rfl ?_
            refine V_gload_n X dX9_goesBack_151 rfl rfl ?_
            refine V_geti X ob_85 rfl rfl hin_X9 39 (Nat.le_of_ble_eq_true rfl) tw_1355 rfl dX9_goesBack_152 ?_
            refine V_gload_n X dX9_goesBack_155 rfl rfl ?_
            refine V_geti X ob_85 rfl rfl hin_X9 40 (Nat.le_of_ble_eq_true rfl) tw_1356 rfl dX9_goesBack_156 ?_
            refine V_iload_n X dX9_goesBack_159 rfl rfl ?_
            refine V_iconst X dX9_goesBack_160 ?_
            refine V_iadd X dX9_goesBack_161 ?_
            refine V_cVV X hf [vi ((up w 85 34 ((w 85 34) - 1)) 105 (wr ((up w 85 34 ((w 85 34) - 1)) 85 34)).toNat), vi ((up (up (up (up (up w 85 34 ((w 85 34) - 1)) 85 39 ((up w 85 34 ((w 85 34) - 1)) 106 (wr ((up w 85 34 ((w 85 34) - 1)) 85 34)).toNat)) 85 40 ((up (up w 85 34 ((w 85 34) - 1)) 85 39 ((up w 85 34 ((w 85 34) - 1)) 106 (wr ((up w 85 34 ((w 85 34) - 1)) 85 34)).toNat)) 107 (wr ((up w 85 34 ((w 85 34) - 1)) 85 34)).toNat)) 85 38 ((up (up (up w 85 34 ((w 85 34) - 1)) 85 39 ((up w 85 34 ((w 85 34) - 1)) 106 (wr ((up w 85 34 ((w 85 34) - 1)) 85 34)).toNat)) 85 40 ((up (up w 85 34 ((w 85 34) - 1)) 85 39 ((up w 85 34 ((w 85 34) - 1)) 106 (wr ((up w 85 34 ((w 85 34) - 1)) 85 34)).toNat)) 107 (wr ((up w 85 34 ((w 85 34) - 1)) 85 34)).toNat)) 109 (wr ((up w 85 34 ((w 85 34) - 1)) 85 34)).toNat)) 85 27 ((up (up (up (up w 85 34 ((w 85 34) - 1)) 85 39 ((up w 85 34 ((w 85 34) - 1)) 106 (wr ((up w 85 34 ((w 85 34) - 1)) 85 34)).toNat)) 85 40 ((up (up w 85 34 ((w 85 34) - 1)) 85 39 ((up w 85 34 ((w 85 34) - 1)) 106 (wr ((up w 85 34 ((w 85 34) - 1)) 85 34)).toNat)) 107 (wr ((up w 85 34 ((w 85 34) - 1)) 85 34)).toNat)) 85 38 ((up (up (up w 85 34 ((w 85 34) - 1)) 85 39 ((up w 85 34 ((w 85 34) - 1)) 106 (wr ((up w 85 34 ((w 85 34) - 1)) 85 34)).toNat)) 85 40 ((up (up w 85 34 ((w 85 34) - 1)) 85 39 ((up w 85 34 ((w 85 34) - 1)) 106 (wr ((up w 85 34 ((w 85 34) - 1)) 85 34)).toNat)) 107 (wr ((up w 85 34 ((w 85 34) - 1)) 85 34)).toNat)) 109 (wr ((up w 85 34 ((w 85 34) - 1)) 85 34)).toNat)) 110 (wr ((up w 85 34 ((w 85 34) - 1)) 85 34)).toNat)) 85 39), vi ((up (up (up (up (up w 85 34 ((w 85 34) - 1)) 85 39 ((up w 85 34 ((w 85 34) - 1)) 106 (wr ((up w 85 34 ((w 85 34) - 1)) 85 34)).toNat)) 85 40 ((up (up w 85 34 ((w 85 34) - 1)) 85 39 ((up w 85 34 ((w 85 34) - 1)) 106 (wr ((up w 85 34 ((w 85 34) - 1)) 85 34)).toNat)) 107 (wr ((up w 85 34 ((w 85 34) - 1)) 85 34)).toNat)) 85 38 ((up (up (up w 85 34 ((w 85 34) - 1)) 85 39 ((up w 85 34 ((w 85 34) - 1)) 106 (wr ((up w 85 34 ((w 85 34) - 1)) 85 34)).toNat)) 85 40 ((up (up w 85 34 ((w 85 34) - 1)) 85 39 ((up w 85 34 ((w 85 34) - 1)) 106 (wr ((up w 85 34 ((w 85 34) - 1)) 85 34)).toNat)) 107 (wr ((up w 85 34 ((w 85 34) - 1)) 85 34)).toNat)) 109 (wr ((up w 85 34 ((w 85 34) - 1)) 85 34)).toNat)) 85 27 ((up (up (up (up w 85 34 ((w 85 34) - 1)) 85 39 ((up w 85 34 ((w 85 34) - 1)) 106 (wr ((up w 85 34 ((w 85 34) - 1)) 85 34)).toNat)) 85 40 ((up (up w 85 34 ((w 85 34) - 1)) 85 39 ((up w 85 34 ((w 85 34) - 1)) 106 (wr ((up w 85 34 ((w 85 34) - 1)) 85 34)).toNat)) 107 (wr ((up w 85 34 ((w 85 34) - 1)) 85 34)).toNat)) 85 38 ((up (up (up w 85 34 ((w 85 34) - 1)) 85 39 ((up w 85 34 ((w 85 34) - 1)) 106 (wr ((up w 85 34 ((w 85 34) - 1)) 85 34)).toNat)) 85 40 ((up (up w 85 34 ((w 85 34) - 1)) 85 39 ((up w 85 34 ((w 85 34) - 1)) 106 (wr ((up w 85 34 ((w 85 34) - 1)) 85 34)).toNat)) 107 (wr ((up w 85 34 ((w 85 34) - 1)) 85 34)).toNat)) 109 (wr ((up w 85 34 ((w 85 34) - 1)) 85 34)).toNat)) 110 (wr ((up w 85 34 ((w 85 34) - 1)) 85 34)).toNat)) 85 40), vi (((up (up (up (up (up w 85 34 ((w 85 34) - 1)) 85 39 ((up w 85 34 ((w 85 34) - 1)) 106 (wr ((up w 85 34 ((w 85 34) - 1)) 85 34)).toNat)) 85 40 ((up (up w 85 34 ((w 85 34) - 1)) 85 39 ((up w 85 34 ((w 85 34) - 1)) 106 (wr ((up w 85 34 ((w 85 34) - 1)) 85 34)).toNat)) 107 (wr ((up w 85 34 ((w 85 34) - 1)) 85 34)).toNat)) 85 38 ((up (up (up w 85 34 ((w 85 34) - 1)) 85 39 ((up w 85 34 ((w 85 34) - 1)) 106 (wr ((up w 85 34 ((w 85 34) - 1)) 85 34)).toNat)) 85 40 ((up (up w 85 34 ((w 85 34) - 1)) 85 39 ((up w 85 34 ((w 85 34) - 1)) 106 (wr ((up w 85 34 ((w 85 34) - 1)) 85 34)).toNat)) 107 (wr ((up w 85 34 ((w 85 34) - 1)) 85 34)).toNat)) 109 (wr ((up w 85 34 ((w 85 34) - 1)) 85 34)).toNat)) 85 27 ((up (up (up (up w 85 34 ((w 85 34) - 1)) 85 39 ((up w 85 34 ((w 85 34) - 1)) 106 (wr ((up w 85 34 ((w 85 34) - 1)) 85 34)).toNat)) 85 40 ((up (up w 85 34 ((w 85 34) - 1)) 85 39 ((up w 85 34 ((w 85 34) - 1)) 106 (wr ((up w 85 34 ((w 85 34) - 1)) 85 34)).toNat)) 107 (wr ((up w 85 34 ((w 85 34) - 1)) 85 34)).toNat)) 85 38 ((up (up (up w 85 34 ((w 85 34) - 1)) 85 39 ((up w 85 34 ((w 85 34) - 1)) 106 (wr ((up w 85 34 ((w 85 34) - 1)) 85 34)).toNat)) 85 40 ((up (up w 85 34 ((w 85 34) - 1)) 85 39 ((up w 85 34 ((w 85 34) - 1)) 106 (wr ((up w 85 34 ((w 85 34) - 1)) 85 34)).toNat)) 107 (wr ((up w 85 34 ((w 85 34) - 1)) 85 34)).toNat)) 109 (wr ((up w 85 34 ((w 85 34) - 1)) 85 34)).toNat)) 110 (wr ((up w 85 34 ((w 85 34) - 1)) 85 34)).toNat)) 108 (wr ((up w 85 34 ((w 85 34) - 1)) 85 34)).toNat) + 1)] _ 4 (fun _ h => m_X9_addChoice h) ob_85 rfl tw_1753 tw_95 tw_1750 tw_1752 tw_62 dX9_goesBack_162 ⟨by decide +kernel, by decide +kernel, by decide +kernel⟩ ⟨rfl, rfl⟩ ⟨Nat.le_of_ble_eq_true rfl, Nat.le_of_ble_eq_true rfl⟩ rfl (Nat.le_of_ble_eq_true rfl) ⟨Nat.zero_le _, Nat.zero_le _⟩ (fun r3 w3 hf => ?_)
            refine V_gload_n X dX9_goesBack_165 rfl rfl ?_
            refine V_dup X dX9_goesBack_166 rfl ?_
            refine V_geti X ob_85 rfl rfl hin_X9 39 (Nat.le_of_ble_eq_true rfl) tw_1355 rfl dX9_goesBack_167 ?_
            refine V_iload_n X dX9_goesBack_170 rfl rfl ?_
            refine V_iconst X dX9_goesBack_171 ?_
            refine V_iadd X dX9_goesBack_172 ?_
            refine V_iadd X dX9_goesBack_173 ?_
            refine V_puti X ob_85 rfl rfl hin_X9 39 (Nat.le_of_ble_eq_true rfl) tw_1355 tyX9 tyX9_ok nmX9 rfl (by decide +kernel) rfl dX9_goesBack_174 ?_
            refine V_iconst X dX9_goesBack_177 ?_
            exact V_zret X hE dX9_goesBack_178 (Or.inr rfl) hf
        · refine V_iload X dX9_goesBack_179 rfl ?_
          refine V_bipush X dX9_goesBack_181 (by decide) ?_
          refine V_icmp_ne X (tgt := 222) dX9_goesBack_183 (by decide) hf (fun hf => ?_) (fun hf => ?_)
          · refine V_gload_n X dX9_goesBack_186 rfl rfl ?_
            refine V_iconst X dX9_goesBack_187 ?_
            refine V_iload_n X dX9_goesBack_188 rfl rfl ?_
            refine V_gload_n X dX9_goesBack_189 rfl rfl ?_
            refine V_geti X ob_85 rfl rfl hin_X9 39 (Nat.le_of_ble_eq_true rfl) tw_1355 rfl dX9_goesBack_190 ?_
            refine V_gload_n X dX9_goesBack_193 rfl rfl ?_
            refine V_geti X ob_85 rfl rfl hin_X9 40 (Nat.le_of_ble_eq_true rfl) tw_1356 rfl dX9_goesBack_194 ?_
            refine V_cVI X hf [vi 3, vi ((up w 85 34 ((w 85 34) - 1)) 105 (wr ((up w 85 34 ((w 85 34) - 1)) 85 34)).toNat), vi ((up (up (up (up (up w 85 34 ((w 85 34) - 1)) 85 39 ((up w 85 34 ((w 85 34) - 1)) 106 (wr ((up w 85 34 ((w 85 34) - 1)) 85 34)).toNat)) 85 40 ((up (up w 85 34 ((w 85 34) - 1)) 85 39 ((up w 85 34 ((w 85 34) - 1)) 106 (wr ((up w 85 34 ((w 85 34) - 1)) 85 34)).toNat)) 107 (wr ((up w 85 34 ((w 85 34) - 1)) 85 34)).toNat)) 85 38 ((up (up (up w 85 34 ((w 85 34) - 1)) 85 39 ((up w 85 34 ((w 85 34) - 1)) 106 (wr ((up w 85 34 ((w 85 34) - 1)) 85 34)).toNat)) 85 40 ((up (up w 85 34 ((w 85 34) - 1)) 85 39 ((up w 85 34 ((w 85 34) - 1)) 106 (wr ((up w 85 34 ((w 85 34) - 1)) 85 34)).toNat)) 107 (wr ((up w 85 34 ((w 85 34) - 1)) 85 34)).toNat)) 109 (wr ((up w 85 34 ((w 85 34) - 1)) 85 34)).toNat)) 85 27 ((up (up (up (up w 85 34 ((w 85 34) - 1)) 85 39 ((up w 85 34 ((w 85 34) - 1)) 106 (wr ((up w 85 34 ((w 85 34) - 1)) 85 34)).toNat)) 85 40 ((up (up w 85 34 ((w 85 34) - 1)) 85 39 ((up w 85 34 ((w 85 34) - 1)) 106 (wr ((up w 85 34 ((w 85 34) - 1)) 85 34)).toNat)) 107 (wr ((up w 85 34 ((w 85 34) - 1)) 85 34)).toNat)) 85 38 ((up (up (up w 85 34 ((w 85 34) - 1)) 85 39 ((up w 85 34 ((w 85 34) - 1)) 106 (wr ((up w 85 34 ((w 85 34) - 1)) 85 34)).toNat)) 85 40 ((up (up w 85 34 ((w 85 34) - 1)) 85 39 ((up w 85 34 ((w 85 34) - 1)) 106 (wr ((up w 85 34 ((w 85 34) - 1)) 85 34)).toNat)) 107 (wr ((up w 85 34 ((w 85 34) - 1)) 85 34)).toNat)) 109 (wr ((up w 85 34 ((w 85 34) - 1)) 85 34)).toNat)) 110 (wr ((up w 85 34 ((w 85 34) - 1)) 85 34)).toNat)) 85 39), vi ((up (up (up (up (up w 85 34 ((w 85 34) - 1)) 85 39 ((up w 85 34 ((w 85 34) - 1)) 106 (wr ((up w 85 34 ((w 85 34) - 1)) 85 34)).toNat)) 85 40 ((up (up w 85 34 ((w 85 34) - 1)) 85 39 ((up w 85 34 ((w 85 34) - 1)) 106 (wr ((up w 85 34 ((w 85 34) - 1)) 85 34)).toNat)) 107 (wr ((up w 85 34 ((w 85 34) - 1)) 85 34)).toNat)) 85 38 ((up (up (up w 85 34 ((w 85 34) - 1)) 85 39 ((up w 85 34 ((w 85 34) - 1)) 106 (wr ((up w 85 34 ((w 85 34) - 1)) 85 34)).toNat)) 85 40 ((up (up w 85 34 ((w 85 34) - 1)) 85 39 ((up w 85 34 ((w 85 34) - 1)) 106 (wr ((up w 85 34 ((w 85 34) - 1)) 85 34)).toNat)) 107 (wr ((up w 85 34 ((w 85 34) - 1)) 85 34)).toNat)) 109 (wr ((up w 85 34 ((w 85 34) - 1)) 85 34)).toNat)) 85 27 ((up (up (up (up w 85 34 ((w 85 34) - 1)) 85 39 ((up w 85 34 ((w 85 34) - 1)) 106 (wr ((up w 85 34 ((w 85 34) - 1)) 85 34)).toNat)) 85 40 ((up (up w 85 34 ((w 85 34) - 1)) 85 39 ((up w 85 34 ((w 85 34) - 1)) 106 (wr ((up w 85 34 ((w 85 34) - 1)) 85 34)).toNat)) 107 (wr ((up w 85 34 ((w 85 34) - 1)) 85 34)).toNat)) 85 38 ((up (up (up w 85 34 ((w 85 34) - 1)) 85 39 ((up w 85 34 ((w 85 34) - 1)) 106 (wr ((up w 85 34 ((w 85 34) - 1)) 85 34)).toNat)) 85 40 ((up (up w 85 34 ((w 85 34) - 1)) 85 39 ((up w 85 34 ((w 85 34) - 1)) 106 (wr ((up w 85 34 ((w 85 34) - 1)) 85 34)).toNat)) 107 (wr ((up w 85 34 ((w 85 34) - 1)) 85 34)).toNat)) 109 (wr ((up w 85 34 ((w 85 34) - 1)) 85 34)).toNat)) 110 (wr ((up w 85 34 ((w 85 34) - 1)) 85 34)).toNat)) 85 40)] _ 4 (fun _ h => m_X9_addGoal h) ob_85 rfl tw_1733 tw_95 tw_1730 tw_1732 tw_57 dX9_goesBack_197 ⟨by decide +kernel, by decide +kernel, by decide +kernel⟩ ⟨rfl, rfl⟩ ⟨Nat.le_of_ble_eq_true rfl, Nat.le_of_ble_eq_true rfl⟩ rfl (Nat.le_of_ble_eq_true rfl) ⟨Nat.zero_le _, Nat.zero_le _⟩ (fun r4 w4 hf => ?_)
            refine V_istore X dX9_goesBack_200 (by decide) ?_
            refine V_gload_n X dX9_goesBack_202 rfl rfl ?_
            refine V_gload_n X dX9_goesBack_203 rfl rfl ?_
            refine V_iconst X dX9_goesBack_204 ?_
            refine V_gload_n X dX9_goesBack_205 rfl rfl ?_
            refine V_getr X ob_85 rfl rfl hin_X9 9 (Nat.le_of_ble_eq_true rfl) tw_1325 rfl dX9_goesBack_206 ?_
            refine V_iload_n X dX9_goesBack_209 rfl rfl ?_
            refine V_iald X ar_92 dX9_goesBack_210 hf (fun hf => ?_)
            refine V_iconst X dX9_goesBack_211 ?_
            refine V_iload X dX9_goesBack_212 rfl ?_
            refine V_cVI X hf [vi 0, vi (w4 92 (wr ((up w 85 34 ((w 85 34) - 1)) 105 (wr ((up w 85 34 ((w 85 34) - 1)) 85 34)).toNat)).toNat), vi 0, vi r4] _ 4 (fun _ h => m_X9_addGoal h) ob_85 rfl tw_1733 tw_95 tw_1730 tw_1732 tw_57 dX9_goesBack_214 ⟨by decide +kernel, by decide +kernel, by decide +kernel⟩ ⟨rfl, rfl⟩ ⟨Nat.le_of_ble_eq_true rfl, Nat.le_of_ble_eq_true rfl⟩ rfl (Nat.le_of_ble_eq_true rfl) ⟨Nat.zero_le _, Nat.zero_le _⟩ (fun r5 w5 hf => ?_)
            refine V_puti X ob_85 rfl rfl hin_X9 40 (Nat.le_of_ble_eq_true rfl) tw_1356 tyX9 tyX9_ok nmX9 rfl (by decide +kernel) rfl dX9_goesBack_217 ?_
            refine V_iconst X dX9_goesBack_220 ?_
            exact V_zret X hE dX9_goesBack_221 (Or.inr rfl) hf
          · refine V_iload X dX9_goesBack_222 rfl ?_
            refine V_bipush X dX9_goesBack_224 (by decide) ?_
            refine V_icmp_ne X (tgt := 279) dX9_goesBack_226 (by decide) hf (fun hf => ?_) (fun hf => ?_)
            · refine V_gload_n X dX9_goesBack_229 rfl rfl ?_
              refine V_gload_n X dX9_goesBack_230 rfl rfl ?_
              refine V_geti X ob_85 rfl rfl hin_X9 39 (Nat.le_of_ble_eq_true rfl) tw_1355 rfl dX9_goesBack_231 ?_
              refine V_iload_n X dX9_goesBack_234 rfl rfl ?_
              refine V_cVI X hf [vi ((up (up (up (up (up w 85 34 ((w 85 34) - 1)) 85 39 ((up w 85 34 ((w 85 34) - 1)) 106 (wr ((up w 85 34 ((w 85 34) - 1)) 85 34)).toNat)) 85 40 ((up (up w 85 34 ((w 85 34) - 1)) 85 39 ((up w 85 34 ((w 85 34) - 1)) 106 (wr ((up w 85 34 ((w 85 34) - 1)) 85 34)).toNat)) 107 (wr ((up w 85 34 ((w 85 34) - 1)) 85 34)).toNat)) 85 38 ((up (up (up w 85 34 ((w 85 34) - 1)) 85 39 ((up w 85 34 ((w 85 34) - 1)) 106 (wr ((up w 85 34 ((w 85 34) - 1)) 85 34)).toNat)) 85 40 ((up (up w 85 34 ((w 85 34) - 1)) 85 39 ((up w 85 34 ((w 85 34) - 1)) 106 (wr ((up w 85 34 ((w 85 34) - 1)) 85 34)).toNat)) 107 (wr ((up w 85 34 ((w 85 34) - 1)) 85 34)).toNat)) 109 (wr ((up w 85 34 ((w 85 34) - 1)) 85 34)).toNat)) 85 27 ((up (up (up (up w 85 34 ((w 85 34) - 1)) 85 39 ((up w 85 34 ((w 85 34) - 1)) 106 (wr ((up w 85 34 ((w 85 34) - 1)) 85 34)).toNat)) 85 40 ((up (up w 85 34 ((w 85 34) - 1)) 85 39 ((up w 85 34 ((w 85 34) - 1)) 106 (wr ((up w 85 34 ((w 85 34) - 1)) 85 34)).toNat)) 107 (wr ((up w 85 34 ((w 85 34) - 1)) 85 34)).toNat)) 85 38 ((up (up (up w 85 34 ((w 85 34) - 1)) 85 39 ((up w 85 34 ((w 85 34) - 1)) 106 (wr ((up w 85 34 ((w 85 34) - 1)) 85 34)).toNat)) 85 40 ((up (up w 85 34 ((w 85 34) - 1)) 85 39 ((up w 85 34 ((w 85 34) - 1)) 106 (wr ((up w 85 34 ((w 85 34) - 1)) 85 34)).toNat)) 107 (wr ((up w 85 34 ((w 85 34) - 1)) 85 34)).toNat)) 109 (wr ((up w 85 34 ((w 85 34) - 1)) 85 34)).toNat)) 110 (wr ((up w 85 34 ((w 85 34) - 1)) 85 34)).toNat)) 85 39), vi ((up (up (up (up (up w 85 34 ((w 85 34) - 1)) 85 39 ((up w 85 34 ((w 85 34) - 1)) 106 (wr ((up w 85 34 ((w 85 34) - 1)) 85 34)).toNat)) 85 40 ((up (up w 85 34 ((w 85 34) - 1)) 85 39 ((up w 85 34 ((w 85 34) - 1)) 106 (wr ((up w 85 34 ((w 85 34) - 1)) 85 34)).toNat)) 107 (wr ((up w 85 34 ((w 85 34) - 1)) 85 34)).toNat)) 85 38 ((up (up (up w 85 34 ((w 85 34) - 1)) 85 39 ((up w 85 34 ((w 85 34) - 1)) 106 (wr ((up w 85 34 ((w 85 34) - 1)) 85 34)).toNat)) 85 40 ((up (up w 85 34 ((w 85 34) - 1)) 85 39 ((up w 85 34 ((w 85 34) - 1)) 106 (wr ((up w 85 34 ((w 85 34) - 1)) 85 34)).toNat)) 107 (wr ((up w 85 34 ((w 85 34) - 1)) 85 34)).toNat)) 109 (wr ((up w 85 34 ((w 85 34) - 1)) 85 34)).toNat)) 85 27 ((up (up (up (up w 85 34 ((w 85 34) - 1)) 85 39 ((up w 85 34 ((w 85 34) - 1)) 106 (wr ((up w 85 34 ((w 85 34) - 1)) 85 34)).toNat)) 85 40 ((up (up w 85 34 ((w 85 34) - 1)) 85 39 ((up w 85 34 ((w 85 34) - 1)) 106 (wr ((up w 85 34 ((w 85 34) - 1)) 85 34)).toNat)) 107 (wr ((up w 85 34 ((w 85 34) - 1)) 85 34)).toNat)) 85 38 ((up (up (up w 85 34 ((w 85 34) - 1)) 85 39 ((up w 85 34 ((w 85 34) - 1)) 106 (wr ((up w 85 34 ((w 85 34) - 1)) 85 34)).toNat)) 85 40 ((up (up w 85 34 ((w 85 34) - 1)) 85 39 ((up w 85 34 ((w 85 34) - 1)) 106 (wr ((up w 85 34 ((w 85 34) - 1)) 85 34)).toNat)) 107 (wr ((up w 85 34 ((w 85 34) - 1)) 85 34)).toNat)) 109 (wr ((up w 85 34 ((w 85 34) - 1)) 85 34)).toNat)) 110 (wr ((up w 85 34 ((w 85 34) - 1)) 85 34)).toNat)) 108 (wr ((up w 85 34 ((w 85 34) - 1)) 85 34)).toNat)] _ 2 (fun _ h => m_X9_balanced h) ob_85 rfl tw_1757 tw_95 tw_1754 tw_1756 tw_63 dX9_goesBack_235 ⟨by decide +kernel, by decide +kernel, by decide +kernel⟩ ⟨rfl, rfl⟩ ⟨Nat.le_of_ble_eq_true rfl, Nat.le_of_ble_eq_true rfl⟩ rfl (Nat.le_of_ble_eq_true rfl) ⟨Nat.zero_le _, Nat.zero_le _⟩ (fun r6 w6 hf => ?_)
              refine V_istore X dX9_goesBack_238 (by decide) ?_
              refine V_iload X dX9_goesBack_240 rfl ?_
              refine V_iconst X dX9_goesBack_242 ?_
              refine V_icmp_ne X (tgt := 251) dX9_goesBack_243 (by decide) hf (fun hf => ?_) (fun hf => ?_)
              · refine V_gload_n X dX9_goesBack_246 rfl rfl ?_
                refine V_cVI X hf [] _ 0 (fun _ h => m_X9_backAgain h) ob_85 rfl tw_1749 tw_95 tw_1746 tw_1748 tw_61 dX9_goesBack_247 ⟨by decide +kernel, by decide +kernel, by decide +kernel⟩ ⟨rfl, rfl⟩ ⟨Nat.le_of_ble_eq_true rfl, Nat.le_of_ble_eq_true rfl⟩ rfl (Nat.le_of_ble_eq_true rfl) ⟨Nat.zero_le _, Nat.zero_le _⟩ (fun r7 w7 hf => ?_)
                obtain ⟨hz, hf⟩ := ite_n hf
                exact V_zret X hE dX9_goesBack_250 hz hf
              · refine V_gload_n X dX9_goesBack_251 rfl rfl ?_
                refine V_iload_n X dX9_goesBack_252 rfl rfl ?_
                refine V_gload_n X dX9_goesBack_253 rfl rfl ?_
                refine V_geti X ob_85 rfl rfl hin_X9 39 (Nat.le_of_ble_eq_true rfl) tw_1355 rfl dX9_goesBack_254 ?_
                refine V_gload_n X dX9_goesBack_257 rfl rfl ?_
                refine V_geti X ob_85 rfl rfl hin_X9 40 (Nat.le_of_ble_eq_true rfl) tw_1356 rfl dX9_goesBack_258 ?_
                refine V_iload X dX9_goesBack_261 rfl ?_
                refine V_gload_n X dX9_goesBack_263 rfl rfl ?_
                refine V_geti X ob_85 rfl rfl hin_X9 39 (Nat.le_of_ble_eq_true rfl) tw_1355 rfl dX9_goesBack_264 ?_
                refine V_isub X dX9_goesBack_267 ?_
                refine V_cVV X hf [vi ((up w 85 34 ((w 85 34) - 1)) 105 (wr ((up w 85 34 ((w 85 34) - 1)) 85 34)).toNat), vi (w6 85 39), vi (w6 85 40), vi (r6 - (w6 85 39))] _ 4 (fun _ h => m_X9_addChoice h) ob_85 rfl tw_1753 tw_95 tw_1750 tw_1752 tw_62 dX9_goesBack_268 ⟨by decide +kernel, by decide +kernel, by decide +kernel⟩ ⟨rfl, rfl⟩ ⟨Nat.le_of_ble_eq_true rfl, Nat.le_of_ble_eq_true rfl⟩ rfl (Nat.le_of_ble_eq_true rfl) ⟨Nat.zero_le _, Nat.zero_le _⟩ (fun r8 w8 hf => ?_)
                refine V_gload_n X dX9_goesBack_271 rfl rfl ?_
                refine V_iload X dX9_goesBack_272 rfl ?_
                refine V_puti X ob_85 rfl rfl hin_X9 39 (Nat.le_of_ble_eq_true rfl) tw_1355 tyX9 tyX9_ok nmX9 rfl (by decide +kernel) rfl dX9_goesBack_274 ?_
                refine V_iconst X dX9_goesBack_277 ?_
                exact V_zret X hE dX9_goesBack_278 (Or.inr rfl) hf
            · refine V_gload_n X dX9_goesBack_279 rfl rfl ?_
              refine V_iconst X dX9_goesBack_280 ?_
              refine V_putz X ob_85 rfl rfl hin_X9 41 (Nat.le_of_ble_eq_true rfl) tw_1357 tyX9 tyX9_ok nmX9 rfl (by decide +kernel) (Or.inr rfl) rfl dX9_goesBack_281 ?_
              refine V_iconst X dX9_goesBack_284 ?_
              exact V_zret X hE dX9_goesBack_285 (Or.inl rfl) hf
    · refine V_iconst X dX9_goesBack_14 ?_
      exact V_zret X hE dX9_goesBack_15 (Or.inl rfl) hf
abbrev rmX9_back : Room := { frames := 2, cells := 0, slots := 0, locals := 49 }
set_option maxRecDepth 20000 in
theorem v_X9_back_7 {G : GG} {E : EE} (X : Cx G E cX9_back RX9 (some .boolean) rmX9_back 2) {q : (Int × WS)} (hE : EndI G E q)   : ∀ (n : Nat) (a1 : Int) (w : WS), f_X9_back_7   n a1 w = some q → VV G E 0 0 7 [(0, gr G 85), (1, vi a1)] [] w := by
  intro n
  induction n with
  | zero => intro a1 w hf; cases hf
  | succ n ih =>
    intro a1 w hf
    rw [f_X9_back_7_s] at hf
    refine V_gload_n X dX9_back_7 rfl rfl ?_
    refine V_geti X ob_85 rfl rfl hin_X9 44 (Nat.le_of_ble_eq_true rfl) tw_1360 rfl dX9_back_8 ?_
    refine V_if_eq X (tgt := 31) dX9_back_11 (by decide) hf (fun hf => ?_) (fun hf => ?_)
    · refine V_iload_n X dX9_back_31 rfl rfl ?_
      obtain ⟨hz, hf⟩ := ite_n hf
      exact V_zret X hE dX9_back_32 hz hf
    · refine V_iload_n X dX9_back_14 rfl rfl ?_
      refine V_if_ne X (tgt := 31) dX9_back_15 (by decide) hf (fun hf => ?_) (fun hf => ?_)
      · refine V_gload_n X dX9_back_18 rfl rfl ?_
        refine V_iconst X dX9_back_19 ?_
        refine V_putz X ob_85 rfl rfl hin_X9 44 (Nat.le_of_ble_eq_true rfl) tw_1360 tyX9 tyX9_ok nmX9 rfl (by decide +kernel) (Or.inl rfl) rfl dX9_back_20 ?_
        refine V_gload_n X dX9_back_23 rfl rfl ?_
        refine V_cVI X hf [] _ 0 (fun _ h => m_X9_goesBack h) ob_85 rfl tw_1745 tw_95 tw_1742 tw_1744 tw_60 dX9_back_24 ⟨by decide +kernel, by decide +kernel, by decide +kernel⟩ ⟨rfl, rfl⟩ ⟨Nat.le_of_ble_eq_true rfl, Nat.le_of_ble_eq_true rfl⟩ rfl (Nat.le_of_ble_eq_true rfl) ⟨Nat.zero_le _, Nat.zero_le _⟩ (fun r1 w1 hf => ?_)
        refine V_istore_n X dX9_back_27 rfl (by decide) ?_
        refine V_goto X (tgt := 7) dX9_back_28 (by decide) ?_
        exact V_cut [0, 1] rfl (ih _ _ hf)
      · refine V_iload_n X dX9_back_31 rfl rfl ?_
        obtain ⟨hz, hf⟩ := ite_n hf
        exact V_zret X hE dX9_back_32 hz hf
set_option maxRecDepth 20000 in
theorem m_X9_back {G : GG}  {w : WS} {q : (Int × WS)}  (hf : f_X9_back  w = some q) : MI G yX9_back cX9_back 2 (some .boolean) rmX9_back [gr G 85] w q := by
  refine MI_of (by decide +kernel) (Nat.le_of_ble_eq_true rfl) (fun E X hE => ?_)
  have X : Cx G E cX9_back RX9 (some .boolean) rmX9_back 2 := X
  unfold f_X9_back at hf
  refine V_iconst X dX9_back_0 ?_
  refine V_istore_n X dX9_back_1 rfl (by decide) ?_
  refine V_gload_n X dX9_back_2 rfl rfl ?_
  refine V_iconst X dX9_back_3 ?_
  refine V_putz X ob_85 rfl rfl hin_X9 44 (Nat.le_of_ble_eq_true rfl) tw_1360 tyX9 tyX9_ok nmX9 rfl (by decide +kernel) (Or.inr rfl) rfl dX9_back_4 ?_
  exact V_cut [0, 1] rfl (v_X9_back_7 X hE FU _ _ hf)
abbrev rmX9_begin : Room := { frames := 2, cells := 0, slots := 0, locals := 48 }
set_option maxRecDepth 20000 in
theorem v_X9_begin_397 {G : GG} {E : EE} (X : Cx G E cX9_begin RX9 (some .boolean) rmX9_begin 8) {q : (Int × WS)} (hE : EndI G E q)   {a7 s0 s1 : Int} {w : WS} (hf : f_X9_begin_397   a7 s0 s1 w = some q) : VV G E 0 0 397 [(7, vi a7)] [vi s0, vi s1, gr G 85] w := by
  unfold f_X9_begin_397 at hf
  refine V_iadd X dX9_begin_397 ?_
  refine V_puti X ob_85 rfl rfl hin_X9 39 (Nat.le_of_ble_eq_true rfl) tw_1355 tyX9 tyX9_ok nmX9 rfl (by decide +kernel) rfl dX9_begin_398 ?_
  refine V_iload X dX9_begin_401 rfl ?_
  refine V_iconst X dX9_begin_403 ?_
  refine V_icmp_eq X (tgt := 411) dX9_begin_404 (by decide) hf (fun hf => ?_) (fun hf => ?_)
  · refine V_iconst X dX9_begin_411 ?_
    exact V_zret X hE dX9_begin_412 (Or.inl rfl) hf
  · refine V_iconst X dX9_begin_407 ?_
    refine V_goto X (tgt := 412) dX9_begin_408 (by decide) ?_
    exact V_zret X hE dX9_begin_412 (Or.inr rfl) hf
set_option maxRecDepth 20000 in
theorem m_X9_begin {G : GG} {a1 : Int} {a2 : Int} {w : WS} {q : (Int × WS)}  (hf : f_X9_begin a1 a2 w = some q) : MI G yX9_begin cX9_begin 8 (some .boolean) rmX9_begin [gr G 85, vi a1, vi a2] w q := by
  refine MI_of (by decide +kernel) (Nat.le_of_ble_eq_true rfl) (fun E X hE => ?_)
  have X : Cx G E cX9_begin RX9 (some .boolean) rmX9_begin 8 := X
  unfold f_X9_begin at hf
  refine V_gload_n X dX9_begin_0 rfl rfl ?_
  refine V_dup X dX9_begin_1 rfl ?_
  refine V_geti X ob_85 rfl rfl hin_X9 22 (Nat.le_of_ble_eq_true rfl) tw_1338 rfl dX9_begin_2 ?_
  refine V_iconst X dX9_begin_5 ?_
  refine V_iadd X dX9_begin_6 ?_
  refine V_puti X ob_85 rfl rfl hin_X9 22 (Nat.le_of_ble_eq_true rfl) tw_1338 tyX9 tyX9_ok nmX9 rfl (by decide +kernel) rfl dX9_begin_7 ?_
  refine V_gload_n X dX9_begin_10 rfl rfl ?_
  refine V_geti X ob_85 rfl rfl hin_X9 22 (Nat.le_of_ble_eq_true rfl) tw_1338 rfl dX9_begin_11 ?_
  refine V_sipush X dX9_begin_14 (by decide) ?_
  refine V_icmp_le X (tgt := 27) dX9_begin_17 (by decide) hf (fun hf => ?_) (fun hf => ?_)
  · refine V_gload_n X dX9_begin_20 rfl rfl ?_
    refine V_iconst X dX9_begin_21 ?_
    refine V_putz X ob_85 rfl rfl hin_X9 42 (Nat.le_of_ble_eq_true rfl) tw_1358 tyX9 tyX9_ok nmX9 rfl (by decide +kernel) (Or.inr rfl) rfl dX9_begin_22 ?_
    refine V_iconst X dX9_begin_25 ?_
    exact V_zret X hE dX9_begin_26 (Or.inl rfl) hf
  · refine V_gload_n X dX9_begin_27 rfl rfl ?_
    refine V_getr X ob_85 rfl rfl hin_X9 8 (Nat.le_of_ble_eq_true rfl) tw_1324 rfl dX9_begin_28 ?_
    refine V_iload_n X dX9_begin_31 rfl rfl ?_
    refine V_cald X ar_91 dX9_begin_32 hf (fun hf => ?_)
    refine V_istore_n X dX9_begin_33 rfl (by decide) ?_
    refine V_gload_n X dX9_begin_34 rfl rfl ?_
    refine V_getr X ob_85 rfl rfl hin_X9 9 (Nat.le_of_ble_eq_true rfl) tw_1325 rfl dX9_begin_35 ?_
    refine V_iload_n X dX9_begin_38 rfl rfl ?_
    refine V_iald X ar_92 dX9_begin_39 hf (fun hf => ?_)
    refine V_istore X dX9_begin_40 (by decide) ?_
    refine V_gload_n X dX9_begin_42 rfl rfl ?_
    refine V_getr X ob_85 rfl rfl hin_X9 10 (Nat.le_of_ble_eq_true rfl) tw_1326 rfl dX9_begin_43 ?_
    refine V_iload_n X dX9_begin_46 rfl rfl ?_
    refine V_iald X ar_93 dX9_begin_47 hf (fun hf => ?_)
    refine V_istore X dX9_begin_48 (by decide) ?_
    refine V_gload_n X dX9_begin_50 rfl rfl ?_
    refine V_iload_n X dX9_begin_51 rfl rfl ?_
    refine V_puti X ob_85 rfl rfl hin_X9 40 (Nat.le_of_ble_eq_true rfl) tw_1356 tyX9 tyX9_ok nmX9 rfl (by decide +kernel) rfl dX9_begin_52 ?_
    refine V_iload_n X dX9_begin_55 rfl rfl ?_
    refine ite_c hf (fun h0 hf => ?_) (fun h0 hf => ?_)
    · refine V_lookup X (off := 239) (tgt := 295) dX9_begin_56 (by decide) (by exact off_pos h0) (by decide) ?_
      refine V_gload_n X dX9_begin_295 rfl rfl ?_
      refine V_gload_n X dX9_begin_296 rfl rfl ?_
      refine V_iconst X dX9_begin_297 ?_
      refine V_iload X dX9_begin_298 rfl ?_
      refine V_gload_n X dX9_begin_300 rfl rfl ?_
      refine V_geti X ob_85 rfl rfl hin_X9 39 (Nat.le_of_ble_eq_true rfl) tw_1355 rfl dX9_begin_301 ?_
      refine V_iload_n X dX9_begin_304 rfl rfl ?_
      refine V_cVI X hf [vi 1, vi ((up w 85 22 ((w 85 22) + 1)) 93 (wr a1).toNat), vi ((up (up w 85 22 ((w 85 22) + 1)) 85 40 a2) 85 39), vi a2] _ 4 (fun _ h => m_X9_addGoal h) ob_85 rfl tw_1733 tw_95 tw_1730 tw_1732 tw_57 dX9_begin_305 ⟨by decide +kernel, by decide +kernel, by decide +kernel⟩ ⟨rfl, rfl⟩ ⟨Nat.le_of_ble_eq_true rfl, Nat.le_of_ble_eq_true rfl⟩ rfl (Nat.le_of_ble_eq_true rfl) ⟨Nat.zero_le _, Nat.zero_le _⟩ (fun r1 w1 hf => ?_)
      refine V_puti X ob_85 rfl rfl hin_X9 40 (Nat.le_of_ble_eq_true rfl) tw_1356 tyX9 tyX9_ok nmX9 rfl (by decide +kernel) rfl dX9_begin_308 ?_
      refine V_gload_n X dX9_begin_311 rfl rfl ?_
      refine V_gload_n X dX9_begin_312 rfl rfl ?_
      refine V_iconst X dX9_begin_313 ?_
      refine V_iload X dX9_begin_314 rfl ?_
      refine V_iconst X dX9_begin_316 ?_
      refine V_gload_n X dX9_begin_317 rfl rfl ?_
      refine V_geti X ob_85 rfl rfl hin_X9 40 (Nat.le_of_ble_eq_true rfl) tw_1356 rfl dX9_begin_318 ?_
      refine V_cVI X hf [vi 0, vi ((up w 85 22 ((w 85 22) + 1)) 92 (wr a1).toNat), vi 0, vi ((up w1 85 40 r1) 85 40)] _ 4 (fun _ h => m_X9_addGoal h) ob_85 rfl tw_1733 tw_95 tw_1730 tw_1732 tw_57 dX9_begin_321 ⟨by decide +kernel, by decide +kernel, by decide +kernel⟩ ⟨rfl, rfl⟩ ⟨Nat.le_of_ble_eq_true rfl, Nat.le_of_ble_eq_true rfl⟩ rfl (Nat.le_of_ble_eq_true rfl) ⟨Nat.zero_le _, Nat.zero_le _⟩ (fun r2 w2 hf => ?_)
      refine V_puti X ob_85 rfl rfl hin_X9 40 (Nat.le_of_ble_eq_true rfl) tw_1356 tyX9 tyX9_ok nmX9 rfl (by decide +kernel) rfl dX9_begin_324 ?_
      refine V_iconst X dX9_begin_327 ?_
      exact V_zret X hE dX9_begin_328 (Or.inr rfl) hf
    refine ite_c hf (fun h1 hf => ?_) (fun h1 hf => ?_)
    · refine V_lookup X (off := 118) (tgt := 174) dX9_begin_56 (by decide) (by exact off_neg h0 (off_pos h1)) (by decide) ?_
      refine V_gload_n X dX9_begin_174 rfl rfl ?_
      refine V_gload_n X dX9_begin_175 rfl rfl ?_
      refine V_iconst X dX9_begin_176 ?_
      refine V_iload X dX9_begin_177 rfl ?_
      refine V_iconst X dX9_begin_179 ?_
      refine V_iload_n X dX9_begin_180 rfl rfl ?_
      refine V_cVI X hf [vi 0, vi ((up w 85 22 ((w 85 22) + 1)) 93 (wr a1).toNat), vi 0, vi a2] _ 4 (fun _ h => m_X9_addGoal h) ob_85 rfl tw_1733 tw_95 tw_1730 tw_1732 tw_57 dX9_begin_181 ⟨by decide +kernel, by decide +kernel, by decide +kernel⟩ ⟨rfl, rfl⟩ ⟨Nat.le_of_ble_eq_true rfl, Nat.le_of_ble_eq_true rfl⟩ rfl (Nat.le_of_ble_eq_true rfl) ⟨Nat.zero_le _, Nat.zero_le _⟩ (fun r3 w3 hf => ?_)
      refine V_puti X ob_85 rfl rfl hin_X9 40 (Nat.le_of_ble_eq_true rfl) tw_1356 tyX9 tyX9_ok nmX9 rfl (by decide +kernel) rfl dX9_begin_184 ?_
      refine V_gload_n X dX9_begin_187 rfl rfl ?_
      refine V_gload_n X dX9_begin_188 rfl rfl ?_
      refine V_iconst X dX9_begin_189 ?_
      refine V_iload X dX9_begin_190 rfl ?_
      refine V_iconst X dX9_begin_192 ?_
      refine V_gload_n X dX9_begin_193 rfl rfl ?_
      refine V_geti X ob_85 rfl rfl hin_X9 40 (Nat.le_of_ble_eq_true rfl) tw_1356 rfl dX9_begin_194 ?_
      refine V_cVI X hf [vi 0, vi ((up w 85 22 ((w 85 22) + 1)) 92 (wr a1).toNat), vi 0, vi ((up w3 85 40 r3) 85 40)] _ 4 (fun _ h => m_X9_addGoal h) ob_85 rfl tw_1733 tw_95 tw_1730 tw_1732 tw_57 dX9_begin_197 ⟨by decide +kernel, by decide +kernel, by decide +kernel⟩ ⟨rfl, rfl⟩ ⟨Nat.le_of_ble_eq_true rfl, Nat.le_of_ble_eq_true rfl⟩ rfl (Nat.le_of_ble_eq_true rfl) ⟨Nat.zero_le _, Nat.zero_le _⟩ (fun r4 w4 hf => ?_)
      refine V_puti X ob_85 rfl rfl hin_X9 40 (Nat.le_of_ble_eq_true rfl) tw_1356 tyX9 tyX9_ok nmX9 rfl (by decide +kernel) rfl dX9_begin_200 ?_
      refine V_iconst X dX9_begin_203 ?_
      exact V_zret X hE dX9_begin_204 (Or.inr rfl) hf
    refine ite_c hf (fun h2 hf => ?_) (fun h2 hf => ?_)
    · refine V_lookup X (off := 149) (tgt := 205) dX9_begin_56 (by decide) (by exact off_neg h0 (off_neg h1 (off_pos h2))) (by decide) ?_
      refine V_gload_n X dX9_begin_205 rfl rfl ?_
      refine V_iload_n X dX9_begin_206 rfl rfl ?_
      refine V_gload_n X dX9_begin_207 rfl rfl ?_
      refine V_geti X ob_85 rfl rfl hin_X9 39 (Nat.le_of_ble_eq_true rfl) tw_1355 rfl dX9_begin_208 ?_
      refine V_iload_n X dX9_begin_211 rfl rfl ?_
      refine V_iconst X dX9_begin_212 ?_
      refine V_cVV X hf [vi a1, vi ((up (up w 85 22 ((w 85 22) + 1)) 85 40 a2) 85 39), vi a2, vi 0] _ 4 (fun _ h => m_X9_addChoice h) ob_85 rfl tw_1753 tw_95 tw_1750 tw_1752 tw_62 dX9_begin_213 ⟨by decide +kernel, by decide +kernel, by decide +kernel⟩ ⟨rfl, rfl⟩ ⟨Nat.le_of_ble_eq_true rfl, Nat.le_of_ble_eq_true rfl⟩ rfl (Nat.le_of_ble_eq_true rfl) ⟨Nat.zero_le _, Nat.zero_le _⟩ (fun r5 w5 hf => ?_)
      refine V_iconst X dX9_begin_216 ?_
      exact V_zret X hE dX9_begin_217 (Or.inr rfl) hf
    refine ite_c hf (fun h3 hf => ?_) (fun h3 hf => ?_)
    · refine V_lookup X (off := 273) (tgt := 329) dX9_begin_56 (by decide) (by exact off_neg h0 (off_neg h1 (off_neg h2 (off_pos h3)))) (by decide) ?_
      refine V_gload_n X dX9_begin_329 rfl rfl ?_
      refine V_gload_n X dX9_begin_330 rfl rfl ?_
      refine V_iconst X dX9_begin_331 ?_
      refine V_iload X dX9_begin_332 rfl ?_
      refine V_gload_n X dX9_begin_334 rfl rfl ?_
      refine V_geti X ob_85 rfl rfl hin_X9 39 (Nat.le_of_ble_eq_true rfl) tw_1355 rfl dX9_begin_335 ?_
      refine V_iload_n X dX9_begin_338 rfl rfl ?_
      refine V_cVI X hf [vi 2, vi ((up w 85 22 ((w 85 22) + 1)) 93 (wr a1).toNat), vi ((up (up w 85 22 ((w 85 22) + 1)) 85 40 a2) 85 39), vi a2] _ 4 (fun _ h => m_X9_addGoal h) ob_85 rfl tw_1733 tw_95 tw_1730 tw_1732 tw_57 dX9_begin_339 ⟨by decide +kernel, by decide +kernel, by decide +kernel⟩ ⟨rfl, rfl⟩ ⟨Nat.le_of_ble_eq_true rfl, Nat.le_of_ble_eq_true rfl⟩ rfl (Nat.le_of_ble_eq_true rfl) ⟨Nat.zero_le _, Nat.zero_le _⟩ (fun r6 w6 hf => ?_)
      refine V_puti X ob_85 rfl rfl hin_X9 40 (Nat.le_of_ble_eq_true rfl) tw_1356 tyX9 tyX9_ok nmX9 rfl (by decide +kernel) rfl dX9_begin_342 ?_
      refine V_gload_n X dX9_begin_345 rfl rfl ?_
      refine V_gload_n X dX9_begin_346 rfl rfl ?_
      refine V_iconst X dX9_begin_347 ?_
      refine V_iload X dX9_begin_348 rfl ?_
      refine V_iconst X dX9_begin_350 ?_
      refine V_gload_n X dX9_begin_351 rfl rfl ?_
      refine V_geti X ob_85 rfl rfl hin_X9 40 (Nat.le_of_ble_eq_true rfl) tw_1356 rfl dX9_begin_352 ?_
      refine V_cVI X hf [vi 0, vi ((up w 85 22 ((w 85 22) + 1)) 92 (wr a1).toNat), vi 0, vi ((up w6 85 40 r6) 85 40)] _ 4 (fun _ h => m_X9_addGoal h) ob_85 rfl tw_1733 tw_95 tw_1730 tw_1732 tw_57 dX9_begin_355 ⟨by decide +kernel, by decide +kernel, by decide +kernel⟩ ⟨rfl, rfl⟩ ⟨Nat.le_of_ble_eq_true rfl, Nat.le_of_ble_eq_true rfl⟩ rfl (Nat.le_of_ble_eq_true rfl) ⟨Nat.zero_le _, Nat.zero_le _⟩ (fun r7 w7 hf => ?_)
      refine V_puti X ob_85 rfl rfl hin_X9 40 (Nat.le_of_ble_eq_true rfl) tw_1356 tyX9 tyX9_ok nmX9 rfl (by decide +kernel) rfl dX9_begin_358 ?_
      refine V_iconst X dX9_begin_361 ?_
      exact V_zret X hE dX9_begin_362 (Or.inr rfl) hf
    refine ite_c hf (fun h4 hf => ?_) (fun h4 hf => ?_)
    · refine V_lookup X (off := 307) (tgt := 363) dX9_begin_56 (by decide) (by exact off_neg h0 (off_neg h1 (off_neg h2 (off_neg h3 (off_pos h4))))) (by decide) ?_
      refine V_gload_n X dX9_begin_363 rfl rfl ?_
      refine V_iload X dX9_begin_364 rfl ?_
      refine V_cVV X hf [vi ((up w 85 22 ((w 85 22) + 1)) 92 (wr a1).toNat)] _ 1 (fun _ h => m_X9_assignCursor h) ob_85 rfl tw_1769 tw_95 tw_1766 tw_1768 tw_66 dX9_begin_366 ⟨by decide +kernel, by decide +kernel, by decide +kernel⟩ ⟨rfl, rfl⟩ ⟨Nat.le_of_ble_eq_true rfl, Nat.le_of_ble_eq_true rfl⟩ rfl (Nat.le_of_ble_eq_true rfl) ⟨Nat.zero_le _, Nat.zero_le _⟩ (fun r8 w8 hf => ?_)
      refine V_iconst X dX9_begin_369 ?_
      exact V_zret X hE dX9_begin_370 (Or.inr rfl) hf
    refine ite_c hf (fun h5 hf => ?_) (fun h5 hf => ?_)
    · refine V_lookup X (off := 219) (tgt := 275) dX9_begin_56 (by decide) (by exact off_neg h0 (off_neg h1 (off_neg h2 (off_neg h3 (off_neg h4 (off_pos h5)))))) (by decide) ?_
      refine V_gload_n X dX9_begin_275 rfl rfl ?_
      refine V_iload_n X dX9_begin_276 rfl rfl ?_
      refine V_gload_n X dX9_begin_277 rfl rfl ?_
      refine V_geti X ob_85 rfl rfl hin_X9 39 (Nat.le_of_ble_eq_true rfl) tw_1355 rfl dX9_begin_278 ?_
      refine V_iload_n X dX9_begin_281 rfl rfl ?_
      refine V_iconst X dX9_begin_282 ?_
      refine V_cVV X hf [vi a1, vi ((up (up w 85 22 ((w 85 22) + 1)) 85 40 a2) 85 39), vi a2, vi 0] _ 4 (fun _ h => m_X9_addChoice h) ob_85 rfl tw_1753 tw_95 tw_1750 tw_1752 tw_62 dX9_begin_283 ⟨by decide +kernel, by decide +kernel, by decide +kernel⟩ ⟨rfl, rfl⟩ ⟨Nat.le_of_ble_eq_true rfl, Nat.le_of_ble_eq_true rfl⟩ rfl (Nat.le_of_ble_eq_true rfl) ⟨Nat.zero_le _, Nat.zero_le _⟩ (fun r9 w9 hf => ?_)
      refine V_iconst X dX9_begin_286 ?_
      exact V_zret X hE dX9_begin_287 (Or.inr rfl) hf
    refine ite_c hf (fun h6 hf => ?_) (fun h6 hf => ?_)
    · refine V_lookup X (off := 162) (tgt := 218) dX9_begin_56 (by decide) (by exact off_neg h0 (off_neg h1 (off_neg h2 (off_neg h3 (off_neg h4 (off_neg h5 (off_pos h6))))))) (by decide) ?_
      refine V_gload_n X dX9_begin_218 rfl rfl ?_
      refine V_iload_n X dX9_begin_219 rfl rfl ?_
      refine V_gload_n X dX9_begin_220 rfl rfl ?_
      refine V_geti X ob_85 rfl rfl hin_X9 39 (Nat.le_of_ble_eq_true rfl) tw_1355 rfl dX9_begin_221 ?_
      refine V_iload_n X dX9_begin_224 rfl rfl ?_
      refine V_iconst X dX9_begin_225 ?_
      refine V_cVV X hf [vi a1, vi ((up (up w 85 22 ((w 85 22) + 1)) 85 40 a2) 85 39), vi a2, vi 0] _ 4 (fun _ h => m_X9_addChoice h) ob_85 rfl tw_1753 tw_95 tw_1750 tw_1752 tw_62 dX9_begin_226 ⟨by decide +kernel, by decide +kernel, by decide +kernel⟩ ⟨rfl, rfl⟩ ⟨Nat.le_of_ble_eq_true rfl, Nat.le_of_ble_eq_true rfl⟩ rfl (Nat.le_of_ble_eq_true rfl) ⟨Nat.zero_le _, Nat.zero_le _⟩ (fun r10 w10 hf => ?_)
      refine V_iconst X dX9_begin_229 ?_
      exact V_zret X hE dX9_begin_230 (Or.inr rfl) hf
    refine ite_c hf (fun h7 hf => ?_) (fun h7 hf => ?_)
    · refine V_lookup X (off := 175) (tgt := 231) dX9_begin_56 (by decide) (by exact off_neg h0 (off_neg h1 (off_neg h2 (off_neg h3 (off_neg h4 (off_neg h5 (off_neg h6 (off_pos h7)))))))) (by decide) ?_
      refine V_gload_n X dX9_begin_231 rfl rfl ?_
      refine V_gload_n X dX9_begin_232 rfl rfl ?_
      refine V_geti X ob_85 rfl rfl hin_X9 39 (Nat.le_of_ble_eq_true rfl) tw_1355 rfl dX9_begin_233 ?_
      refine V_iconst X dX9_begin_236 ?_
      refine V_cVI X hf [vi ((up (up w 85 22 ((w 85 22) + 1)) 85 40 a2) 85 39), vi 0] _ 2 (fun _ h => m_X9_balanced h) ob_85 rfl tw_1757 tw_95 tw_1754 tw_1756 tw_63 dX9_begin_237 ⟨by decide +kernel, by decide +kernel, by decide +kernel⟩ ⟨rfl, rfl⟩ ⟨Nat.le_of_ble_eq_true rfl, Nat.le_of_ble_eq_true rfl⟩ rfl (Nat.le_of_ble_eq_true rfl) ⟨Nat.zero_le _, Nat.zero_le _⟩ (fun r11 w11 hf => ?_)
      refine V_istore X dX9_begin_240 (by decide) ?_
      refine V_iload X dX9_begin_242 rfl ?_
      refine V_iconst X dX9_begin_244 ?_
      refine V_icmp_ne X (tgt := 250) dX9_begin_245 (by decide) hf (fun hf => ?_) (fun hf => ?_)
      · refine V_iconst X dX9_begin_248 ?_
        exact V_zret X hE dX9_begin_249 (Or.inl rfl) hf
      · refine V_gload_n X dX9_begin_250 rfl rfl ?_
        refine V_iload_n X dX9_begin_251 rfl rfl ?_
        refine V_gload_n X dX9_begin_252 rfl rfl ?_
        refine V_geti X ob_85 rfl rfl hin_X9 39 (Nat.le_of_ble_eq_true rfl) tw_1355 rfl dX9_begin_253 ?_
        refine V_iload_n X dX9_begin_256 rfl rfl ?_
        refine V_iload X dX9_begin_257 rfl ?_
        refine V_gload_n X dX9_begin_259 rfl rfl ?_
        refine V_geti X ob_85 rfl rfl hin_X9 39 (Nat.le_of_ble_eq_true rfl) tw_1355 rfl dX9_begin_260 ?_
        refine V_isub X dX9_begin_263 ?_
        refine V_cVV X hf [vi a1, vi (w11 85 39), vi a2, vi (r11 - (w11 85 39))] _ 4 (fun _ h => m_X9_addChoice h) ob_85 rfl tw_1753 tw_95 tw_1750 tw_1752 tw_62 dX9_begin_264 ⟨by decide +kernel, by decide +kernel, by decide +kernel⟩ ⟨rfl, rfl⟩ ⟨Nat.le_of_ble_eq_true rfl, Nat.le_of_ble_eq_true rfl⟩ rfl (Nat.le_of_ble_eq_true rfl) ⟨Nat.zero_le _, Nat.zero_le _⟩ (fun r12 w12 hf => ?_)
        refine V_gload_n X dX9_begin_267 rfl rfl ?_
        refine V_iload X dX9_begin_268 rfl ?_
        refine V_puti X ob_85 rfl rfl hin_X9 39 (Nat.le_of_ble_eq_true rfl) tw_1355 tyX9 tyX9_ok nmX9 rfl (by decide +kernel) rfl dX9_begin_270 ?_
        refine V_iconst X dX9_begin_273 ?_
        exact V_zret X hE dX9_begin_274 (Or.inr rfl) hf
    refine ite_c hf (fun h8 hf => ?_) (fun h8 hf => ?_)
    · refine V_lookup X (off := 232) (tgt := 288) dX9_begin_56 (by decide) (by exact off_neg h0 (off_neg h1 (off_neg h2 (off_neg h3 (off_neg h4 (off_neg h5 (off_neg h6 (off_neg h7 (off_pos h8))))))))) (by decide) ?_
      refine V_gload_n X dX9_begin_288 rfl rfl ?_
      refine V_iconst X dX9_begin_289 ?_
      refine V_putz X ob_85 rfl rfl hin_X9 41 (Nat.le_of_ble_eq_true rfl) tw_1357 tyX9 tyX9_ok nmX9 rfl (by decide +kernel) (Or.inr rfl) rfl dX9_begin_290 ?_
      refine V_iconst X dX9_begin_293 ?_
      exact V_zret X hE dX9_begin_294 (Or.inl rfl) hf
    refine ite_c hf (fun h9 hf => ?_) (fun h9 hf => ?_)
    · refine V_lookup X (off := 92) (tgt := 148) dX9_begin_56 (by decide) (by exact off_neg h0 (off_neg h1 (off_neg h2 (off_neg h3 (off_neg h4 (off_neg h5 (off_neg h6 (off_neg h7 (off_neg h8 (off_pos h9)))))))))) (by decide) ?_
      refine V_gload_n X dX9_begin_148 rfl rfl ?_
      refine V_iload_n X dX9_begin_149 rfl rfl ?_
      refine V_gload_n X dX9_begin_150 rfl rfl ?_
      refine V_geti X ob_85 rfl rfl hin_X9 39 (Nat.le_of_ble_eq_true rfl) tw_1355 rfl dX9_begin_151 ?_
      refine V_iload_n X dX9_begin_154 rfl rfl ?_
      refine V_iconst X dX9_begin_155 ?_
      refine V_cVV X hf [vi a1, vi ((up (up w 85 22 ((w 85 22) + 1)) 85 40 a2) 85 39), vi a2, vi 0] _ 4 (fun _ h => m_X9_addChoice h) ob_85 rfl tw_1753 tw_95 tw_1750 tw_1752 tw_62 dX9_begin_156 ⟨by decide +kernel, by decide +kernel, by decide +kernel⟩ ⟨rfl, rfl⟩ ⟨Nat.le_of_ble_eq_true rfl, Nat.le_of_ble_eq_true rfl⟩ rfl (Nat.le_of_ble_eq_true rfl) ⟨Nat.zero_le _, Nat.zero_le _⟩ (fun r13 w13 hf => ?_)
      refine V_gload_n X dX9_begin_159 rfl rfl ?_
      refine V_gload_n X dX9_begin_160 rfl rfl ?_
      refine V_iconst X dX9_begin_161 ?_
      refine V_iload X dX9_begin_162 rfl ?_
      refine V_iconst X dX9_begin_164 ?_
      refine V_iload_n X dX9_begin_165 rfl rfl ?_
      refine V_cVI X hf [vi 0, vi ((up w 85 22 ((w 85 22) + 1)) 92 (wr a1).toNat), vi 0, vi a2] _ 4 (fun _ h => m_X9_addGoal h) ob_85 rfl tw_1733 tw_95 tw_1730 tw_1732 tw_57 dX9_begin_166 ⟨by decide +kernel, by decide +kernel, by decide +kernel⟩ ⟨rfl, rfl⟩ ⟨Nat.le_of_ble_eq_true rfl, Nat.le_of_ble_eq_true rfl⟩ rfl (Nat.le_of_ble_eq_true rfl) ⟨Nat.zero_le _, Nat.zero_le _⟩ (fun r14 w14 hf => ?_)
      refine V_puti X ob_85 rfl rfl hin_X9 40 (Nat.le_of_ble_eq_true rfl) tw_1356 tyX9 tyX9_ok nmX9 rfl (by decide +kernel) rfl dX9_begin_169 ?_
      refine V_iconst X dX9_begin_172 ?_
      exact V_zret X hE dX9_begin_173 (Or.inr rfl) hf
    refine V_lookup X (off := 315) (tgt := 371) dX9_begin_56 (by decide) (by exact off_neg h0 (off_neg h1 (off_neg h2 (off_neg h3 (off_neg h4 (off_neg h5 (off_neg h6 (off_neg h7 (off_neg h8 (off_neg h9 (rfl))))))))))) (by decide) ?_
    refine V_gload_n X dX9_begin_371 rfl rfl ?_
    refine V_iload_n X dX9_begin_372 rfl rfl ?_
    refine V_iload X dX9_begin_373 rfl ?_
    refine V_cVI X hf [vi ((up w 85 22 ((w 85 22) + 1)) 91 (wr a1).toNat), vi ((up w 85 22 ((w 85 22) + 1)) 92 (wr a1).toNat)] _ 2 (fun _ h => m_X9_takes h) ob_85 rfl tw_1773 tw_95 tw_1770 tw_1772 tw_67 dX9_begin_375 ⟨by decide +kernel, by decide +kernel, by decide +kernel⟩ ⟨rfl, rfl⟩ ⟨Nat.le_of_ble_eq_true rfl, Nat.le_of_ble_eq_true rfl⟩ rfl (Nat.le_of_ble_eq_true rfl) ⟨Nat.zero_le _, Nat.zero_le _⟩ (fun r15 w15 hf => ?_)
    refine V_istore X dX9_begin_378 (by decide) ?_
    refine V_gload_n X dX9_begin_380 rfl rfl ?_
    refine V_dup X dX9_begin_381 rfl ?_
    refine V_geti X ob_85 rfl rfl hin_X9 39 (Nat.le_of_ble_eq_true rfl) tw_1355 rfl dX9_begin_382 ?_
    refine V_iload X dX9_begin_385 rfl ?_
    refine V_iconst X dX9_begin_387 ?_
    refine V_icmp_ne X (tgt := 395) dX9_begin_388 (by decide) hf (fun hf => ?_) (fun hf => ?_)
    · refine V_iconst X dX9_begin_391 ?_
      refine V_goto X (tgt := 397) dX9_begin_392 (by decide) ?_
      exact V_cut [7] rfl (v_X9_begin_397 X hE hf)
    · refine V_iload X dX9_begin_395 rfl ?_
      exact V_cut [7] rfl (v_X9_begin_397 X hE hf)
abbrev rmX9_goesOn : Room := { frames := 3, cells := 0, slots := 0, locals := 75 }
set_option maxRecDepth 20000 in
theorem m_X9_goesOn {G : GG}  {w : WS} {q : (Int × WS)}  (hf : f_X9_goesOn  w = some q) : MI G yX9_goesOn cX9_goesOn 4 (some .boolean) rmX9_goesOn [gr G 85] w q := by
  refine MI_of (by decide +kernel) (Nat.le_of_ble_eq_true rfl) (fun E X hE => ?_)
  have X : Cx G E cX9_goesOn RX9 (some .boolean) rmX9_goesOn 4 := X
  unfold f_X9_goesOn at hf
  refine V_gload_n X dX9_goesOn_0 rfl rfl ?_
  refine V_geti X ob_85 rfl rfl hin_X9 40 (Nat.le_of_ble_eq_true rfl) tw_1356 rfl dX9_goesOn_1 ?_
  refine V_istore_n X dX9_goesOn_4 rfl (by decide) ?_
  refine V_gload_n X dX9_goesOn_5 rfl rfl ?_
  refine V_getr X ob_85 rfl rfl hin_X9 26 (Nat.le_of_ble_eq_true rfl) tw_1342 rfl dX9_goesOn_6 ?_
  refine V_iload_n X dX9_goesOn_9 rfl rfl ?_
  refine V_iald X ar_104 dX9_goesOn_10 hf (fun hf => ?_)
  refine V_istore_n X dX9_goesOn_11 rfl (by decide) ?_
  refine V_gload_n X dX9_goesOn_12 rfl rfl ?_
  refine V_getr X ob_85 rfl rfl hin_X9 24 (Nat.le_of_ble_eq_true rfl) tw_1340 rfl dX9_goesOn_13 ?_
  refine V_iload_n X dX9_goesOn_16 rfl rfl ?_
  refine V_iald X ar_102 dX9_goesOn_17 hf (fun hf => ?_)
  refine V_istore_n X dX9_goesOn_18 rfl (by decide) ?_
  refine V_gload_n X dX9_goesOn_19 rfl rfl ?_
  refine V_iload_n X dX9_goesOn_20 rfl rfl ?_
  refine V_puti X ob_85 rfl rfl hin_X9 40 (Nat.le_of_ble_eq_true rfl) tw_1356 tyX9 tyX9_ok nmX9 rfl (by decide +kernel) rfl dX9_goesOn_21 ?_
  refine V_gload_n X dX9_goesOn_24 rfl rfl ?_
  refine V_getr X ob_85 rfl rfl hin_X9 23 (Nat.le_of_ble_eq_true rfl) tw_1339 rfl dX9_goesOn_25 ?_
  refine V_iload_n X dX9_goesOn_28 rfl rfl ?_
  refine V_iald X ar_101 dX9_goesOn_29 hf (fun hf => ?_)
  refine ite_c hf (fun h0 hf => ?_) (fun h0 hf => ?_)
  · refine V_tin X (off := 26) (tgt := 56) dX9_goesOn_30 0 h0 (by decide) rfl (by decide) ?_
    refine V_gload_n X dX9_goesOn_56 rfl rfl ?_
    refine V_iload_n X dX9_goesOn_57 rfl rfl ?_
    refine V_iload_n X dX9_goesOn_58 rfl rfl ?_
    refine V_cVI X hf [vi (w 102 (wr (w 85 40)).toNat), vi (w 104 (wr (w 85 40)).toNat)] _ 2 (fun _ h => m_X9_begin h) ob_85 rfl tw_1765 tw_95 tw_1762 tw_1764 tw_65 dX9_goesOn_59 ⟨by decide +kernel, by decide +kernel, by decide +kernel⟩ ⟨rfl, rfl⟩ ⟨Nat.le_of_ble_eq_true rfl, Nat.le_of_ble_eq_true rfl⟩ rfl (Nat.le_of_ble_eq_true rfl) ⟨Nat.zero_le _, Nat.zero_le _⟩ (fun r1 w1 hf => ?_)
    obtain ⟨hz, hf⟩ := ite_n hf
    exact V_zret X hE dX9_goesOn_62 hz hf
  refine ite_c hf (fun h1 hf => ?_) (fun h1 hf => ?_)
  · refine V_tin X (off := 33) (tgt := 63) dX9_goesOn_30 1 h1 (by decide) rfl (by decide) ?_
    refine V_gload_n X dX9_goesOn_63 rfl rfl ?_
    refine V_iload_n X dX9_goesOn_64 rfl rfl ?_
    refine V_gload_n X dX9_goesOn_65 rfl rfl ?_
    refine V_getr X ob_85 rfl rfl hin_X9 25 (Nat.le_of_ble_eq_true rfl) tw_1341 rfl dX9_goesOn_66 ?_
    refine V_iload_n X dX9_goesOn_69 rfl rfl ?_
    refine V_iald X ar_103 dX9_goesOn_70 hf (fun hf => ?_)
    refine V_gload_n X dX9_goesOn_71 rfl rfl ?_
    refine V_geti X ob_85 rfl rfl hin_X9 39 (Nat.le_of_ble_eq_true rfl) tw_1355 rfl dX9_goesOn_72 ?_
    refine V_cVV X hf [vi (w 102 (wr (w 85 40)).toNat), vi ((up w 85 40 (w 104 (wr (w 85 40)).toNat)) 103 (wr (w 85 40)).toNat), vi ((up w 85 40 (w 104 (wr (w 85 40)).toNat)) 85 39)] _ 3 (fun _ h => m_X9_assign h) ob_85 rfl tw_1789 tw_95 tw_1786 tw_1788 tw_71 dX9_goesOn_75 ⟨by decide +kernel, by decide +kernel, by decide +kernel⟩ ⟨rfl, rfl⟩ ⟨Nat.le_of_ble_eq_true rfl, Nat.le_of_ble_eq_true rfl⟩ rfl (Nat.le_of_ble_eq_true rfl) ⟨Nat.zero_le _, Nat.zero_le _⟩ (fun r2 w2 hf => ?_)
    refine V_iconst X dX9_goesOn_78 ?_
    exact V_zret X hE dX9_goesOn_79 (Or.inr rfl) hf
  refine ite_c hf (fun h2 hf => ?_) (fun h2 hf => ?_)
  · refine V_tin X (off := 50) (tgt := 80) dX9_goesOn_30 2 h2 (by decide) rfl (by decide) ?_
    refine V_gload_n X dX9_goesOn_80 rfl rfl ?_
    refine V_getr X ob_85 rfl rfl hin_X9 35 (Nat.le_of_ble_eq_true rfl) tw_1351 rfl dX9_goesOn_81 ?_
    refine V_gload_n X dX9_goesOn_84 rfl rfl ?_
    refine V_geti X ob_85 rfl rfl hin_X9 38 (Nat.le_of_ble_eq_true rfl) tw_1354 rfl dX9_goesOn_85 ?_
    refine V_iload_n X dX9_goesOn_88 rfl rfl ?_
    refine V_iast X ar_111 dX9_goesOn_89 hf (fun hf => ?_)
    refine V_gload_n X dX9_goesOn_90 rfl rfl ?_
    refine V_getr X ob_85 rfl rfl hin_X9 36 (Nat.le_of_ble_eq_true rfl) tw_1352 rfl dX9_goesOn_91 ?_
    refine V_gload_n X dX9_goesOn_94 rfl rfl ?_
    refine V_geti X ob_85 rfl rfl hin_X9 38 (Nat.le_of_ble_eq_true rfl) tw_1354 rfl dX9_goesOn_95 ?_
    refine V_gload_n X dX9_goesOn_98 rfl rfl ?_
    refine V_getr X ob_85 rfl rfl hin_X9 25 (Nat.le_of_ble_eq_true rfl) tw_1341 rfl dX9_goesOn_99 ?_
    refine V_iload_n X dX9_goesOn_102 rfl rfl ?_
    refine V_iald X ar_103 dX9_goesOn_103 hf (fun hf => ?_)
    refine V_iast X ar_112 dX9_goesOn_104 hf (fun hf => ?_)
    refine V_gload_n X dX9_goesOn_105 rfl rfl ?_
    refine V_getr X ob_85 rfl rfl hin_X9 37 (Nat.le_of_ble_eq_true rfl) tw_1353 rfl dX9_goesOn_106 ?_
    refine V_gload_n X dX9_goesOn_109 rfl rfl ?_
    refine V_geti X ob_85 rfl rfl hin_X9 38 (Nat.le_of_ble_eq_true rfl) tw_1354 rfl dX9_goesOn_110 ?_
    refine V_gload_n X dX9_goesOn_113 rfl rfl ?_
    refine V_geti X ob_85 rfl rfl hin_X9 39 (Nat.le_of_ble_eq_true rfl) tw_1355 rfl dX9_goesOn_114 ?_
    refine V_iast X ar_113 dX9_goesOn_117 hf (fun hf => ?_)
    refine V_gload_n X dX9_goesOn_118 rfl rfl ?_
    refine V_dup X dX9_goesOn_119 rfl ?_
    refine V_geti X ob_85 rfl rfl hin_X9 38 (Nat.le_of_ble_eq_true rfl) tw_1354 rfl dX9_goesOn_120 ?_
    refine V_iconst X dX9_goesOn_123 ?_
    refine V_iadd X dX9_goesOn_124 ?_
    refine V_puti X ob_85 rfl rfl hin_X9 38 (Nat.le_of_ble_eq_true rfl) tw_1354 tyX9 tyX9_ok nmX9 rfl (by decide +kernel) rfl dX9_goesOn_125 ?_
    refine V_iconst X dX9_goesOn_128 ?_
    exact V_zret X hE dX9_goesOn_129 (Or.inr rfl) hf
  refine V_tout X (tgt := 130) dX9_goesOn_30 (by omega) (by decide) ?_
  refine V_gload_n X dX9_goesOn_130 rfl rfl ?_
  refine V_geti X ob_85 rfl rfl hin_X9 39 (Nat.le_of_ble_eq_true rfl) tw_1355 rfl dX9_goesOn_131 ?_
  refine V_gload_n X dX9_goesOn_134 rfl rfl ?_
  refine V_getr X ob_85 rfl rfl hin_X9 25 (Nat.le_of_ble_eq_true rfl) tw_1341 rfl dX9_goesOn_135 ?_
  refine V_iload_n X dX9_goesOn_138 rfl rfl ?_
  refine V_iald X ar_103 dX9_goesOn_139 hf (fun hf => ?_)
  refine V_icmp_ne X (tgt := 145) dX9_goesOn_140 (by decide) hf (fun hf => ?_) (fun hf => ?_)
  · refine V_iconst X dX9_goesOn_143 ?_
    exact V_zret X hE dX9_goesOn_144 (Or.inl rfl) hf
  · refine V_gload_n X dX9_goesOn_145 rfl rfl ?_
    refine V_iload_n X dX9_goesOn_146 rfl rfl ?_
    refine V_gload_n X dX9_goesOn_147 rfl rfl ?_
    refine V_geti X ob_85 rfl rfl hin_X9 39 (Nat.le_of_ble_eq_true rfl) tw_1355 rfl dX9_goesOn_148 ?_
    refine V_iload_n X dX9_goesOn_151 rfl rfl ?_
    refine V_iconst X dX9_goesOn_152 ?_
    refine V_cVV X hf [vi (w 102 (wr (w 85 40)).toNat), vi ((up w 85 40 (w 104 (wr (w 85 40)).toNat)) 85 39), vi (w 104 (wr (w 85 40)).toNat), vi 0] _ 4 (fun _ h => m_X9_addChoice h) ob_85 rfl tw_1753 tw_95 tw_1750 tw_1752 tw_62 dX9_goesOn_153 ⟨by decide +kernel, by decide +kernel, by decide +kernel⟩ ⟨rfl, rfl⟩ ⟨Nat.le_of_ble_eq_true rfl, Nat.le_of_ble_eq_true rfl⟩ rfl (Nat.le_of_ble_eq_true rfl) ⟨Nat.zero_le _, Nat.zero_le _⟩ (fun r3 w3 hf => ?_)
    refine V_iconst X dX9_goesOn_156 ?_
    exact V_zret X hE dX9_goesOn_157 (Or.inr rfl) hf
abbrev rmX9_reaches : Room := { frames := 4, cells := 0, slots := 0, locals := 98 }
set_option maxRecDepth 20000 in
theorem v_X9_reaches_17 {G : GG} {E : EE} (X : Cx G E cX9_reaches RX9 (some .boolean) rmX9_reaches 4) {q : (Int × WS)} (hE : EndI G E q)   : ∀ (n : Nat) (a2 : Int) (w : WS), f_X9_reaches_17   n a2 w = some q → VV G E 0 0 17 [(0, gr G 85), (2, vi a2)] [] w := by
  intro n
  induction n with
  | zero => intro a2 w hf; cases hf
  | succ n ih =>
    intro a2 w hf
    rw [f_X9_reaches_17_s] at hf
    refine V_iload_n X dX9_reaches_17 rfl rfl ?_
    refine V_if_eq X (tgt := 61) dX9_reaches_18 (by decide) hf (fun hf => ?_) (fun hf => ?_)
    · refine V_iload_n X dX9_reaches_61 rfl rfl ?_
      obtain ⟨hz, hf⟩ := ite_n hf
      exact V_zret X hE dX9_reaches_62 hz hf
    · refine V_gload_n X dX9_reaches_21 rfl rfl ?_
      refine V_geti X ob_85 rfl rfl hin_X9 40 (Nat.le_of_ble_eq_true rfl) tw_1356 rfl dX9_reaches_22 ?_
      refine V_iconst X dX9_reaches_25 ?_
      refine V_icmp_eq X (tgt := 61) dX9_reaches_26 (by decide) hf (fun hf => ?_) (fun hf => ?_)
      · refine V_iload_n X dX9_reaches_61 rfl rfl ?_
        obtain ⟨hz, hf⟩ := ite_n hf
        exact V_zret X hE dX9_reaches_62 hz hf
      · refine V_gload_n X dX9_reaches_29 rfl rfl ?_
        refine V_cVI X hf [] _ 0 (fun _ h => m_X9_goesOn h) ob_85 rfl tw_1761 tw_95 tw_1758 tw_1760 tw_64 dX9_reaches_30 ⟨by decide +kernel, by decide +kernel, by decide +kernel⟩ ⟨rfl, rfl⟩ ⟨Nat.le_of_ble_eq_true rfl, Nat.le_of_ble_eq_true rfl⟩ rfl (Nat.le_of_ble_eq_true rfl) ⟨Nat.zero_le _, Nat.zero_le _⟩ (fun r2 w2 hf => ?_)
        refine V_istore_n X dX9_reaches_33 rfl (by decide) ?_
        refine V_iload_n X dX9_reaches_34 rfl rfl ?_
        refine V_if_ne X (tgt := 52) dX9_reaches_35 (by decide) hf (fun hf => ?_) (fun hf => ?_)
        · refine V_gload_n X dX9_reaches_38 rfl rfl ?_
          refine V_geti X ob_85 rfl rfl hin_X9 42 (Nat.le_of_ble_eq_true rfl) tw_1358 rfl dX9_reaches_39 ?_
          refine V_if_ne X (tgt := 56) dX9_reaches_42 (by decide) hf (fun hf => ?_) (fun hf => ?_)
          · refine V_gload_n X dX9_reaches_45 rfl rfl ?_
            refine V_cVI X hf [] _ 0 (fun _ h => m_X9_back h) ob_85 rfl tw_1741 tw_95 tw_1738 tw_1740 tw_59 dX9_reaches_46 ⟨by decide +kernel, by decide +kernel, by decide +kernel⟩ ⟨rfl, rfl⟩ ⟨Nat.le_of_ble_eq_true rfl, Nat.le_of_ble_eq_true rfl⟩ rfl (Nat.le_of_ble_eq_true rfl) ⟨Nat.zero_le _, Nat.zero_le _⟩ (fun r3 w3 hf => ?_)
            refine V_if_eq X (tgt := 56) dX9_reaches_49 (by decide) hf (fun hf => ?_) (fun hf => ?_)
            · refine V_iconst X dX9_reaches_56 ?_
              refine V_istore_n X dX9_reaches_57 rfl (by decide) ?_
              refine V_goto X (tgt := 17) dX9_reaches_58 (by decide) ?_
              exact V_cut [0, 2] rfl (ih _ _ hf)
            · refine V_iconst X dX9_reaches_52 ?_
              refine V_goto X (tgt := 57) dX9_reaches_53 (by decide) ?_
              refine V_istore_n X dX9_reaches_57 rfl (by decide) ?_
              refine V_goto X (tgt := 17) dX9_reaches_58 (by decide) ?_
              exact V_cut [0, 2] rfl (ih _ _ hf)
          · refine V_iconst X dX9_reaches_56 ?_
            refine V_istore_n X dX9_reaches_57 rfl (by decide) ?_
            refine V_goto X (tgt := 17) dX9_reaches_58 (by decide) ?_
            exact V_cut [0, 2] rfl (ih _ _ hf)
        · refine V_iconst X dX9_reaches_52 ?_
          refine V_goto X (tgt := 57) dX9_reaches_53 (by decide) ?_
          refine V_istore_n X dX9_reaches_57 rfl (by decide) ?_
          refine V_goto X (tgt := 17) dX9_reaches_58 (by decide) ?_
          exact V_cut [0, 2] rfl (ih _ _ hf)
set_option maxRecDepth 20000 in
theorem m_X9_reaches {G : GG} {a1 : Int} {w : WS} {q : (Int × WS)}  (hf : f_X9_reaches a1 w = some q) : MI G yX9_reaches cX9_reaches 4 (some .boolean) rmX9_reaches [gr G 85, vi a1] w q := by
  refine MI_of (by decide +kernel) (Nat.le_of_ble_eq_true rfl) (fun E X hE => ?_)
  have X : Cx G E cX9_reaches RX9 (some .boolean) rmX9_reaches 4 := X
  unfold f_X9_reaches at hf
  refine V_iload_n X dX9_reaches_0 rfl rfl ?_
  refine V_if_ne X (tgt := 11) dX9_reaches_1 (by decide) hf (fun hf => ?_) (fun hf => ?_)
  · refine V_gload_n X dX9_reaches_4 rfl rfl ?_
    refine V_cVI X hf [] _ 0 (fun _ h => m_X9_back h) ob_85 rfl tw_1741 tw_95 tw_1738 tw_1740 tw_59 dX9_reaches_5 ⟨by decide +kernel, by decide +kernel, by decide +kernel⟩ ⟨rfl, rfl⟩ ⟨Nat.le_of_ble_eq_true rfl, Nat.le_of_ble_eq_true rfl⟩ rfl (Nat.le_of_ble_eq_true rfl) ⟨Nat.zero_le _, Nat.zero_le _⟩ (fun r1 w1 hf => ?_)
    refine V_if_eq X (tgt := 15) dX9_reaches_8 (by decide) hf (fun hf => ?_) (fun hf => ?_)
    · refine V_iconst X dX9_reaches_15 ?_
      refine V_istore_n X dX9_reaches_16 rfl (by decide) ?_
      exact V_cut [0, 2] rfl (v_X9_reaches_17 X hE FU _ _ hf)
    · refine V_iconst X dX9_reaches_11 ?_
      refine V_goto X (tgt := 16) dX9_reaches_12 (by decide) ?_
      refine V_istore_n X dX9_reaches_16 rfl (by decide) ?_
      exact V_cut [0, 2] rfl (v_X9_reaches_17 X hE FU _ _ hf)
  · refine V_iconst X dX9_reaches_11 ?_
    refine V_goto X (tgt := 16) dX9_reaches_12 (by decide) ?_
    refine V_istore_n X dX9_reaches_16 rfl (by decide) ?_
    exact V_cut [0, 2] rfl (v_X9_reaches_17 X hE FU _ _ hf)
abbrev rmX9_beginAt : Room := { frames := 1, cells := 0, slots := 0, locals := 24 }
set_option maxRecDepth 20000 in
theorem m_X9_beginAt {G : GG} {a1 : Int} {a2 : Int} {w : WS} {q : (Int × WS)}  (hf : f_X9_beginAt a1 a2 w = some q) : MV G yX9_beginAt cX9_beginAt 3 none rmX9_beginAt [gr G 85, vi a1, vi a2] w q := by
  refine MV_of (by decide +kernel) (Nat.le_of_ble_eq_true rfl) (fun E X hE => ?_)
  have X : Cx G E cX9_beginAt RX9 none rmX9_beginAt 3 := X
  unfold f_X9_beginAt at hf
  refine V_gload_n X dX9_beginAt_0 rfl rfl ?_
  refine V_iload_n X dX9_beginAt_1 rfl rfl ?_
  refine V_puti X ob_85 rfl rfl hin_X9 43 (Nat.le_of_ble_eq_true rfl) tw_1359 tyX9 tyX9_ok nmX9 rfl (by decide +kernel) rfl dX9_beginAt_2 ?_
  refine V_gload_n X dX9_beginAt_5 rfl rfl ?_
  refine V_iload_n X dX9_beginAt_6 rfl rfl ?_
  refine V_puti X ob_85 rfl rfl hin_X9 39 (Nat.le_of_ble_eq_true rfl) tw_1355 tyX9 tyX9_ok nmX9 rfl (by decide +kernel) rfl dX9_beginAt_7 ?_
  refine V_gload_n X dX9_beginAt_10 rfl rfl ?_
  refine V_iconst X dX9_beginAt_11 ?_
  refine V_puti X ob_85 rfl rfl hin_X9 27 (Nat.le_of_ble_eq_true rfl) tw_1343 tyX9 tyX9_ok nmX9 rfl (by decide +kernel) rfl dX9_beginAt_12 ?_
  refine V_gload_n X dX9_beginAt_15 rfl rfl ?_
  refine V_iconst X dX9_beginAt_16 ?_
  refine V_puti X ob_85 rfl rfl hin_X9 34 (Nat.le_of_ble_eq_true rfl) tw_1350 tyX9 tyX9_ok nmX9 rfl (by decide +kernel) rfl dX9_beginAt_17 ?_
  refine V_gload_n X dX9_beginAt_20 rfl rfl ?_
  refine V_iconst X dX9_beginAt_21 ?_
  refine V_puti X ob_85 rfl rfl hin_X9 38 (Nat.le_of_ble_eq_true rfl) tw_1354 tyX9 tyX9_ok nmX9 rfl (by decide +kernel) rfl dX9_beginAt_22 ?_
  refine V_gload_n X dX9_beginAt_25 rfl rfl ?_
  refine V_gload_n X dX9_beginAt_26 rfl rfl ?_
  refine V_iconst X dX9_beginAt_27 ?_
  refine V_iload_n X dX9_beginAt_28 rfl rfl ?_
  refine V_iconst X dX9_beginAt_29 ?_
  refine V_iconst X dX9_beginAt_30 ?_
  refine V_cVI X hf [vi 0, vi a2, vi 0, vi (-1)] _ 4 (fun _ h => m_X9_addGoal h) ob_85 rfl tw_1733 tw_95 tw_1730 tw_1732 tw_57 dX9_beginAt_31 ⟨by decide +kernel, by decide +kernel, by decide +kernel⟩ ⟨rfl, rfl⟩ ⟨Nat.le_of_ble_eq_true rfl, Nat.le_of_ble_eq_true rfl⟩ rfl (Nat.le_of_ble_eq_true rfl) ⟨Nat.zero_le _, Nat.zero_le _⟩ (fun r1 w1 hf => ?_)
  refine V_puti X ob_85 rfl rfl hin_X9 40 (Nat.le_of_ble_eq_true rfl) tw_1356 tyX9 tyX9_ok nmX9 rfl (by decide +kernel) rfl dX9_beginAt_34 ?_
  exact V_vret X hE dX9_beginAt_37 hf
abbrev rmX9_matches : Room := { frames := 5, cells := 0, slots := 0, locals := 121 }
set_option maxRecDepth 20000 in
theorem v_X9_matches_79 {G : GG} {E : EE} (X : Cx G E cX9_matches RX9 (some .int) rmX9_matches 5) {q : (Int × WS)} (hE : EndI G E q)   {a2 : Int} {w : WS} (hf : f_X9_matches_79   a2 w = some q) : VV G E 0 0 79 [(0, gr G 85), (2, vi a2)] [] w := by
  unfold f_X9_matches_79 at hf
  refine V_gload_n X dX9_matches_79 rfl rfl ?_
  refine V_geti X ob_85 rfl rfl hin_X9 42 (Nat.le_of_ble_eq_true rfl) tw_1358 rfl dX9_matches_80 ?_
  refine V_if_eq X (tgt := 90) dX9_matches_83 (by decide) hf (fun hf => ?_) (fun hf => ?_)
  · refine V_iload_n X dX9_matches_90 rfl rfl ?_
    refine V_if_eq X (tgt := 98) dX9_matches_91 (by decide) hf (fun hf => ?_) (fun hf => ?_)
    · refine V_iconst X dX9_matches_98 ?_
      exact V_iret X hE dX9_matches_99 hf
    · refine V_iconst X dX9_matches_94 ?_
      refine V_goto X (tgt := 99) dX9_matches_95 (by decide) ?_
      exact V_iret X hE dX9_matches_99 hf
  · refine V_iconst X dX9_matches_86 ?_
    refine V_goto X (tgt := 99) dX9_matches_87 (by decide) ?_
    exact V_iret X hE dX9_matches_99 hf
set_option maxRecDepth 20000 in
theorem v_X9_matches_36 {G : GG} {E : EE} (X : Cx G E cX9_matches RX9 (some .int) rmX9_matches 5) {q : (Int × WS)} (hE : EndI G E q)   : ∀ (n : Nat) (a1 a2 a3 a4 : Int) (w : WS), f_X9_matches_36   n a1 a2 a3 a4 w = some q → VV G E 0 0 36 [(0, gr G 85), (1, vi a1), (2, vi a2), (3, vi a3), (4, vi a4)] [] w := by
  intro n
  induction n with
  | zero => intro a1 a2 a3 a4 w hf; cases hf
  | succ n ih =>
    intro a1 a2 a3 a4 w hf
    rw [f_X9_matches_36_s] at hf
    refine V_iload X dX9_matches_36 rfl ?_
    refine V_iload_n X dX9_matches_38 rfl rfl ?_
    refine V_icmp_gt X (tgt := 79) dX9_matches_39 (by decide) hf (fun hf => ?_) (fun hf => ?_)
    · exact V_cut [0, 2] rfl (v_X9_matches_79 X hE hf)
    · refine V_iload_n X dX9_matches_42 rfl rfl ?_
      refine V_if_ne X (tgt := 79) dX9_matches_43 (by decide) hf (fun hf => ?_) (fun hf => ?_)
      · refine V_gload_n X dX9_matches_46 rfl rfl ?_
        refine V_geti X ob_85 rfl rfl hin_X9 41 (Nat.le_of_ble_eq_true rfl) tw_1357 rfl dX9_matches_47 ?_
        refine V_if_ne X (tgt := 79) dX9_matches_50 (by decide) hf (fun hf => ?_) (fun hf => ?_)
        · refine V_gload_n X dX9_matches_53 rfl rfl ?_
          refine V_geti X ob_85 rfl rfl hin_X9 42 (Nat.le_of_ble_eq_true rfl) tw_1358 rfl dX9_matches_54 ?_
          refine V_if_ne X (tgt := 79) dX9_matches_57 (by decide) hf (fun hf => ?_) (fun hf => ?_)
          · refine V_gload_n X dX9_matches_60 rfl rfl ?_
            refine V_iload X dX9_matches_61 rfl ?_
            refine V_iload_n X dX9_matches_63 rfl rfl ?_
            refine V_cVV X hf [vi a4, vi a1] _ 2 (fun _ h => m_X9_beginAt h) ob_85 rfl tw_1729 tw_95 tw_1726 tw_1728 tw_56 dX9_matches_64 ⟨by decide +kernel, by decide +kernel, by decide +kernel⟩ ⟨rfl, rfl⟩ ⟨Nat.le_of_ble_eq_true rfl, Nat.le_of_ble_eq_true rfl⟩ rfl (Nat.le_of_ble_eq_true rfl) ⟨Nat.zero_le _, Nat.zero_le _⟩ (fun r1 w1 hf => ?_)
            refine V_gload_n X dX9_matches_67 rfl rfl ?_
            refine V_iconst X dX9_matches_68 ?_
            refine V_cVI X hf [vi 1] _ 1 (fun _ h => m_X9_reaches h) ob_85 rfl tw_1737 tw_95 tw_1734 tw_1736 tw_58 dX9_matches_69 ⟨by decide +kernel, by decide +kernel, by decide +kernel⟩ ⟨rfl, rfl⟩ ⟨Nat.le_of_ble_eq_true rfl, Nat.le_of_ble_eq_true rfl⟩ rfl (Nat.le_of_ble_eq_true rfl) ⟨Nat.zero_le _, Nat.zero_le _⟩ (fun r2 w2 hf => ?_)
            refine V_istore_n X dX9_matches_72 rfl (by decide) ?_
            refine V_iinc X dX9_matches_73 rfl (by decide) ?_
            refine V_goto X (tgt := 36) dX9_matches_76 (by decide) ?_
            exact V_cut [0, 1, 2, 3, 4] rfl (ih _ _ _ _ _ hf)
          · exact V_cut [0, 2] rfl (v_X9_matches_79 X hE hf)
        · exact V_cut [0, 2] rfl (v_X9_matches_79 X hE hf)
      · exact V_cut [0, 2] rfl (v_X9_matches_79 X hE hf)
set_option maxRecDepth 20000 in
theorem m_X9_matches {G : GG} {a1 : Int} {w : WS} {q : (Int × WS)}  (hf : f_X9_matches a1 w = some q) : MI G yX9_matches cX9_matches 5 (some .int) rmX9_matches [gr G 85, vi a1] w q := by
  refine MI_of (by decide +kernel) (Nat.le_of_ble_eq_true rfl) (fun E X hE => ?_)
  have X : Cx G E cX9_matches RX9 (some .int) rmX9_matches 5 := X
  unfold f_X9_matches at hf
  refine V_gload_n X dX9_matches_0 rfl rfl ?_
  refine V_iconst X dX9_matches_1 ?_
  refine V_puti X ob_85 rfl rfl hin_X9 22 (Nat.le_of_ble_eq_true rfl) tw_1338 tyX9 tyX9_ok nmX9 rfl (by decide +kernel) rfl dX9_matches_2 ?_
  refine V_gload_n X dX9_matches_5 rfl rfl ?_
  refine V_iconst X dX9_matches_6 ?_
  refine V_putz X ob_85 rfl rfl hin_X9 41 (Nat.le_of_ble_eq_true rfl) tw_1357 tyX9 tyX9_ok nmX9 rfl (by decide +kernel) (Or.inl rfl) rfl dX9_matches_7 ?_
  refine V_gload_n X dX9_matches_10 rfl rfl ?_
  refine V_iconst X dX9_matches_11 ?_
  refine V_putz X ob_85 rfl rfl hin_X9 42 (Nat.le_of_ble_eq_true rfl) tw_1358 tyX9 tyX9_ok nmX9 rfl (by decide +kernel) (Or.inl rfl) rfl dX9_matches_12 ?_
  refine V_iconst X dX9_matches_15 ?_
  refine V_istore_n X dX9_matches_16 rfl (by decide) ?_
  refine V_gload_n X dX9_matches_17 rfl rfl ?_
  refine V_geti X ob_85 rfl rfl hin_X9 21 (Nat.le_of_ble_eq_true rfl) tw_1337 rfl dX9_matches_18 ?_
  refine V_if_eq X (tgt := 28) dX9_matches_21 (by decide) hf (fun hf => ?_) (fun hf => ?_)
  · refine V_gload_n X dX9_matches_28 rfl rfl ?_
    refine V_geti X ob_85 rfl rfl hin_X9 20 (Nat.le_of_ble_eq_true rfl) tw_1336 rfl dX9_matches_29 ?_
    refine V_istore_n X dX9_matches_32 rfl (by decide) ?_
    refine V_iconst X dX9_matches_33 ?_
    refine V_istore X dX9_matches_34 (by decide) ?_
    exact V_cut [0, 1, 2, 3, 4] rfl (v_X9_matches_36 X hE FU _ _ _ _ _ hf)
  · refine V_iconst X dX9_matches_24 ?_
    refine V_goto X (tgt := 32) dX9_matches_25 (by decide) ?_
    refine V_istore_n X dX9_matches_32 rfl (by decide) ?_
    refine V_iconst X dX9_matches_33 ?_
    refine V_istore X dX9_matches_34 (by decide) ?_
    exact V_cut [0, 1, 2, 3, 4] rfl (v_X9_matches_36 X hE FU _ _ _ _ _ hf)
abbrev rmX9_assignKept : Room := { frames := 1, cells := 0, slots := 0, locals := 24 }
set_option maxRecDepth 20000 in
theorem v_X9_assignKept_2 {G : GG} {E : EE} (X : Cx G E cX9_assignKept RX9 none rmX9_assignKept 2) {q : (Int × WS)} (hE : EndV G E q)   : ∀ (n : Nat) (a1 : Int) (w : WS), f_X9_assignKept_2   n a1 w = some q → VV G E 0 0 2 [(0, gr G 85), (1, vi a1)] [] w := by
  intro n
  induction n with
  | zero => intro a1 w hf; cases hf
  | succ n ih =>
    intro a1 w hf
    rw [f_X9_assignKept_2_s] at hf
    refine V_iload_n X dX9_assignKept_2 rfl rfl ?_
    refine V_gload_n X dX9_assignKept_3 rfl rfl ?_
    refine V_geti X ob_85 rfl rfl hin_X9 38 (Nat.le_of_ble_eq_true rfl) tw_1354 rfl dX9_assignKept_4 ?_
    refine V_icmp_ge X (tgt := 38) dX9_assignKept_7 (by decide) hf (fun hf => ?_) (fun hf => ?_)
    · refine V_gload_n X dX9_assignKept_10 rfl rfl ?_
      refine V_gload_n X dX9_assignKept_11 rfl rfl ?_
      refine V_getr X ob_85 rfl rfl hin_X9 35 (Nat.le_of_ble_eq_true rfl) tw_1351 rfl dX9_assignKept_12 ?_
      refine V_iload_n X dX9_assignKept_15 rfl rfl ?_
      refine V_iald X ar_111 dX9_assignKept_16 hf (fun hf => ?_)
      refine V_gload_n X dX9_assignKept_17 rfl rfl ?_
      refine V_getr X ob_85 rfl rfl hin_X9 36 (Nat.le_of_ble_eq_true rfl) tw_1352 rfl dX9_assignKept_18 ?_
      refine V_iload_n X dX9_assignKept_21 rfl rfl ?_
      refine V_iald X ar_112 dX9_assignKept_22 hf (fun hf => ?_)
      refine V_gload_n X dX9_assignKept_23 rfl rfl ?_
      refine V_getr X ob_85 rfl rfl hin_X9 37 (Nat.le_of_ble_eq_true rfl) tw_1353 rfl dX9_assignKept_24 ?_
      refine V_iload_n X dX9_assignKept_27 rfl rfl ?_
      refine V_iald X ar_113 dX9_assignKept_28 hf (fun hf => ?_)
      refine V_cVV X hf [vi (w 111 (wr a1).toNat), vi (w 112 (wr a1).toNat), vi (w 113 (wr a1).toNat)] _ 3 (fun _ h => m_X9_assign h) ob_85 rfl tw_1789 tw_95 tw_1786 tw_1788 tw_71 dX9_assignKept_29 ⟨by decide +kernel, by decide +kernel, by decide +kernel⟩ ⟨rfl, rfl⟩ ⟨Nat.le_of_ble_eq_true rfl, Nat.le_of_ble_eq_true rfl⟩ rfl (Nat.le_of_ble_eq_true rfl) ⟨Nat.zero_le _, Nat.zero_le _⟩ (fun r1 w1 hf => ?_)
      refine V_iinc X dX9_assignKept_32 rfl (by decide) ?_
      refine V_goto X (tgt := 2) dX9_assignKept_35 (by decide) ?_
      exact V_cut [0, 1] rfl (ih _ _ hf)
    · exact V_vret X hE dX9_assignKept_38 hf
set_option maxRecDepth 20000 in
theorem m_X9_assignKept {G : GG}  {w : WS} {q : (Int × WS)}  (hf : f_X9_assignKept  w = some q) : MV G yX9_assignKept cX9_assignKept 2 none rmX9_assignKept [gr G 85] w q := by
  refine MV_of (by decide +kernel) (Nat.le_of_ble_eq_true rfl) (fun E X hE => ?_)
  have X : Cx G E cX9_assignKept RX9 none rmX9_assignKept 2 := X
  unfold f_X9_assignKept at hf
  refine V_iconst X dX9_assignKept_0 ?_
  refine V_istore_n X dX9_assignKept_1 rfl (by decide) ?_
  exact V_cut [0, 1] rfl (v_X9_assignKept_2 X hE FU _ _ hf)
abbrev rmX9_isWay : Room := { frames := 1, cells := 0, slots := 0, locals := 25 }
set_option maxRecDepth 20000 in
theorem m_X9_isWay {G : GG} {a0 : Int} {w : WS} {q : (Int × WS)}  (hf : f_X9_isWay a0 w = some q) : MI G yX9_isWay cX9_isWay 1 (some .boolean) rmX9_isWay [vi a0] w q := by
  refine MI_of (by decide +kernel) (Nat.le_of_ble_eq_true rfl) (fun E X hE => ?_)
  have X : Cx G E cX9_isWay RX9 (some .boolean) rmX9_isWay 1 := X
  unfold f_X9_isWay at hf
  refine V_iload_n X dX9_isWay_0 rfl rfl ?_
  refine V_i2l X dX9_isWay_1 ?_
  refine V_ldc2 (a := (-4)) X tw_1639 dX9_isWay_2 (by decide) ?_
  refine V_ldc2 (a := 39) X tw_1640 dX9_isWay_5 (by decide) ?_
  refine V_cSI X hf [vl (wr a0), vl (-4), vl 39] _ 3 (fun _ h => m_X9_in h) tw_1574 tw_95 tw_1572 tw_1573 dX9_isWay_8 ⟨by decide +kernel, by decide +kernel, by decide +kernel⟩ ⟨rfl, rfl⟩ ⟨Nat.le_of_ble_eq_true rfl, Nat.le_of_ble_eq_true rfl⟩ rfl (Nat.le_of_ble_eq_true rfl) ⟨Nat.zero_le _, Nat.zero_le _⟩ (fun r1 w1 hf => ?_)
  obtain ⟨hz, hf⟩ := ite_n hf
  exact V_zret X hE dX9_isWay_11 hz hf
abbrev rmX9_add : Room := { frames := 1, cells := 0, slots := 0, locals := 22 }
set_option maxRecDepth 20000 in
theorem v_X9_add_15 {G : GG} {E : EE} (X : Cx G E cX9_add RX9 (some .int) rmX9_add 7) {q : (Int × WS)} (hE : EndI G E q)   {a1 a2 a3 a4 a5 a6 s0 : Int} {w : WS} (hf : f_X9_add_15   a1 a2 a3 a4 a5 a6 s0 w = some q) : VV G E 0 0 15 [(0, gr G 85), (1, vi a1), (2, vi a2), (3, vi a3), (4, vi a4), (5, vi a5), (6, vi a6)] [vi s0, gr G 85] w := by
  unfold f_X9_add_15 at hf
  refine V_iconst X dX9_add_15 ?_
  refine V_cVI X hf [vi s0, vi 3] _ 2 (fun _ h => m_X9_fails h) ob_85 rfl tw_1580 tw_95 tw_1577 tw_1579 tw_38 dX9_add_16 ⟨by decide +kernel, by decide +kernel, by decide +kernel⟩ ⟨rfl, rfl⟩ ⟨Nat.le_of_ble_eq_true rfl, Nat.le_of_ble_eq_true rfl⟩ rfl (Nat.le_of_ble_eq_true rfl) ⟨Nat.zero_le _, Nat.zero_le _⟩ (fun r1 w1 hf => ?_)
  refine V_if_eq X (tgt := 24) dX9_add_19 (by decide) hf (fun hf => ?_) (fun hf => ?_)
  · refine V_gload_n X dX9_add_24 rfl rfl ?_
    refine V_getr X ob_85 rfl rfl hin_X9 45 (Nat.le_of_ble_eq_true rfl) tw_1361 rfl dX9_add_25 ?_
    refine V_gload_n X dX9_add_28 rfl rfl ?_
    refine V_geti X ob_85 rfl rfl hin_X9 51 (Nat.le_of_ble_eq_true rfl) tw_1367 rfl dX9_add_29 ?_
    refine V_iload_n X dX9_add_32 rfl rfl ?_
    refine V_cast X ar_114 dX9_add_33 hf (fun hf => ?_)
    refine V_gload_n X dX9_add_34 rfl rfl ?_
    refine V_getr X ob_85 rfl rfl hin_X9 46 (Nat.le_of_ble_eq_true rfl) tw_1362 rfl dX9_add_35 ?_
    refine V_gload_n X dX9_add_38 rfl rfl ?_
    refine V_geti X ob_85 rfl rfl hin_X9 51 (Nat.le_of_ble_eq_true rfl) tw_1367 rfl dX9_add_39 ?_
    refine V_iload_n X dX9_add_42 rfl rfl ?_
    refine V_iast X ar_115 dX9_add_43 hf (fun hf => ?_)
    refine V_gload_n X dX9_add_44 rfl rfl ?_
    refine V_getr X ob_85 rfl rfl hin_X9 47 (Nat.le_of_ble_eq_true rfl) tw_1363 rfl dX9_add_45 ?_
    refine V_gload_n X dX9_add_48 rfl rfl ?_
    refine V_geti X ob_85 rfl rfl hin_X9 51 (Nat.le_of_ble_eq_true rfl) tw_1367 rfl dX9_add_49 ?_
    refine V_iload_n X dX9_add_52 rfl rfl ?_
    refine V_iast X ar_116 dX9_add_53 hf (fun hf => ?_)
    refine V_gload_n X dX9_add_54 rfl rfl ?_
    refine V_getr X ob_85 rfl rfl hin_X9 48 (Nat.le_of_ble_eq_true rfl) tw_1364 rfl dX9_add_55 ?_
    refine V_gload_n X dX9_add_58 rfl rfl ?_
    refine V_geti X ob_85 rfl rfl hin_X9 51 (Nat.le_of_ble_eq_true rfl) tw_1367 rfl dX9_add_59 ?_
    refine V_iload X dX9_add_62 rfl ?_
    refine V_iast X ar_117 dX9_add_64 hf (fun hf => ?_)
    refine V_gload_n X dX9_add_65 rfl rfl ?_
    refine V_getr X ob_85 rfl rfl hin_X9 49 (Nat.le_of_ble_eq_true rfl) tw_1365 rfl dX9_add_66 ?_
    refine V_gload_n X dX9_add_69 rfl rfl ?_
    refine V_geti X ob_85 rfl rfl hin_X9 51 (Nat.le_of_ble_eq_true rfl) tw_1367 rfl dX9_add_70 ?_
    refine V_iload X dX9_add_73 rfl ?_
    refine V_iast X ar_118 dX9_add_75 hf (fun hf => ?_)
    refine V_gload_n X dX9_add_76 rfl rfl ?_
    refine V_getr X ob_85 rfl rfl hin_X9 50 (Nat.le_of_ble_eq_true rfl) tw_1366 rfl dX9_add_77 ?_
    refine V_gload_n X dX9_add_80 rfl rfl ?_
    refine V_geti X ob_85 rfl rfl hin_X9 51 (Nat.le_of_ble_eq_true rfl) tw_1367 rfl dX9_add_81 ?_
    refine V_iload X dX9_add_84 rfl ?_
    refine V_iast X ar_119 dX9_add_86 hf (fun hf => ?_)
    refine V_gload_n X dX9_add_87 rfl rfl ?_
    refine V_dup X dX9_add_88 rfl ?_
    refine V_geti X ob_85 rfl rfl hin_X9 51 (Nat.le_of_ble_eq_true rfl) tw_1367 rfl dX9_add_89 ?_
    refine V_iconst X dX9_add_92 ?_
    refine V_iadd X dX9_add_93 ?_
    refine V_puti X ob_85 rfl rfl hin_X9 51 (Nat.le_of_ble_eq_true rfl) tw_1367 tyX9 tyX9_ok nmX9 rfl (by decide +kernel) rfl dX9_add_94 ?_
    refine V_gload_n X dX9_add_97 rfl rfl ?_
    refine V_geti X ob_85 rfl rfl hin_X9 51 (Nat.le_of_ble_eq_true rfl) tw_1367 rfl dX9_add_98 ?_
    refine V_iconst X dX9_add_101 ?_
    refine V_isub X dX9_add_102 ?_
    exact V_iret X hE dX9_add_103 hf
  · refine V_iconst X dX9_add_22 ?_
    exact V_iret X hE dX9_add_23 hf
set_option maxRecDepth 20000 in
theorem m_X9_add {G : GG} {a1 : Int} {a2 : Int} {a3 : Int} {a4 : Int} {a5 : Int} {a6 : Int} {w : WS} {q : (Int × WS)}  (hf : f_X9_add a1 a2 a3 a4 a5 a6 w = some q) : MI G yX9_add cX9_add 7 (some .int) rmX9_add [gr G 85, vi a1, vi a2, vi a3, vi a4, vi a5, vi a6] w q := by
  refine MI_of (by decide +kernel) (Nat.le_of_ble_eq_true rfl) (fun E X hE => ?_)
  have X : Cx G E cX9_add RX9 (some .int) rmX9_add 7 := X
  unfold f_X9_add at hf
  refine V_gload_n X dX9_add_0 rfl rfl ?_
  refine V_gload_n X dX9_add_1 rfl rfl ?_
  refine V_geti X ob_85 rfl rfl hin_X9 51 (Nat.le_of_ble_eq_true rfl) tw_1367 rfl dX9_add_2 ?_
  refine V_bipush X dX9_add_5 (by decide) ?_
  refine V_icmp_ne X (tgt := 14) dX9_add_7 (by decide) hf (fun hf => ?_) (fun hf => ?_)
  · refine V_iconst X dX9_add_10 ?_
    refine V_goto X (tgt := 15) dX9_add_11 (by decide) ?_
    exact V_cut [0, 1, 2, 3, 4, 5, 6] rfl (v_X9_add_15 X hE hf)
  · refine V_iconst X dX9_add_14 ?_
    exact V_cut [0, 1, 2, 3, 4, 5, 6] rfl (v_X9_add_15 X hE hf)
abbrev rmX9_assign_ : Room := { frames := 2, cells := 0, slots := 0, locals := 48 }
set_option maxRecDepth 20000 in
theorem v_X9_assign__54 {G : GG} {E : EE} (X : Cx G E cX9_assign_ RX9 (some .int) rmX9_assign_ 5) {q : (Int × WS)} (hE : EndI G E q)   {a1 a2 a3 a4 s0 : Int} {w : WS} (hf : f_X9_assign__54   a1 a2 a3 a4 s0 w = some q) : VV G E 0 0 54 [(0, gr G 85), (1, vi a1), (2, vi a2), (3, vi a3), (4, vi a4)] [vi s0, gr G 85] w := by
  unfold f_X9_assign__54 at hf
  refine V_iconst X dX9_assign__54 ?_
  refine V_cVI X hf [vi s0, vi 2] _ 2 (fun _ h => m_X9_fails h) ob_85 rfl tw_1580 tw_95 tw_1577 tw_1579 tw_38 dX9_assign__55 ⟨by decide +kernel, by decide +kernel, by decide +kernel⟩ ⟨rfl, rfl⟩ ⟨Nat.le_of_ble_eq_true rfl, Nat.le_of_ble_eq_true rfl⟩ rfl (Nat.le_of_ble_eq_true rfl) ⟨Nat.zero_le _, Nat.zero_le _⟩ (fun r4 w4 hf => ?_)
  refine V_if_eq X (tgt := 63) dX9_assign__58 (by decide) hf (fun hf => ?_) (fun hf => ?_)
  · refine V_gload_n X dX9_assign__63 rfl rfl ?_
    refine V_bipush X dX9_assign__64 (by decide) ?_
    refine V_iload_n X dX9_assign__66 rfl rfl ?_
    refine V_iconst X dX9_assign__67 ?_
    refine V_iload_n X dX9_assign__68 rfl rfl ?_
    refine V_iload_n X dX9_assign__69 rfl rfl ?_
    refine V_iload X dX9_assign__70 rfl ?_
    refine V_cVI X hf [vi 97, vi a1, vi (-1), vi a2, vi a3, vi a4] _ 6 (fun _ h => m_X9_add h) ob_85 rfl tw_1644 tw_95 tw_1641 tw_1643 tw_42 dX9_assign__72 ⟨by decide +kernel, by decide +kernel, by decide +kernel⟩ ⟨rfl, rfl⟩ ⟨Nat.le_of_ble_eq_true rfl, Nat.le_of_ble_eq_true rfl⟩ rfl (Nat.le_of_ble_eq_true rfl) ⟨Nat.zero_le _, Nat.zero_le _⟩ (fun r5 w5 hf => ?_)
    exact V_iret X hE dX9_assign__75 hf
  · refine V_iconst X dX9_assign__61 ?_
    exact V_iret X hE dX9_assign__62 hf
set_option maxRecDepth 20000 in
theorem v_X9_assign__49 {G : GG} {E : EE} (X : Cx G E cX9_assign_ RX9 (some .int) rmX9_assign_ 5) {q : (Int × WS)} (hE : EndI G E q)   {a1 a2 a3 a4 : Int} {w : WS} (hf : f_X9_assign__49   a1 a2 a3 a4 w = some q) : VV G E 0 0 49 [(0, gr G 85), (1, vi a1), (2, vi a2), (3, vi a3), (4, vi a4)] [gr G 85] w := by
  unfold f_X9_assign__49 at hf
  refine V_iconst X dX9_assign__49 ?_
  refine V_goto X (tgt := 54) dX9_assign__50 (by decide) ?_
  exact V_cut [0, 1, 2, 3, 4] rfl (v_X9_assign__54 X hE hf)
set_option maxRecDepth 20000 in
theorem v_X9_assign__26 {G : GG} {E : EE} (X : Cx G E cX9_assign_ RX9 (some .int) rmX9_assign_ 5) {q : (Int × WS)} (hE : EndI G E q)   {a1 a2 a3 a4 s0 : Int} {w : WS} (hf : f_X9_assign__26   a1 a2 a3 a4 s0 w = some q) : VV G E 0 0 26 [(0, gr G 85), (1, vi a1), (2, vi a2), (3, vi a3), (4, vi a4)] [vi s0, gr G 85] w := by
  unfold f_X9_assign__26 at hf
  refine V_iconst X dX9_assign__26 ?_
  refine V_cVI X hf [vi s0, vi 1] _ 2 (fun _ h => m_X9_fails h) ob_85 rfl tw_1580 tw_95 tw_1577 tw_1579 tw_38 dX9_assign__27 ⟨by decide +kernel, by decide +kernel, by decide +kernel⟩ ⟨rfl, rfl⟩ ⟨Nat.le_of_ble_eq_true rfl, Nat.le_of_ble_eq_true rfl⟩ rfl (Nat.le_of_ble_eq_true rfl) ⟨Nat.zero_le _, Nat.zero_le _⟩ (fun r2 w2 hf => ?_)
  refine V_if_ne X (tgt := 61) dX9_assign__30 (by decide) hf (fun hf => ?_) (fun hf => ?_)
  · refine V_gload_n X dX9_assign__33 rfl rfl ?_
    refine V_iload_n X dX9_assign__34 rfl rfl ?_
    refine V_cSI X hf [vi a3] _ 1 (fun _ h => m_X9_isWay h) tw_1638 tw_95 tw_1636 tw_1637 dX9_assign__35 ⟨by decide +kernel, by decide +kernel, by decide +kernel⟩ ⟨rfl, rfl⟩ ⟨Nat.le_of_ble_eq_true rfl, Nat.le_of_ble_eq_true rfl⟩ rfl (Nat.le_of_ble_eq_true rfl) ⟨Nat.zero_le _, Nat.zero_le _⟩ (fun r3 w3 hf => ?_)
    refine V_if_eq X (tgt := 49) dX9_assign__38 (by decide) hf (fun hf => ?_) (fun hf => ?_)
    · exact V_cut [0, 1, 2, 3, 4] rfl (v_X9_assign__49 X hE hf)
    · refine V_iload X dX9_assign__41 rfl ?_
      refine V_cSI X hf [vi a4] _ 1 (fun _ h => m_X9_isWay h) tw_1638 tw_95 tw_1636 tw_1637 dX9_assign__43 ⟨by decide +kernel, by decide +kernel, by decide +kernel⟩ ⟨rfl, rfl⟩ ⟨Nat.le_of_ble_eq_true rfl, Nat.le_of_ble_eq_true rfl⟩ rfl (Nat.le_of_ble_eq_true rfl) ⟨Nat.zero_le _, Nat.zero_le _⟩ (fun r6 w6 hf => ?_)
      refine V_if_ne X (tgt := 53) dX9_assign__46 (by decide) hf (fun hf => ?_) (fun hf => ?_)
      · exact V_cut [0, 1, 2, 3, 4] rfl (v_X9_assign__49 X hE hf)
      · refine V_iconst X dX9_assign__53 ?_
        exact V_cut [0, 1, 2, 3, 4] rfl (v_X9_assign__54 X hE hf)
  · refine V_iconst X dX9_assign__61 ?_
    exact V_iret X hE dX9_assign__62 hf
set_option maxRecDepth 20000 in
theorem v_X9_assign__21 {G : GG} {E : EE} (X : Cx G E cX9_assign_ RX9 (some .int) rmX9_assign_ 5) {q : (Int × WS)} (hE : EndI G E q)   {a1 a2 a3 a4 : Int} {w : WS} (hf : f_X9_assign__21   a1 a2 a3 a4 w = some q) : VV G E 0 0 21 [(0, gr G 85), (1, vi a1), (2, vi a2), (3, vi a3), (4, vi a4)] [gr G 85] w := by
  unfold f_X9_assign__21 at hf
  refine V_iconst X dX9_assign__21 ?_
  refine V_goto X (tgt := 26) dX9_assign__22 (by decide) ?_
  exact V_cut [0, 1, 2, 3, 4] rfl (v_X9_assign__26 X hE hf)
set_option maxRecDepth 20000 in
theorem m_X9_assign_ {G : GG} {a1 : Int} {a2 : Int} {a3 : Int} {a4 : Int} {w : WS} {q : (Int × WS)}  (hf : f_X9_assign_ a1 a2 a3 a4 w = some q) : MI G yX9_assign_ cX9_assign_ 5 (some .int) rmX9_assign_ [gr G 85, vi a1, vi a2, vi a3, vi a4] w q := by
  refine MI_of (by decide +kernel) (Nat.le_of_ble_eq_true rfl) (fun E X hE => ?_)
  have X : Cx G E cX9_assign_ RX9 (some .int) rmX9_assign_ 5 := X
  unfold f_X9_assign_ at hf
  refine V_gload_n X dX9_assign__0 rfl rfl ?_
  refine V_iconst X dX9_assign__1 ?_
  refine V_puti X ob_85 rfl rfl hin_X9 0 (Nat.le_of_ble_eq_true rfl) tw_1316 tyX9 tyX9_ok nmX9 rfl (by decide +kernel) rfl dX9_assign__2 ?_
  refine V_gload_n X dX9_assign__5 rfl rfl ?_
  refine V_iload_n X dX9_assign__6 rfl rfl ?_
  refine V_cSI X hf [vi a1] _ 1 (fun _ h => m_X9_isVariable h) tw_1595 tw_95 tw_1593 tw_1594 dX9_assign__7 ⟨by decide +kernel, by decide +kernel, by decide +kernel⟩ ⟨rfl, rfl⟩ ⟨Nat.le_of_ble_eq_true rfl, Nat.le_of_ble_eq_true rfl⟩ rfl (Nat.le_of_ble_eq_true rfl) ⟨Nat.zero_le _, Nat.zero_le _⟩ (fun r1 w1 hf => ?_)
  refine V_if_eq X (tgt := 21) dX9_assign__10 (by decide) hf (fun hf => ?_) (fun hf => ?_)
  · exact V_cut [0, 1, 2, 3, 4] rfl (v_X9_assign__21 X hE hf)
  · refine V_gload_n X dX9_assign__13 rfl rfl ?_
    refine V_iload_n X dX9_assign__14 rfl rfl ?_
    refine V_cVI X hf [vi a2] _ 1 (fun _ h => m_X9_isTerm h) ob_85 rfl tw_1631 tw_95 tw_1628 tw_1630 tw_41 dX9_assign__15 ⟨by decide +kernel, by decide +kernel, by decide +kernel⟩ ⟨rfl, rfl⟩ ⟨Nat.le_of_ble_eq_true rfl, Nat.le_of_ble_eq_true rfl⟩ rfl (Nat.le_of_ble_eq_true rfl) ⟨Nat.zero_le _, Nat.zero_le _⟩ (fun r7 w7 hf => ?_)
    refine V_if_ne X (tgt := 25) dX9_assign__18 (by decide) hf (fun hf => ?_) (fun hf => ?_)
    · exact V_cut [0, 1, 2, 3, 4] rfl (v_X9_assign__21 X hE hf)
    · refine V_iconst X dX9_assign__25 ?_
      exact V_cut [0, 1, 2, 3, 4] rfl (v_X9_assign__26 X hE hf)
abbrev rmX9_scan : Room := { frames := 2, cells := 0, slots := 0, locals := 48 }
set_option maxRecDepth 20000 in
theorem v_X9_scan_68 {G : GG} {E : EE} (X : Cx G E cX9_scan RX9 (some .int) rmX9_scan 6) {q : (Int × WS)} (hE : EndI G E q)   {a1 a2 a3 a4 a5 s0 : Int} {w : WS} (hf : f_X9_scan_68   a1 a2 a3 a4 a5 s0 w = some q) : VV G E 0 0 68 [(0, gr G 85), (1, vi a1), (2, vi a2), (3, vi a3), (4, vi a4), (5, vi a5)] [vi s0, gr G 85] w := by
  unfold f_X9_scan_68 at hf
  refine V_iconst X dX9_scan_68 ?_
  refine V_cVI X hf [vi s0, vi 2] _ 2 (fun _ h => m_X9_fails h) ob_85 rfl tw_1580 tw_95 tw_1577 tw_1579 tw_38 dX9_scan_69 ⟨by decide +kernel, by decide +kernel, by decide +kernel⟩ ⟨rfl, rfl⟩ ⟨Nat.le_of_ble_eq_true rfl, Nat.le_of_ble_eq_true rfl⟩ rfl (Nat.le_of_ble_eq_true rfl) ⟨Nat.zero_le _, Nat.zero_le _⟩ (fun r4 w4 hf => ?_)
  refine V_if_eq X (tgt := 77) dX9_scan_72 (by decide) hf (fun hf => ?_) (fun hf => ?_)
  · refine V_gload_n X dX9_scan_77 rfl rfl ?_
    refine V_bipush X dX9_scan_78 (by decide) ?_
    refine V_iload_n X dX9_scan_80 rfl rfl ?_
    refine V_iload_n X dX9_scan_81 rfl rfl ?_
    refine V_iload_n X dX9_scan_82 rfl rfl ?_
    refine V_iload X dX9_scan_83 rfl ?_
    refine V_iload X dX9_scan_85 rfl ?_
    refine V_cVI X hf [vi 115, vi a1, vi a2, vi a3, vi a4, vi a5] _ 6 (fun _ h => m_X9_add h) ob_85 rfl tw_1644 tw_95 tw_1641 tw_1643 tw_42 dX9_scan_87 ⟨by decide +kernel, by decide +kernel, by decide +kernel⟩ ⟨rfl, rfl⟩ ⟨Nat.le_of_ble_eq_true rfl, Nat.le_of_ble_eq_true rfl⟩ rfl (Nat.le_of_ble_eq_true rfl) ⟨Nat.zero_le _, Nat.zero_le _⟩ (fun r5 w5 hf => ?_)
    exact V_iret X hE dX9_scan_90 hf
  · refine V_iconst X dX9_scan_75 ?_
    exact V_iret X hE dX9_scan_76 hf
set_option maxRecDepth 20000 in
theorem v_X9_scan_63 {G : GG} {E : EE} (X : Cx G E cX9_scan RX9 (some .int) rmX9_scan 6) {q : (Int × WS)} (hE : EndI G E q)   {a1 a2 a3 a4 a5 : Int} {w : WS} (hf : f_X9_scan_63   a1 a2 a3 a4 a5 w = some q) : VV G E 0 0 63 [(0, gr G 85), (1, vi a1), (2, vi a2), (3, vi a3), (4, vi a4), (5, vi a5)] [gr G 85] w := by
  unfold f_X9_scan_63 at hf
  refine V_iconst X dX9_scan_63 ?_
  refine V_goto X (tgt := 68) dX9_scan_64 (by decide) ?_
  exact V_cut [0, 1, 2, 3, 4, 5] rfl (v_X9_scan_68 X hE hf)
set_option maxRecDepth 20000 in
theorem v_X9_scan_39 {G : GG} {E : EE} (X : Cx G E cX9_scan RX9 (some .int) rmX9_scan 6) {q : (Int × WS)} (hE : EndI G E q)   {a1 a2 a3 a4 a5 s0 : Int} {w : WS} (hf : f_X9_scan_39   a1 a2 a3 a4 a5 s0 w = some q) : VV G E 0 0 39 [(0, gr G 85), (1, vi a1), (2, vi a2), (3, vi a3), (4, vi a4), (5, vi a5)] [vi s0, gr G 85] w := by
  unfold f_X9_scan_39 at hf
  refine V_iconst X dX9_scan_39 ?_
  refine V_cVI X hf [vi s0, vi 1] _ 2 (fun _ h => m_X9_fails h) ob_85 rfl tw_1580 tw_95 tw_1577 tw_1579 tw_38 dX9_scan_40 ⟨by decide +kernel, by decide +kernel, by decide +kernel⟩ ⟨rfl, rfl⟩ ⟨Nat.le_of_ble_eq_true rfl, Nat.le_of_ble_eq_true rfl⟩ rfl (Nat.le_of_ble_eq_true rfl) ⟨Nat.zero_le _, Nat.zero_le _⟩ (fun r2 w2 hf => ?_)
  refine V_if_ne X (tgt := 75) dX9_scan_43 (by decide) hf (fun hf => ?_) (fun hf => ?_)
  · refine V_gload_n X dX9_scan_46 rfl rfl ?_
    refine V_iload X dX9_scan_47 rfl ?_
    refine V_cSI X hf [vi a4] _ 1 (fun _ h => m_X9_isWay h) tw_1638 tw_95 tw_1636 tw_1637 dX9_scan_49 ⟨by decide +kernel, by decide +kernel, by decide +kernel⟩ ⟨rfl, rfl⟩ ⟨Nat.le_of_ble_eq_true rfl, Nat.le_of_ble_eq_true rfl⟩ rfl (Nat.le_of_ble_eq_true rfl) ⟨Nat.zero_le _, Nat.zero_le _⟩ (fun r3 w3 hf => ?_)
    refine V_if_eq X (tgt := 63) dX9_scan_52 (by decide) hf (fun hf => ?_) (fun hf => ?_)
    · exact V_cut [0, 1, 2, 3, 4, 5] rfl (v_X9_scan_63 X hE hf)
    · refine V_iload X dX9_scan_55 rfl ?_
      refine V_cSI X hf [vi a5] _ 1 (fun _ h => m_X9_isWay h) tw_1638 tw_95 tw_1636 tw_1637 dX9_scan_57 ⟨by decide +kernel, by decide +kernel, by decide +kernel⟩ ⟨rfl, rfl⟩ ⟨Nat.le_of_ble_eq_true rfl, Nat.le_of_ble_eq_true rfl⟩ rfl (Nat.le_of_ble_eq_true rfl) ⟨Nat.zero_le _, Nat.zero_le _⟩ (fun r6 w6 hf => ?_)
      refine V_if_ne X (tgt := 67) dX9_scan_60 (by decide) hf (fun hf => ?_) (fun hf => ?_)
      · exact V_cut [0, 1, 2, 3, 4, 5] rfl (v_X9_scan_63 X hE hf)
      · refine V_iconst X dX9_scan_67 ?_
        exact V_cut [0, 1, 2, 3, 4, 5] rfl (v_X9_scan_68 X hE hf)
  · refine V_iconst X dX9_scan_75 ?_
    exact V_iret X hE dX9_scan_76 hf
set_option maxRecDepth 20000 in
theorem v_X9_scan_34 {G : GG} {E : EE} (X : Cx G E cX9_scan RX9 (some .int) rmX9_scan 6) {q : (Int × WS)} (hE : EndI G E q)   {a1 a2 a3 a4 a5 : Int} {w : WS} (hf : f_X9_scan_34   a1 a2 a3 a4 a5 w = some q) : VV G E 0 0 34 [(0, gr G 85), (1, vi a1), (2, vi a2), (3, vi a3), (4, vi a4), (5, vi a5)] [gr G 85] w := by
  unfold f_X9_scan_34 at hf
  refine V_iconst X dX9_scan_34 ?_
  refine V_goto X (tgt := 39) dX9_scan_35 (by decide) ?_
  exact V_cut [0, 1, 2, 3, 4, 5] rfl (v_X9_scan_39 X hE hf)
set_option maxRecDepth 20000 in
theorem v_X9_scan_38 {G : GG} {E : EE} (X : Cx G E cX9_scan RX9 (some .int) rmX9_scan 6) {q : (Int × WS)} (hE : EndI G E q)   {a1 a2 a3 a4 a5 : Int} {w : WS} (hf : f_X9_scan_38   a1 a2 a3 a4 a5 w = some q) : VV G E 0 0 38 [(0, gr G 85), (1, vi a1), (2, vi a2), (3, vi a3), (4, vi a4), (5, vi a5)] [gr G 85] w := by
  unfold f_X9_scan_38 at hf
  refine V_iconst X dX9_scan_38 ?_
  exact V_cut [0, 1, 2, 3, 4, 5] rfl (v_X9_scan_39 X hE hf)
set_option maxRecDepth 20000 in
theorem m_X9_scan {G : GG} {a1 : Int} {a2 : Int} {a3 : Int} {a4 : Int} {a5 : Int} {w : WS} {q : (Int × WS)}  (hf : f_X9_scan a1 a2 a3 a4 a5 w = some q) : MI G yX9_scan cX9_scan 6 (some .int) rmX9_scan [gr G 85, vi a1, vi a2, vi a3, vi a4, vi a5] w q := by
  refine MI_of (by decide +kernel) (Nat.le_of_ble_eq_true rfl) (fun E X hE => ?_)
  have X : Cx G E cX9_scan RX9 (some .int) rmX9_scan 6 := X
  unfold f_X9_scan at hf
  refine V_gload_n X dX9_scan_0 rfl rfl ?_
  refine V_iconst X dX9_scan_1 ?_
  refine V_puti X ob_85 rfl rfl hin_X9 0 (Nat.le_of_ble_eq_true rfl) tw_1316 tyX9 tyX9_ok nmX9 rfl (by decide +kernel) rfl dX9_scan_2 ?_
  refine V_gload_n X dX9_scan_5 rfl rfl ?_
  refine V_iload_n X dX9_scan_6 rfl rfl ?_
  refine V_cSI X hf [vi a1] _ 1 (fun _ h => m_X9_isVariable h) tw_1595 tw_95 tw_1593 tw_1594 dX9_scan_7 ⟨by decide +kernel, by decide +kernel, by decide +kernel⟩ ⟨rfl, rfl⟩ ⟨Nat.le_of_ble_eq_true rfl, Nat.le_of_ble_eq_true rfl⟩ rfl (Nat.le_of_ble_eq_true rfl) ⟨Nat.zero_le _, Nat.zero_le _⟩ (fun r1 w1 hf => ?_)
  refine V_if_eq X (tgt := 34) dX9_scan_10 (by decide) hf (fun hf => ?_) (fun hf => ?_)
  · exact V_cut [0, 1, 2, 3, 4, 5] rfl (v_X9_scan_34 X hE hf)
  · refine V_gload_n X dX9_scan_13 rfl rfl ?_
    refine V_iload_n X dX9_scan_14 rfl rfl ?_
    refine V_cVI X hf [vi a2] _ 1 (fun _ h => m_X9_isPattern h) ob_85 rfl tw_1619 tw_95 tw_1616 tw_1618 tw_40 dX9_scan_15 ⟨by decide +kernel, by decide +kernel, by decide +kernel⟩ ⟨rfl, rfl⟩ ⟨Nat.le_of_ble_eq_true rfl, Nat.le_of_ble_eq_true rfl⟩ rfl (Nat.le_of_ble_eq_true rfl) ⟨Nat.zero_le _, Nat.zero_le _⟩ (fun r7 w7 hf => ?_)
    refine V_if_eq X (tgt := 34) dX9_scan_18 (by decide) hf (fun hf => ?_) (fun hf => ?_)
    · exact V_cut [0, 1, 2, 3, 4, 5] rfl (v_X9_scan_34 X hE hf)
    · refine V_iload_n X dX9_scan_21 rfl rfl ?_
      refine V_iconst X dX9_scan_22 ?_
      refine V_icmp_eq X (tgt := 38) dX9_scan_23 (by decide) hf (fun hf => ?_) (fun hf => ?_)
      · exact V_cut [0, 1, 2, 3, 4, 5] rfl (v_X9_scan_38 X hE hf)
      · refine V_gload_n X dX9_scan_26 rfl rfl ?_
        refine V_iload_n X dX9_scan_27 rfl rfl ?_
        refine V_cVI X hf [vi a3] _ 1 (fun _ h => m_X9_isTerm h) ob_85 rfl tw_1631 tw_95 tw_1628 tw_1630 tw_41 dX9_scan_28 ⟨by decide +kernel, by decide +kernel, by decide +kernel⟩ ⟨rfl, rfl⟩ ⟨Nat.le_of_ble_eq_true rfl, Nat.le_of_ble_eq_true rfl⟩ rfl (Nat.le_of_ble_eq_true rfl) ⟨Nat.zero_le _, Nat.zero_le _⟩ (fun r8 w8 hf => ?_)
        refine V_if_ne X (tgt := 38) dX9_scan_31 (by decide) hf (fun hf => ?_) (fun hf => ?_)
        · exact V_cut [0, 1, 2, 3, 4, 5] rfl (v_X9_scan_34 X hE hf)
        · exact V_cut [0, 1, 2, 3, 4, 5] rfl (v_X9_scan_38 X hE hf)
abbrev rmX9_call : Room := { frames := 2, cells := 0, slots := 0, locals := 48 }
set_option maxRecDepth 20000 in
theorem v_X9_call_67 {G : GG} {E : EE} (X : Cx G E cX9_call RX9 (some .int) rmX9_call 6) {q : (Int × WS)} (hE : EndI G E q)   {a1 a2 a3 a4 a5 s0 : Int} {w : WS} (hf : f_X9_call_67   a1 a2 a3 a4 a5 s0 w = some q) : VV G E 0 0 67 [(0, gr G 85), (1, vi a1), (2, vi a2), (3, vi a3), (4, vi a4), (5, vi a5)] [vi s0, gr G 85] w := by
  unfold f_X9_call_67 at hf
  refine V_iconst X dX9_call_67 ?_
  refine V_cVI X hf [vi s0, vi 2] _ 2 (fun _ h => m_X9_fails h) ob_85 rfl tw_1580 tw_95 tw_1577 tw_1579 tw_38 dX9_call_68 ⟨by decide +kernel, by decide +kernel, by decide +kernel⟩ ⟨rfl, rfl⟩ ⟨Nat.le_of_ble_eq_true rfl, Nat.le_of_ble_eq_true rfl⟩ rfl (Nat.le_of_ble_eq_true rfl) ⟨Nat.zero_le _, Nat.zero_le _⟩ (fun r4 w4 hf => ?_)
  refine V_if_eq X (tgt := 76) dX9_call_71 (by decide) hf (fun hf => ?_) (fun hf => ?_)
  · refine V_gload_n X dX9_call_76 rfl rfl ?_
    refine V_bipush X dX9_call_77 (by decide) ?_
    refine V_iload_n X dX9_call_79 rfl rfl ?_
    refine V_iload_n X dX9_call_80 rfl rfl ?_
    refine V_iload_n X dX9_call_81 rfl rfl ?_
    refine V_iload X dX9_call_82 rfl ?_
    refine V_iload X dX9_call_84 rfl ?_
    refine V_cVI X hf [vi 99, vi a1, vi a2, vi a3, vi a4, vi a5] _ 6 (fun _ h => m_X9_add h) ob_85 rfl tw_1644 tw_95 tw_1641 tw_1643 tw_42 dX9_call_86 ⟨by decide +kernel, by decide +kernel, by decide +kernel⟩ ⟨rfl, rfl⟩ ⟨Nat.le_of_ble_eq_true rfl, Nat.le_of_ble_eq_true rfl⟩ rfl (Nat.le_of_ble_eq_true rfl) ⟨Nat.zero_le _, Nat.zero_le _⟩ (fun r5 w5 hf => ?_)
    exact V_iret X hE dX9_call_89 hf
  · refine V_iconst X dX9_call_74 ?_
    exact V_iret X hE dX9_call_75 hf
set_option maxRecDepth 20000 in
theorem v_X9_call_62 {G : GG} {E : EE} (X : Cx G E cX9_call RX9 (some .int) rmX9_call 6) {q : (Int × WS)} (hE : EndI G E q)   {a1 a2 a3 a4 a5 : Int} {w : WS} (hf : f_X9_call_62   a1 a2 a3 a4 a5 w = some q) : VV G E 0 0 62 [(0, gr G 85), (1, vi a1), (2, vi a2), (3, vi a3), (4, vi a4), (5, vi a5)] [gr G 85] w := by
  unfold f_X9_call_62 at hf
  refine V_iconst X dX9_call_62 ?_
  refine V_goto X (tgt := 67) dX9_call_63 (by decide) ?_
  exact V_cut [0, 1, 2, 3, 4, 5] rfl (v_X9_call_67 X hE hf)
set_option maxRecDepth 20000 in
theorem v_X9_call_26 {G : GG} {E : EE} (X : Cx G E cX9_call RX9 (some .int) rmX9_call 6) {q : (Int × WS)} (hE : EndI G E q)   {a1 a2 a3 a4 a5 s0 : Int} {w : WS} (hf : f_X9_call_26   a1 a2 a3 a4 a5 s0 w = some q) : VV G E 0 0 26 [(0, gr G 85), (1, vi a1), (2, vi a2), (3, vi a3), (4, vi a4), (5, vi a5)] [vi s0, gr G 85] w := by
  unfold f_X9_call_26 at hf
  refine V_iconst X dX9_call_26 ?_
  refine V_cVI X hf [vi s0, vi 1] _ 2 (fun _ h => m_X9_fails h) ob_85 rfl tw_1580 tw_95 tw_1577 tw_1579 tw_38 dX9_call_27 ⟨by decide +kernel, by decide +kernel, by decide +kernel⟩ ⟨rfl, rfl⟩ ⟨Nat.le_of_ble_eq_true rfl, Nat.le_of_ble_eq_true rfl⟩ rfl (Nat.le_of_ble_eq_true rfl) ⟨Nat.zero_le _, Nat.zero_le _⟩ (fun r2 w2 hf => ?_)
  refine V_if_ne X (tgt := 74) dX9_call_30 (by decide) hf (fun hf => ?_) (fun hf => ?_)
  · refine V_gload_n X dX9_call_33 rfl rfl ?_
    refine V_iload_n X dX9_call_34 rfl rfl ?_
    refine V_i2l X dX9_call_35 ?_
    refine V_lconst (a := 0) X dX9_call_36 (by decide) ?_
    refine V_ldc2 (a := 4) X tw_1653 dX9_call_37 (by decide) ?_
    refine V_cSI X hf [vl (wr a2), vl 0, vl 4] _ 3 (fun _ h => m_X9_in h) tw_1574 tw_95 tw_1572 tw_1573 dX9_call_40 ⟨by decide +kernel, by decide +kernel, by decide +kernel⟩ ⟨rfl, rfl⟩ ⟨Nat.le_of_ble_eq_true rfl, Nat.le_of_ble_eq_true rfl⟩ rfl (Nat.le_of_ble_eq_true rfl) ⟨Nat.zero_le _, Nat.zero_le _⟩ (fun r3 w3 hf => ?_)
    refine V_if_eq X (tgt := 62) dX9_call_43 (by decide) hf (fun hf => ?_) (fun hf => ?_)
    · exact V_cut [0, 1, 2, 3, 4, 5] rfl (v_X9_call_62 X hE hf)
    · refine V_iload X dX9_call_46 rfl ?_
      refine V_cSI X hf [vi a4] _ 1 (fun _ h => m_X9_isWay h) tw_1638 tw_95 tw_1636 tw_1637 dX9_call_48 ⟨by decide +kernel, by decide +kernel, by decide +kernel⟩ ⟨rfl, rfl⟩ ⟨Nat.le_of_ble_eq_true rfl, Nat.le_of_ble_eq_true rfl⟩ rfl (Nat.le_of_ble_eq_true rfl) ⟨Nat.zero_le _, Nat.zero_le _⟩ (fun r6 w6 hf => ?_)
      refine V_if_eq X (tgt := 62) dX9_call_51 (by decide) hf (fun hf => ?_) (fun hf => ?_)
      · exact V_cut [0, 1, 2, 3, 4, 5] rfl (v_X9_call_62 X hE hf)
      · refine V_iload X dX9_call_54 rfl ?_
        refine V_cSI X hf [vi a5] _ 1 (fun _ h => m_X9_isWay h) tw_1638 tw_95 tw_1636 tw_1637 dX9_call_56 ⟨by decide +kernel, by decide +kernel, by decide +kernel⟩ ⟨rfl, rfl⟩ ⟨Nat.le_of_ble_eq_true rfl, Nat.le_of_ble_eq_true rfl⟩ rfl (Nat.le_of_ble_eq_true rfl) ⟨Nat.zero_le _, Nat.zero_le _⟩ (fun r7 w7 hf => ?_)
        refine V_if_ne X (tgt := 66) dX9_call_59 (by decide) hf (fun hf => ?_) (fun hf => ?_)
        · exact V_cut [0, 1, 2, 3, 4, 5] rfl (v_X9_call_62 X hE hf)
        · refine V_iconst X dX9_call_66 ?_
          exact V_cut [0, 1, 2, 3, 4, 5] rfl (v_X9_call_67 X hE hf)
  · refine V_iconst X dX9_call_74 ?_
    exact V_iret X hE dX9_call_75 hf
set_option maxRecDepth 20000 in
theorem v_X9_call_21 {G : GG} {E : EE} (X : Cx G E cX9_call RX9 (some .int) rmX9_call 6) {q : (Int × WS)} (hE : EndI G E q)   {a1 a2 a3 a4 a5 : Int} {w : WS} (hf : f_X9_call_21   a1 a2 a3 a4 a5 w = some q) : VV G E 0 0 21 [(0, gr G 85), (1, vi a1), (2, vi a2), (3, vi a3), (4, vi a4), (5, vi a5)] [gr G 85] w := by
  unfold f_X9_call_21 at hf
  refine V_iconst X dX9_call_21 ?_
  refine V_goto X (tgt := 26) dX9_call_22 (by decide) ?_
  exact V_cut [0, 1, 2, 3, 4, 5] rfl (v_X9_call_26 X hE hf)
set_option maxRecDepth 20000 in
theorem m_X9_call {G : GG} {a1 : Int} {a2 : Int} {a3 : Int} {a4 : Int} {a5 : Int} {w : WS} {q : (Int × WS)}  (hf : f_X9_call a1 a2 a3 a4 a5 w = some q) : MI G yX9_call cX9_call 6 (some .int) rmX9_call [gr G 85, vi a1, vi a2, vi a3, vi a4, vi a5] w q := by
  refine MI_of (by decide +kernel) (Nat.le_of_ble_eq_true rfl) (fun E X hE => ?_)
  have X : Cx G E cX9_call RX9 (some .int) rmX9_call 6 := X
  unfold f_X9_call at hf
  refine V_gload_n X dX9_call_0 rfl rfl ?_
  refine V_iconst X dX9_call_1 ?_
  refine V_puti X ob_85 rfl rfl hin_X9 0 (Nat.le_of_ble_eq_true rfl) tw_1316 tyX9 tyX9_ok nmX9 rfl (by decide +kernel) rfl dX9_call_2 ?_
  refine V_gload_n X dX9_call_5 rfl rfl ?_
  refine V_iload_n X dX9_call_6 rfl rfl ?_
  refine V_cSI X hf [vi a1] _ 1 (fun _ h => m_X9_isVariable h) tw_1595 tw_95 tw_1593 tw_1594 dX9_call_7 ⟨by decide +kernel, by decide +kernel, by decide +kernel⟩ ⟨rfl, rfl⟩ ⟨Nat.le_of_ble_eq_true rfl, Nat.le_of_ble_eq_true rfl⟩ rfl (Nat.le_of_ble_eq_true rfl) ⟨Nat.zero_le _, Nat.zero_le _⟩ (fun r1 w1 hf => ?_)
  refine V_if_eq X (tgt := 21) dX9_call_10 (by decide) hf (fun hf => ?_) (fun hf => ?_)
  · exact V_cut [0, 1, 2, 3, 4, 5] rfl (v_X9_call_21 X hE hf)
  · refine V_gload_n X dX9_call_13 rfl rfl ?_
    refine V_iload_n X dX9_call_14 rfl rfl ?_
    refine V_cVI X hf [vi a3] _ 1 (fun _ h => m_X9_isTerm h) ob_85 rfl tw_1631 tw_95 tw_1628 tw_1630 tw_41 dX9_call_15 ⟨by decide +kernel, by decide +kernel, by decide +kernel⟩ ⟨rfl, rfl⟩ ⟨Nat.le_of_ble_eq_true rfl, Nat.le_of_ble_eq_true rfl⟩ rfl (Nat.le_of_ble_eq_true rfl) ⟨Nat.zero_le _, Nat.zero_le _⟩ (fun r8 w8 hf => ?_)
    refine V_if_ne X (tgt := 25) dX9_call_18 (by decide) hf (fun hf => ?_) (fun hf => ?_)
    · exact V_cut [0, 1, 2, 3, 4, 5] rfl (v_X9_call_21 X hE hf)
    · refine V_iconst X dX9_call_25 ?_
      exact V_cut [0, 1, 2, 3, 4, 5] rfl (v_X9_call_26 X hE hf)
abbrev rmX9_define : Room := { frames := 2, cells := 0, slots := 0, locals := 45 }
set_option maxRecDepth 20000 in
theorem v_X9_define_102 {G : GG} {E : EE} (X : Cx G E cX9_define RX9 (some .boolean) rmX9_define 8) {q : (Int × WS)} (hE : EndI G E q)   {a1 a2 a3 a4 a5 s0 : Int} {w : WS} (hf : f_X9_define_102   a1 a2 a3 a4 a5 s0 w = some q) : VV G E 0 0 102 [(0, gr G 85), (1, vi a1), (2, vi a2), (3, vi a3), (4, vi a4), (5, vi a5)] [vi s0, gr G 85] w := by
  unfold f_X9_define_102 at hf
  refine V_iconst X dX9_define_102 ?_
  refine V_cVI X hf [vi s0, vi 2] _ 2 (fun _ h => m_X9_fails h) ob_85 rfl tw_1580 tw_95 tw_1577 tw_1579 tw_38 dX9_define_103 ⟨by decide +kernel, by decide +kernel, by decide +kernel⟩ ⟨rfl, rfl⟩ ⟨Nat.le_of_ble_eq_true rfl, Nat.le_of_ble_eq_true rfl⟩ rfl (Nat.le_of_ble_eq_true rfl) ⟨Nat.zero_le _, Nat.zero_le _⟩ (fun r4 w4 hf => ?_)
  refine V_if_eq X (tgt := 111) dX9_define_106 (by decide) hf (fun hf => ?_) (fun hf => ?_)
  · refine V_gload_n X dX9_define_111 rfl rfl ?_
    refine V_getr X ob_85 rfl rfl hin_X9 52 (Nat.le_of_ble_eq_true rfl) tw_1368 rfl dX9_define_112 ?_
    refine V_iload_n X dX9_define_115 rfl rfl ?_
    refine V_zald X ar_120 dX9_define_116 hf (fun hf => ?_)
    refine V_istore X dX9_define_117 (by decide) ?_
    refine V_gload_n X dX9_define_119 rfl rfl ?_
    refine V_getr X ob_85 rfl rfl hin_X9 52 (Nat.le_of_ble_eq_true rfl) tw_1368 rfl dX9_define_120 ?_
    refine V_iload_n X dX9_define_123 rfl rfl ?_
    refine V_iconst X dX9_define_124 ?_
    refine V_zast X ar_120 dX9_define_125 hf (fun hf => ?_)
    refine V_gload_n X dX9_define_126 rfl rfl ?_
    refine V_getr X ob_85 rfl rfl hin_X9 53 (Nat.le_of_ble_eq_true rfl) tw_1369 rfl dX9_define_127 ?_
    refine V_iload_n X dX9_define_130 rfl rfl ?_
    refine V_iload_n X dX9_define_131 rfl rfl ?_
    refine V_iast X ar_121 dX9_define_132 hf (fun hf => ?_)
    refine V_gload_n X dX9_define_133 rfl rfl ?_
    refine V_getr X ob_85 rfl rfl hin_X9 54 (Nat.le_of_ble_eq_true rfl) tw_1370 rfl dX9_define_134 ?_
    refine V_iload_n X dX9_define_137 rfl rfl ?_
    refine V_iload_n X dX9_define_138 rfl rfl ?_
    refine V_iast X ar_122 dX9_define_139 hf (fun hf => ?_)
    refine V_gload_n X dX9_define_140 rfl rfl ?_
    refine V_getr X ob_85 rfl rfl hin_X9 55 (Nat.le_of_ble_eq_true rfl) tw_1371 rfl dX9_define_141 ?_
    refine V_iload_n X dX9_define_144 rfl rfl ?_
    refine V_iload X dX9_define_145 rfl ?_
    refine V_iast X ar_123 dX9_define_147 hf (fun hf => ?_)
    refine V_gload_n X dX9_define_148 rfl rfl ?_
    refine V_getr X ob_85 rfl rfl hin_X9 56 (Nat.le_of_ble_eq_true rfl) tw_1372 rfl dX9_define_149 ?_
    refine V_iload_n X dX9_define_152 rfl rfl ?_
    refine V_iload X dX9_define_153 rfl ?_
    refine V_iast X ar_124 dX9_define_155 hf (fun hf => ?_)
    refine V_iload X dX9_define_156 rfl ?_
    obtain ⟨hz, hf⟩ := ite_n hf
    exact V_zret X hE dX9_define_158 hz hf
  · refine V_iconst X dX9_define_109 ?_
    exact V_zret X hE dX9_define_110 (Or.inl rfl) hf
set_option maxRecDepth 20000 in
theorem v_X9_define_97 {G : GG} {E : EE} (X : Cx G E cX9_define RX9 (some .boolean) rmX9_define 8) {q : (Int × WS)} (hE : EndI G E q)   {a1 a2 a3 a4 a5 : Int} {w : WS} (hf : f_X9_define_97   a1 a2 a3 a4 a5 w = some q) : VV G E 0 0 97 [(0, gr G 85), (1, vi a1), (2, vi a2), (3, vi a3), (4, vi a4), (5, vi a5)] [gr G 85] w := by
  unfold f_X9_define_97 at hf
  refine V_iconst X dX9_define_97 ?_
  refine V_goto X (tgt := 102) dX9_define_98 (by decide) ?_
  exact V_cut [0, 1, 2, 3, 4, 5] rfl (v_X9_define_102 X hE hf)
set_option maxRecDepth 20000 in
theorem v_X9_define_66 {G : GG} {E : EE} (X : Cx G E cX9_define RX9 (some .boolean) rmX9_define 8) {q : (Int × WS)} (hE : EndI G E q)   {a1 a2 a3 a4 a5 s0 : Int} {w : WS} (hf : f_X9_define_66   a1 a2 a3 a4 a5 s0 w = some q) : VV G E 0 0 66 [(0, gr G 85), (1, vi a1), (2, vi a2), (3, vi a3), (4, vi a4), (5, vi a5)] [vi s0, gr G 85] w := by
  unfold f_X9_define_66 at hf
  refine V_iconst X dX9_define_66 ?_
  refine V_cVI X hf [vi s0, vi 1] _ 2 (fun _ h => m_X9_fails h) ob_85 rfl tw_1580 tw_95 tw_1577 tw_1579 tw_38 dX9_define_67 ⟨by decide +kernel, by decide +kernel, by decide +kernel⟩ ⟨rfl, rfl⟩ ⟨Nat.le_of_ble_eq_true rfl, Nat.le_of_ble_eq_true rfl⟩ rfl (Nat.le_of_ble_eq_true rfl) ⟨Nat.zero_le _, Nat.zero_le _⟩ (fun r2 w2 hf => ?_)
  refine V_if_ne X (tgt := 109) dX9_define_70 (by decide) hf (fun hf => ?_) (fun hf => ?_)
  · refine V_gload_n X dX9_define_73 rfl rfl ?_
    refine V_iload_n X dX9_define_74 rfl rfl ?_
    refine V_cSI X hf [vi a3] _ 1 (fun _ h => m_X9_isVariable h) tw_1595 tw_95 tw_1593 tw_1594 dX9_define_75 ⟨by decide +kernel, by decide +kernel, by decide +kernel⟩ ⟨rfl, rfl⟩ ⟨Nat.le_of_ble_eq_true rfl, Nat.le_of_ble_eq_true rfl⟩ rfl (Nat.le_of_ble_eq_true rfl) ⟨Nat.zero_le _, Nat.zero_le _⟩ (fun r3 w3 hf => ?_)
    refine V_if_eq X (tgt := 97) dX9_define_78 (by decide) hf (fun hf => ?_) (fun hf => ?_)
    · exact V_cut [0, 1, 2, 3, 4, 5] rfl (v_X9_define_97 X hE hf)
    · refine V_iload X dX9_define_81 rfl ?_
      refine V_cSI X hf [vi a4] _ 1 (fun _ h => m_X9_isVariable h) tw_1595 tw_95 tw_1593 tw_1594 dX9_define_83 ⟨by decide +kernel, by decide +kernel, by decide +kernel⟩ ⟨rfl, rfl⟩ ⟨Nat.le_of_ble_eq_true rfl, Nat.le_of_ble_eq_true rfl⟩ rfl (Nat.le_of_ble_eq_true rfl) ⟨Nat.zero_le _, Nat.zero_le _⟩ (fun r5 w5 hf => ?_)
      refine V_if_eq X (tgt := 97) dX9_define_86 (by decide) hf (fun hf => ?_) (fun hf => ?_)
      · exact V_cut [0, 1, 2, 3, 4, 5] rfl (v_X9_define_97 X hE hf)
      · refine V_iload X dX9_define_89 rfl ?_
        refine V_cSI X hf [vi a5] _ 1 (fun _ h => m_X9_isVariable h) tw_1595 tw_95 tw_1593 tw_1594 dX9_define_91 ⟨by decide +kernel, by decide +kernel, by decide +kernel⟩ ⟨rfl, rfl⟩ ⟨Nat.le_of_ble_eq_true rfl, Nat.le_of_ble_eq_true rfl⟩ rfl (Nat.le_of_ble_eq_true rfl) ⟨Nat.zero_le _, Nat.zero_le _⟩ (fun r6 w6 hf => ?_)
        refine V_if_ne X (tgt := 101) dX9_define_94 (by decide) hf (fun hf => ?_) (fun hf => ?_)
        · exact V_cut [0, 1, 2, 3, 4, 5] rfl (v_X9_define_97 X hE hf)
        · refine V_iconst X dX9_define_101 ?_
          exact V_cut [0, 1, 2, 3, 4, 5] rfl (v_X9_define_102 X hE hf)
  · refine V_iconst X dX9_define_109 ?_
    exact V_zret X hE dX9_define_110 (Or.inl rfl) hf
set_option maxRecDepth 20000 in
theorem v_X9_define_61 {G : GG} {E : EE} (X : Cx G E cX9_define RX9 (some .boolean) rmX9_define 8) {q : (Int × WS)} (hE : EndI G E q)   {a1 a2 a3 a4 a5 : Int} {w : WS} (hf : f_X9_define_61   a1 a2 a3 a4 a5 w = some q) : VV G E 0 0 61 [(0, gr G 85), (1, vi a1), (2, vi a2), (3, vi a3), (4, vi a4), (5, vi a5)] [gr G 85] w := by
  unfold f_X9_define_61 at hf
  refine V_iconst X dX9_define_61 ?_
  refine V_goto X (tgt := 66) dX9_define_62 (by decide) ?_
  exact V_cut [0, 1, 2, 3, 4, 5] rfl (v_X9_define_66 X hE hf)
set_option maxRecDepth 20000 in
theorem v_X9_define_29 {G : GG} {E : EE} (X : Cx G E cX9_define RX9 (some .boolean) rmX9_define 8) {q : (Int × WS)} (hE : EndI G E q)   {a1 a2 a3 a4 a5 s0 : Int} {w : WS} (hf : f_X9_define_29   a1 a2 a3 a4 a5 s0 w = some q) : VV G E 0 0 29 [(0, gr G 85), (1, vi a1), (2, vi a2), (3, vi a3), (4, vi a4), (5, vi a5)] [vi s0] w := by
  unfold f_X9_define_29 at hf
  refine V_istore X dX9_define_29 (by decide) ?_
  refine V_gload_n X dX9_define_31 rfl rfl ?_
  refine V_iload_n X dX9_define_32 rfl rfl ?_
  refine V_i2l X dX9_define_33 ?_
  refine V_lconst (a := 0) X dX9_define_34 (by decide) ?_
  refine V_ldc2 (a := 4) X tw_1653 dX9_define_35 (by decide) ?_
  refine V_cSI X hf [vl (wr a1), vl 0, vl 4] _ 3 (fun _ h => m_X9_in h) tw_1574 tw_95 tw_1572 tw_1573 dX9_define_38 ⟨by decide +kernel, by decide +kernel, by decide +kernel⟩ ⟨rfl, rfl⟩ ⟨Nat.le_of_ble_eq_true rfl, Nat.le_of_ble_eq_true rfl⟩ rfl (Nat.le_of_ble_eq_true rfl) ⟨Nat.zero_le _, Nat.zero_le _⟩ (fun r1 w1 hf => ?_)
  refine V_if_eq X (tgt := 61) dX9_define_41 (by decide) hf (fun hf => ?_) (fun hf => ?_)
  · exact V_cut [0, 1, 2, 3, 4, 5] rfl (v_X9_define_61 X hE hf)
  · refine V_iload_n X dX9_define_44 rfl rfl ?_
    refine V_i2l X dX9_define_45 ?_
    refine V_lconst (a := 0) X dX9_define_46 (by decide) ?_
    refine V_ldc2 (a := 39) X tw_1640 dX9_define_47 (by decide) ?_
    refine V_cSI X hf [vl (wr a2), vl 0, vl 39] _ 3 (fun _ h => m_X9_in h) tw_1574 tw_95 tw_1572 tw_1573 dX9_define_50 ⟨by decide +kernel, by decide +kernel, by decide +kernel⟩ ⟨rfl, rfl⟩ ⟨Nat.le_of_ble_eq_true rfl, Nat.le_of_ble_eq_true rfl⟩ rfl (Nat.le_of_ble_eq_true rfl) ⟨Nat.zero_le _, Nat.zero_le _⟩ (fun r7 w7 hf => ?_)
    refine V_if_eq X (tgt := 61) dX9_define_53 (by decide) hf (fun hf => ?_) (fun hf => ?_)
    · exact V_cut [0, 1, 2, 3, 4, 5] rfl (v_X9_define_61 X hE hf)
    · refine V_iload X dX9_define_56 rfl ?_
      refine V_if_eq X (tgt := 65) dX9_define_58 (by decide) hf (fun hf => ?_) (fun hf => ?_)
      · refine V_iconst X dX9_define_65 ?_
        exact V_cut [0, 1, 2, 3, 4, 5] rfl (v_X9_define_66 X hE hf)
      · exact V_cut [0, 1, 2, 3, 4, 5] rfl (v_X9_define_61 X hE hf)
set_option maxRecDepth 20000 in
theorem v_X9_define_24 {G : GG} {E : EE} (X : Cx G E cX9_define RX9 (some .boolean) rmX9_define 8) {q : (Int × WS)} (hE : EndI G E q)   {a1 a2 a3 a4 a5 : Int} {w : WS} (hf : f_X9_define_24   a1 a2 a3 a4 a5 w = some q) : VV G E 0 0 24 [(0, gr G 85), (1, vi a1), (2, vi a2), (3, vi a3), (4, vi a4), (5, vi a5)] [] w := by
  unfold f_X9_define_24 at hf
  refine V_iconst X dX9_define_24 ?_
  refine V_goto X (tgt := 29) dX9_define_25 (by decide) ?_
  exact V_cut [0, 1, 2, 3, 4, 5] rfl (v_X9_define_29 X hE hf)
set_option maxRecDepth 20000 in
theorem m_X9_define {G : GG} {a1 : Int} {a2 : Int} {a3 : Int} {a4 : Int} {a5 : Int} {w : WS} {q : (Int × WS)}  (hf : f_X9_define a1 a2 a3 a4 a5 w = some q) : MI G yX9_define cX9_define 8 (some .boolean) rmX9_define [gr G 85, vi a1, vi a2, vi a3, vi a4, vi a5] w q := by
  refine MI_of (by decide +kernel) (Nat.le_of_ble_eq_true rfl) (fun E X hE => ?_)
  have X : Cx G E cX9_define RX9 (some .boolean) rmX9_define 8 := X
  unfold f_X9_define at hf
  refine V_gload_n X dX9_define_0 rfl rfl ?_
  refine V_iconst X dX9_define_1 ?_
  refine V_puti X ob_85 rfl rfl hin_X9 0 (Nat.le_of_ble_eq_true rfl) tw_1316 tyX9 tyX9_ok nmX9 rfl (by decide +kernel) rfl dX9_define_2 ?_
  refine V_iload_n X dX9_define_5 rfl rfl ?_
  refine V_iload X dX9_define_6 rfl ?_
  refine V_icmp_eq X (tgt := 24) dX9_define_8 (by decide) hf (fun hf => ?_) (fun hf => ?_)
  · exact V_cut [0, 1, 2, 3, 4, 5] rfl (v_X9_define_24 X hE hf)
  · refine V_iload_n X dX9_define_11 rfl rfl ?_
    refine V_iload X dX9_define_12 rfl ?_
    refine V_icmp_eq X (tgt := 24) dX9_define_14 (by decide) hf (fun hf => ?_) (fun hf => ?_)
    · exact V_cut [0, 1, 2, 3, 4, 5] rfl (v_X9_define_24 X hE hf)
    · refine V_iload X dX9_define_17 rfl ?_
      refine V_iload X dX9_define_19 rfl ?_
      refine V_icmp_ne X (tgt := 28) dX9_define_21 (by decide) hf (fun hf => ?_) (fun hf => ?_)
      · exact V_cut [0, 1, 2, 3, 4, 5] rfl (v_X9_define_24 X hE hf)
      · refine V_iconst X dX9_define_28 ?_
        exact V_cut [0, 1, 2, 3, 4, 5] rfl (v_X9_define_29 X hE hf)
abbrev rmX9_anchor : Room := { frames := 0, cells := 0, slots := 0, locals := 0 }
set_option maxRecDepth 20000 in
theorem m_X9_anchor {G : GG} {a1 : Int} {w : WS} {q : (Int × WS)}  (hf : f_X9_anchor a1 w = some q) : MI G yX9_anchor cX9_anchor 3 (some .boolean) rmX9_anchor [gr G 85, vi a1] w q := by
  refine MI_of (by decide +kernel) (Nat.le_of_ble_eq_true rfl) (fun E X hE => ?_)
  have X : Cx G E cX9_anchor RX9 (some .boolean) rmX9_anchor 3 := X
  unfold f_X9_anchor at hf
  refine V_gload_n X dX9_anchor_0 rfl rfl ?_
  refine V_iconst X dX9_anchor_1 ?_
  refine V_puti X ob_85 rfl rfl hin_X9 0 (Nat.le_of_ble_eq_true rfl) tw_1316 tyX9 tyX9_ok nmX9 rfl (by decide +kernel) rfl dX9_anchor_2 ?_
  refine V_gload_n X dX9_anchor_5 rfl rfl ?_
  refine V_geti X ob_85 rfl rfl hin_X9 21 (Nat.le_of_ble_eq_true rfl) tw_1337 rfl dX9_anchor_6 ?_
  refine V_istore_n X dX9_anchor_9 rfl (by decide) ?_
  refine V_gload_n X dX9_anchor_10 rfl rfl ?_
  refine V_iload_n X dX9_anchor_11 rfl rfl ?_
  obtain ⟨hz, hf⟩ := ite_n hf
  refine V_putz X ob_85 rfl rfl hin_X9 21 (Nat.le_of_ble_eq_true rfl) tw_1337 tyX9 tyX9_ok nmX9 rfl (by decide +kernel) hz rfl dX9_anchor_12 ?_
  refine V_iload_n X dX9_anchor_15 rfl rfl ?_
  obtain ⟨hz, hf⟩ := ite_n hf
  exact V_zret X hE dX9_anchor_16 hz hf
abbrev rmX9_save : Room := { frames := 0, cells := 0, slots := 0, locals := 0 }
set_option maxRecDepth 20000 in
theorem v_X9_save_14 {G : GG} {E : EE} (X : Cx G E cX9_save RX9 none rmX9_save 4) {q : (Int × WS)} (hE : EndV G E q)   : ∀ (n : Nat) (a1 a2 a3 : Int) (w : WS), f_X9_save_14   n a1 a2 a3 w = some q → VV G E 0 0 14 [(0, gr G 85), (1, vi a1), (2, vi a2), (3, vi a3)] [] w := by
  intro n
  induction n with
  | zero => intro a1 a2 a3 w hf; cases hf
  | succ n ih =>
    intro a1 a2 a3 w hf
    rw [f_X9_save_14_s] at hf
    refine V_iload_n X dX9_save_14 rfl rfl ?_
    refine V_gload_n X dX9_save_15 rfl rfl ?_
    refine V_getr X ob_85 rfl rfl hin_X9 7 (Nat.le_of_ble_eq_true rfl) tw_1323 rfl dX9_save_16 ?_
    refine V_iload_n X dX9_save_19 rfl rfl ?_
    refine V_iald X ar_90 dX9_save_20 hf (fun hf => ?_)
    refine V_icmp_ge X (tgt := 52) dX9_save_21 (by decide) hf (fun hf => ?_) (fun hf => ?_)
    · refine V_gload_n X dX9_save_24 rfl rfl ?_
      refine V_getr X ob_85 rfl rfl hin_X9 66 (Nat.le_of_ble_eq_true rfl) tw_1382 rfl dX9_save_25 ?_
      refine V_bipush X dX9_save_28 (by decide) ?_
      refine V_iload_n X dX9_save_30 rfl rfl ?_
      refine V_imul X dX9_save_31 ?_
      refine V_iload_n X dX9_save_32 rfl rfl ?_
      refine V_iadd X dX9_save_33 ?_
      refine V_gload_n X dX9_save_34 rfl rfl ?_
      refine V_getr X ob_85 rfl rfl hin_X9 6 (Nat.le_of_ble_eq_true rfl) tw_1322 rfl dX9_save_35 ?_
      refine V_bipush X dX9_save_38 (by decide) ?_
      refine V_iload_n X dX9_save_40 rfl rfl ?_
      refine V_imul X dX9_save_41 ?_
      refine V_iload_n X dX9_save_42 rfl rfl ?_
      refine V_iadd X dX9_save_43 ?_
      refine V_iald X ar_89 dX9_save_44 hf (fun hf => ?_)
      refine V_iast X ar_129 dX9_save_45 hf (fun hf => ?_)
      refine V_iinc X dX9_save_46 rfl (by decide) ?_
      refine V_goto X (tgt := 14) dX9_save_49 (by decide) ?_
      exact V_cut [0, 1, 2, 3] rfl (ih _ _ _ _ hf)
    · exact V_vret X hE dX9_save_52 hf
set_option maxRecDepth 20000 in
theorem m_X9_save {G : GG} {a1 : Int} {a2 : Int} {w : WS} {q : (Int × WS)}  (hf : f_X9_save a1 a2 w = some q) : MV G yX9_save cX9_save 4 none rmX9_save [gr G 85, vi a1, vi a2] w q := by
  refine MV_of (by decide +kernel) (Nat.le_of_ble_eq_true rfl) (fun E X hE => ?_)
  have X : Cx G E cX9_save RX9 none rmX9_save 4 := X
  unfold f_X9_save at hf
  refine V_gload_n X dX9_save_0 rfl rfl ?_
  refine V_getr X ob_85 rfl rfl hin_X9 67 (Nat.le_of_ble_eq_true rfl) tw_1383 rfl dX9_save_1 ?_
  refine V_iload_n X dX9_save_4 rfl rfl ?_
  refine V_gload_n X dX9_save_5 rfl rfl ?_
  refine V_getr X ob_85 rfl rfl hin_X9 7 (Nat.le_of_ble_eq_true rfl) tw_1323 rfl dX9_save_6 ?_
  refine V_iload_n X dX9_save_9 rfl rfl ?_
  refine V_iald X ar_90 dX9_save_10 hf (fun hf => ?_)
  refine V_iast X ar_130 dX9_save_11 hf (fun hf => ?_)
  refine V_iconst X dX9_save_12 ?_
  refine V_istore_n X dX9_save_13 rfl (by decide) ?_
  exact V_cut [0, 1, 2, 3] rfl (v_X9_save_14 X hE FU _ _ _ _ hf)
