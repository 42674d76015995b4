abbrev rmX9_findWays : Room := { frames := 5, cells := 0, slots := 0, locals := 121 }
set_option maxRecDepth 20000 in
theorem v_X9_findWays_166 {G : GG} {E : EE} (X : Cx G E cX9_findWays RX9 (some .boolean) rmX9_findWays 5) {q : (Int × WS)} (hE : EndI G E q)   {w : WS} (hf : f_X9_findWays_166    w = some q) : VV G E 0 0 166 [(0, gr G 85)] [] w := by
  unfold f_X9_findWays_166 at hf
  refine V_gload_n X dX9_findWays_166 rfl rfl ?_
  refine V_geti X ob_85 rfl rfl hin_X9 42 (Nat.le_of_ble_eq_true rfl) tw_1358 rfl dX9_findWays_167 ?_
  refine V_if_ne X (tgt := 177) dX9_findWays_170 (by decide) hf (fun hf => ?_) (fun hf => ?_)
  · refine V_iconst X dX9_findWays_173 ?_
    refine V_goto X (tgt := 178) dX9_findWays_174 (by decide) ?_
    exact V_zret X hE dX9_findWays_178 (Or.inr rfl) hf
  · refine V_iconst X dX9_findWays_177 ?_
    exact V_zret X hE dX9_findWays_178 (Or.inl rfl) hf
set_option maxRecDepth 20000 in
theorem v_X9_findWays_155 {G : GG} {E : EE} (X : Cx G E cX9_findWays RX9 (some .boolean) rmX9_findWays 5) {q : (Int × WS)} (hE : EndI G E q)   {w : WS} (hf : f_X9_findWays_155    w = some q) : VV G E 0 0 155 [(0, gr G 85)] [] w := by
  unfold f_X9_findWays_155 at hf
  refine V_gload_n X dX9_findWays_155 rfl rfl ?_
  refine V_geti X ob_85 rfl rfl hin_X9 42 (Nat.le_of_ble_eq_true rfl) tw_1358 rfl dX9_findWays_156 ?_
  refine V_if_eq X (tgt := 166) dX9_findWays_159 (by decide) hf (fun hf => ?_) (fun hf => ?_)
  · exact V_cut [0] rfl (v_X9_findWays_166 X hE hf)
  · refine V_gload_n X dX9_findWays_162 rfl rfl ?_
    refine V_cVV X hf [] _ 0 (fun _ h => m_X9_unspare h) ob_85 rfl tw_1865 tw_95 tw_1862 tw_1864 tw_83 dX9_findWays_163 ⟨by decide +kernel, by decide +kernel, by decide +kernel⟩ ⟨rfl, rfl⟩ ⟨Nat.le_of_ble_eq_true rfl, Nat.le_of_ble_eq_true rfl⟩ rfl (Nat.le_of_ble_eq_true rfl) ⟨Nat.zero_le _, Nat.zero_le _⟩ (fun r3 w3 hf => ?_)
    exact V_cut [0] rfl (v_X9_findWays_166 X hE hf)
set_option maxRecDepth 20000 in
theorem v_X9_findWays_88 {G : GG} {E : EE} (X : Cx G E cX9_findWays RX9 (some .boolean) rmX9_findWays 5) {q : (Int × WS)} (hE : EndI G E q)   {k46 : Int → Int → Int → WS → Option (Int × WS)} (hk46 : ∀ (a1 a2 a3 : Int) (w : WS), k46 a1 a2 a3 w = some q → VV G E 0 0 46 [(0, gr G 85), (1, vi a1), (2, vi a2), (3, vi a3)] [] w) : ∀ (n : Nat) (a1 a2 a3 a4 : Int) (w : WS), f_X9_findWays_88  k46 n a1 a2 a3 a4 w = some q → VV G E 0 0 88 [(0, gr G 85), (1, vi a1), (2, vi a2), (3, vi a3), (4, vi a4)] [] w := by
  intro n
  induction n with
  | zero => intro a1 a2 a3 a4 w hf; cases hf
  | succ n ih =>
    intro a1 a2 a3 a4 w hf
    rw [f_X9_findWays_88_s] at hf
    refine V_iload X dX9_findWays_88 rfl ?_
    refine V_if_eq X (tgt := 149) dX9_findWays_90 (by decide) hf (fun hf => ?_) (fun hf => ?_)
    · refine V_iinc X dX9_findWays_149 rfl (by decide) ?_
      refine V_goto X (tgt := 46) dX9_findWays_152 (by decide) ?_
      exact V_cut [0, 1, 2, 3] rfl (hk46 _ _ _ _ hf)
    · refine V_gload_n X dX9_findWays_93 rfl rfl ?_
      refine V_getr X ob_85 rfl rfl hin_X9 79 (Nat.le_of_ble_eq_true rfl) tw_1395 rfl dX9_findWays_94 ?_
      refine V_gload_n X dX9_findWays_97 rfl rfl ?_
      refine V_geti X ob_85 rfl rfl hin_X9 80 (Nat.le_of_ble_eq_true rfl) tw_1396 rfl dX9_findWays_98 ?_
      refine V_bipush X dX9_findWays_101 (by decide) ?_
      refine V_iload_n X dX9_findWays_103 rfl rfl ?_
      refine V_imul X dX9_findWays_104 ?_
      refine V_gload_n X dX9_findWays_105 rfl rfl ?_
      refine V_geti X ob_85 rfl rfl hin_X9 39 (Nat.le_of_ble_eq_true rfl) tw_1355 rfl dX9_findWays_106 ?_
      refine V_iadd X dX9_findWays_109 ?_
      refine V_iast X ar_134 dX9_findWays_110 hf (fun hf => ?_)
      refine V_gload_n X dX9_findWays_111 rfl rfl ?_
      refine V_dup X dX9_findWays_112 rfl ?_
      refine V_geti X ob_85 rfl rfl hin_X9 80 (Nat.le_of_ble_eq_true rfl) tw_1396 rfl dX9_findWays_113 ?_
      refine V_iconst X dX9_findWays_116 ?_
      refine V_iadd X dX9_findWays_117 ?_
      refine V_puti X ob_85 rfl rfl hin_X9 80 (Nat.le_of_ble_eq_true rfl) tw_1396 tyX9 tyX9_ok nmX9 rfl (by decide +kernel) rfl dX9_findWays_118 ?_
      refine V_gload_n X dX9_findWays_121 rfl rfl ?_
      refine V_geti X ob_85 rfl rfl hin_X9 80 (Nat.le_of_ble_eq_true rfl) tw_1396 rfl dX9_findWays_122 ?_
      refine V_sipush X dX9_findWays_125 (by decide) ?_
      refine V_icmp_ge X (tgt := 143) dX9_findWays_128 (by decide) hf (fun hf => ?_) (fun hf => ?_)
      · refine V_gload_n X dX9_findWays_131 rfl rfl ?_
        refine V_iconst X dX9_findWays_132 ?_
        refine V_cVI X hf [vi 0] _ 1 (fun _ h => m_X9_reaches h) ob_85 rfl tw_1737 tw_95 tw_1734 tw_1736 tw_58 dX9_findWays_133 ⟨by decide +kernel, by decide +kernel, by decide +kernel⟩ ⟨rfl, rfl⟩ ⟨Nat.le_of_ble_eq_true rfl, Nat.le_of_ble_eq_true rfl⟩ rfl (Nat.le_of_ble_eq_true rfl) ⟨Nat.zero_le _, Nat.zero_le _⟩ (fun r6 w6 hf => ?_)
        refine V_if_eq X (tgt := 143) dX9_findWays_136 (by decide) hf (fun hf => ?_) (fun hf => ?_)
        · refine V_iconst X dX9_findWays_143 ?_
          refine V_istore X dX9_findWays_144 (by decide) ?_
          refine V_goto X (tgt := 88) dX9_findWays_146 (by decide) ?_
          exact V_cut [0, 1, 2, 3, 4] rfl (ih _ _ _ _ _ hf)
        · refine V_iconst X dX9_findWays_139 ?_
          refine V_goto X (tgt := 144) dX9_findWays_140 (by decide) ?_
          refine V_istore X dX9_findWays_144 (by decide) ?_
          refine V_goto X (tgt := 88) dX9_findWays_146 (by decide) ?_
          exact V_cut [0, 1, 2, 3, 4] rfl (ih _ _ _ _ _ hf)
      · refine V_iconst X dX9_findWays_143 ?_
        refine V_istore X dX9_findWays_144 (by decide) ?_
        refine V_goto X (tgt := 88) dX9_findWays_146 (by decide) ?_
        exact V_cut [0, 1, 2, 3, 4] rfl (ih _ _ _ _ _ hf)
set_option maxRecDepth 20000 in
theorem v_X9_findWays_46 {G : GG} {E : EE} (X : Cx G E cX9_findWays RX9 (some .boolean) rmX9_findWays 5) {q : (Int × WS)} (hE : EndI G E q)   : ∀ (n : Nat) (a1 a2 a3 : Int) (w : WS), f_X9_findWays_46   n a1 a2 a3 w = some q → VV G E 0 0 46 [(0, gr G 85), (1, vi a1), (2, vi a2), (3, vi a3)] [] w := by
  intro n
  induction n with
  | zero => intro a1 a2 a3 w hf; cases hf
  | succ n ih =>
    intro a1 a2 a3 w hf
    rw [f_X9_findWays_46_s] at hf
    refine V_iload_n X dX9_findWays_46 rfl rfl ?_
    refine V_iload_n X dX9_findWays_47 rfl rfl ?_
    refine V_icmp_gt X (tgt := 155) dX9_findWays_48 (by decide) hf (fun hf => ?_) (fun hf => ?_)
    · exact V_cut [0] rfl (v_X9_findWays_155 X hE hf)
    · refine V_gload_n X dX9_findWays_51 rfl rfl ?_
      refine V_geti X ob_85 rfl rfl hin_X9 41 (Nat.le_of_ble_eq_true rfl) tw_1357 rfl dX9_findWays_52 ?_
      refine V_if_ne X (tgt := 155) dX9_findWays_55 (by decide) hf (fun hf => ?_) (fun hf => ?_)
      · refine V_gload_n X dX9_findWays_58 rfl rfl ?_
        refine V_geti X ob_85 rfl rfl hin_X9 42 (Nat.le_of_ble_eq_true rfl) tw_1358 rfl dX9_findWays_59 ?_
        refine V_if_ne X (tgt := 155) dX9_findWays_62 (by decide) hf (fun hf => ?_) (fun hf => ?_)
        · refine V_gload_n X dX9_findWays_65 rfl rfl ?_
          refine V_geti X ob_85 rfl rfl hin_X9 80 (Nat.le_of_ble_eq_true rfl) tw_1396 rfl dX9_findWays_66 ?_
          refine V_sipush X dX9_findWays_69 (by decide) ?_
          refine V_icmp_ge X (tgt := 155) dX9_findWays_72 (by decide) hf (fun hf => ?_) (fun hf => ?_)
          · refine V_gload_n X dX9_findWays_75 rfl rfl ?_
            refine V_iload_n X dX9_findWays_76 rfl rfl ?_
            refine V_iload_n X dX9_findWays_77 rfl rfl ?_
            refine V_cVV X hf [vi a3, vi a1] _ 2 (fun _ h => m_X9_beginAt h) ob_85 rfl tw_1729 tw_95 tw_1726 tw_1728 tw_56 dX9_findWays_78 ⟨by decide +kernel, by decide +kernel, by decide +kernel⟩ ⟨rfl, rfl⟩ ⟨Nat.le_of_ble_eq_true rfl, Nat.le_of_ble_eq_true rfl⟩ rfl (Nat.le_of_ble_eq_true rfl) ⟨Nat.zero_le _, Nat.zero_le _⟩ (fun r4 w4 hf => ?_)
            refine V_gload_n X dX9_findWays_81 rfl rfl ?_
            refine V_iconst X dX9_findWays_82 ?_
            refine V_cVI X hf [vi 1] _ 1 (fun _ h => m_X9_reaches h) ob_85 rfl tw_1737 tw_95 tw_1734 tw_1736 tw_58 dX9_findWays_83 ⟨by decide +kernel, by decide +kernel, by decide +kernel⟩ ⟨rfl, rfl⟩ ⟨Nat.le_of_ble_eq_true rfl, Nat.le_of_ble_eq_true rfl⟩ rfl (Nat.le_of_ble_eq_true rfl) ⟨Nat.zero_le _, Nat.zero_le _⟩ (fun r5 w5 hf => ?_)
            refine V_istore X dX9_findWays_86 (by decide) ?_
            exact V_cut [0, 1, 2, 3, 4] rfl (v_X9_findWays_88 X hE (fun x0 x1 x2 x hf => ih x0 x1 x2 x hf) FU _ _ _ _ _ hf)
          · exact V_cut [0] rfl (v_X9_findWays_155 X hE hf)
        · exact V_cut [0] rfl (v_X9_findWays_155 X hE hf)
      · exact V_cut [0] rfl (v_X9_findWays_155 X hE hf)
set_option maxRecDepth 20000 in
theorem m_X9_findWays {G : GG} {a1 : Int} {w : WS} {q : (Int × WS)}  (hf : f_X9_findWays a1 w = some q) : MI G yX9_findWays cX9_findWays 5 (some .boolean) rmX9_findWays [gr G 85, vi a1] w q := by
  refine MI_of (by decide +kernel) (Nat.le_of_ble_eq_true rfl) (fun E X hE => ?_)
  have X : Cx G E cX9_findWays RX9 (some .boolean) rmX9_findWays 5 := X
  unfold f_X9_findWays at hf
  refine V_gload_n X dX9_findWays_0 rfl rfl ?_
  refine V_cVV X hf [] _ 0 (fun _ h => m_X9_spare h) ob_85 rfl tw_1857 tw_95 tw_1854 tw_1856 tw_81 dX9_findWays_1 ⟨by decide +kernel, by decide +kernel, by decide +kernel⟩ ⟨rfl, rfl⟩ ⟨Nat.le_of_ble_eq_true rfl, Nat.le_of_ble_eq_true rfl⟩ rfl (Nat.le_of_ble_eq_true rfl) ⟨Nat.zero_le _, Nat.zero_le _⟩ (fun r1 w1 hf => ?_)
  refine V_gload_n X dX9_findWays_4 rfl rfl ?_
  refine V_cVV X hf [] _ 0 (fun _ h => m_X9_takeTyped h) ob_85 rfl tw_1861 tw_95 tw_1858 tw_1860 tw_82 dX9_findWays_5 ⟨by decide +kernel, by decide +kernel, by decide +kernel⟩ ⟨rfl, rfl⟩ ⟨Nat.le_of_ble_eq_true rfl, Nat.le_of_ble_eq_true rfl⟩ rfl (Nat.le_of_ble_eq_true rfl) ⟨Nat.zero_le _, Nat.zero_le _⟩ (fun r2 w2 hf => ?_)
  refine V_gload_n X dX9_findWays_8 rfl rfl ?_
  refine V_iconst X dX9_findWays_9 ?_
  refine V_puti X ob_85 rfl rfl hin_X9 22 (Nat.le_of_ble_eq_true rfl) tw_1338 tyX9 tyX9_ok nmX9 rfl (by decide +kernel) rfl dX9_findWays_10 ?_
  refine V_gload_n X dX9_findWays_13 rfl rfl ?_
  refine V_iconst X dX9_findWays_14 ?_
  refine V_putz X ob_85 rfl rfl hin_X9 41 (Nat.le_of_ble_eq_true rfl) tw_1357 tyX9 tyX9_ok nmX9 rfl (by decide +kernel) (Or.inl rfl) rfl dX9_findWays_15 ?_
  refine V_gload_n X dX9_findWays_18 rfl rfl ?_
  refine V_iconst X dX9_findWays_19 ?_
  refine V_putz X ob_85 rfl rfl hin_X9 42 (Nat.le_of_ble_eq_true rfl) tw_1358 tyX9 tyX9_ok nmX9 rfl (by decide +kernel) (Or.inl rfl) rfl dX9_findWays_20 ?_
  refine V_gload_n X dX9_findWays_23 rfl rfl ?_
  refine V_iconst X dX9_findWays_24 ?_
  refine V_puti X ob_85 rfl rfl hin_X9 80 (Nat.le_of_ble_eq_true rfl) tw_1396 tyX9 tyX9_ok nmX9 rfl (by decide +kernel) rfl dX9_findWays_25 ?_
  refine V_gload_n X dX9_findWays_28 rfl rfl ?_
  refine V_geti X ob_85 rfl rfl hin_X9 21 (Nat.le_of_ble_eq_true rfl) tw_1337 rfl dX9_findWays_29 ?_
  refine V_if_eq X (tgt := 39) dX9_findWays_32 (by decide) hf (fun hf => ?_) (fun hf => ?_)
  · refine V_gload_n X dX9_findWays_39 rfl rfl ?_
    refine V_geti X ob_85 rfl rfl hin_X9 20 (Nat.le_of_ble_eq_true rfl) tw_1336 rfl dX9_findWays_40 ?_
    refine V_istore_n X dX9_findWays_43 rfl (by decide) ?_
    refine V_iconst X dX9_findWays_44 ?_
    refine V_istore_n X dX9_findWays_45 rfl (by decide) ?_
    exact V_cut [0, 1, 2, 3] rfl (v_X9_findWays_46 X hE FU _ _ _ _ hf)
  · refine V_iconst X dX9_findWays_35 ?_
    refine V_goto X (tgt := 43) dX9_findWays_36 (by decide) ?_
    refine V_istore_n X dX9_findWays_43 rfl (by decide) ?_
    refine V_iconst X dX9_findWays_44 ?_
    refine V_istore_n X dX9_findWays_45 rfl (by decide) ?_
    exact V_cut [0, 1, 2, 3] rfl (v_X9_findWays_46 X hE FU _ _ _ _ hf)
abbrev rmX9_ways : Room := { frames := 6, cells := 0, slots := 0, locals := 145 }
set_option maxRecDepth 20000 in
theorem v_X9_ways_40 {G : GG} {E : EE} (X : Cx G E cX9_ways RX9 (some .int) rmX9_ways 2) {q : (Int × WS)} (hE : EndI G E q)   {s0 : Int} {w : WS} (hf : f_X9_ways_40   s0 w = some q) : VV G E 0 0 40 [(0, gr G 85)] [vi s0, gr G 85] w := by
  unfold f_X9_ways_40 at hf
  refine V_iconst X dX9_ways_40 ?_
  refine V_cVI X hf [vi s0, vi 2] _ 2 (fun _ h => m_X9_fails h) ob_85 rfl tw_1580 tw_95 tw_1577 tw_1579 tw_38 dX9_ways_41 ⟨by decide +kernel, by decide +kernel, by decide +kernel⟩ ⟨rfl, rfl⟩ ⟨Nat.le_of_ble_eq_true rfl, Nat.le_of_ble_eq_true rfl⟩ rfl (Nat.le_of_ble_eq_true rfl) ⟨Nat.zero_le _, Nat.zero_le _⟩ (fun r4 w4 hf => ?_)
  refine V_if_eq X (tgt := 51) dX9_ways_44 (by decide) hf (fun hf => ?_) (fun hf => ?_)
  · refine V_gload_n X dX9_ways_51 rfl rfl ?_
    refine V_geti X ob_85 rfl rfl hin_X9 80 (Nat.le_of_ble_eq_true rfl) tw_1396 rfl dX9_ways_52 ?_
    exact V_iret X hE dX9_ways_55 hf
  · refine V_iconst X dX9_ways_47 ?_
    refine V_goto X (tgt := 55) dX9_ways_48 (by decide) ?_
    exact V_iret X hE dX9_ways_55 hf
set_option maxRecDepth 20000 in
theorem v_X9_ways_19 {G : GG} {E : EE} (X : Cx G E cX9_ways RX9 (some .int) rmX9_ways 2) {q : (Int × WS)} (hE : EndI G E q)   {a1 s0 : Int} {w : WS} (hf : f_X9_ways_19   a1 s0 w = some q) : VV G E 0 0 19 [(0, gr G 85), (1, vi a1)] [vi s0, gr G 85] w := by
  unfold f_X9_ways_19 at hf
  refine V_iconst X dX9_ways_19 ?_
  refine V_cVI X hf [vi s0, vi 1] _ 2 (fun _ h => m_X9_fails h) ob_85 rfl tw_1580 tw_95 tw_1577 tw_1579 tw_38 dX9_ways_20 ⟨by decide +kernel, by decide +kernel, by decide +kernel⟩ ⟨rfl, rfl⟩ ⟨Nat.le_of_ble_eq_true rfl, Nat.le_of_ble_eq_true rfl⟩ rfl (Nat.le_of_ble_eq_true rfl) ⟨Nat.zero_le _, Nat.zero_le _⟩ (fun r2 w2 hf => ?_)
  refine V_if_ne X (tgt := 47) dX9_ways_23 (by decide) hf (fun hf => ?_) (fun hf => ?_)
  · refine V_gload_n X dX9_ways_26 rfl rfl ?_
    refine V_gload_n X dX9_ways_27 rfl rfl ?_
    refine V_iload_n X dX9_ways_28 rfl rfl ?_
    refine V_cVI X hf [vi a1] _ 1 (fun _ h => m_X9_findWays h) ob_85 rfl tw_1885 tw_95 tw_1882 tw_1884 tw_84 dX9_ways_29 ⟨by decide +kernel, by decide +kernel, by decide +kernel⟩ ⟨rfl, rfl⟩ ⟨Nat.le_of_ble_eq_true rfl, Nat.le_of_ble_eq_true rfl⟩ rfl (Nat.le_of_ble_eq_true rfl) ⟨Nat.zero_le _, Nat.zero_le _⟩ (fun r3 w3 hf => ?_)
    refine V_if_ne X (tgt := 39) dX9_ways_32 (by decide) hf (fun hf => ?_) (fun hf => ?_)
    · refine V_iconst X dX9_ways_35 ?_
      refine V_goto X (tgt := 40) dX9_ways_36 (by decide) ?_
      exact V_cut [0] rfl (v_X9_ways_40 X hE hf)
    · refine V_iconst X dX9_ways_39 ?_
      exact V_cut [0] rfl (v_X9_ways_40 X hE hf)
  · refine V_iconst X dX9_ways_47 ?_
    refine V_goto X (tgt := 55) dX9_ways_48 (by decide) ?_
    exact V_iret X hE dX9_ways_55 hf
set_option maxRecDepth 20000 in
theorem m_X9_ways {G : GG} {a1 : Int} {w : WS} {q : (Int × WS)}  (hf : f_X9_ways a1 w = some q) : MI G yX9_ways cX9_ways 2 (some .int) rmX9_ways [gr G 85, vi a1] w q := by
  refine MI_of (by decide +kernel) (Nat.le_of_ble_eq_true rfl) (fun E X hE => ?_)
  have X : Cx G E cX9_ways RX9 (some .int) rmX9_ways 2 := X
  unfold f_X9_ways at hf
  refine V_gload_n X dX9_ways_0 rfl rfl ?_
  refine V_iconst X dX9_ways_1 ?_
  refine V_puti X ob_85 rfl rfl hin_X9 0 (Nat.le_of_ble_eq_true rfl) tw_1316 tyX9 tyX9_ok nmX9 rfl (by decide +kernel) rfl dX9_ways_2 ?_
  refine V_gload_n X dX9_ways_5 rfl rfl ?_
  refine V_gload_n X dX9_ways_6 rfl rfl ?_
  refine V_iload_n X dX9_ways_7 rfl rfl ?_
  refine V_cVI X hf [vi a1] _ 1 (fun _ h => m_X9_isPattern h) ob_85 rfl tw_1619 tw_95 tw_1616 tw_1618 tw_40 dX9_ways_8 ⟨by decide +kernel, by decide +kernel, by decide +kernel⟩ ⟨rfl, rfl⟩ ⟨Nat.le_of_ble_eq_true rfl, Nat.le_of_ble_eq_true rfl⟩ rfl (Nat.le_of_ble_eq_true rfl) ⟨Nat.zero_le _, Nat.zero_le _⟩ (fun r1 w1 hf => ?_)
  refine V_if_ne X (tgt := 18) dX9_ways_11 (by decide) hf (fun hf => ?_) (fun hf => ?_)
  · refine V_iconst X dX9_ways_14 ?_
    refine V_goto X (tgt := 19) dX9_ways_15 (by decide) ?_
    exact V_cut [0, 1] rfl (v_X9_ways_19 X hE hf)
  · refine V_iconst X dX9_ways_18 ?_
    exact V_cut [0, 1] rfl (v_X9_ways_19 X hE hf)
abbrev rmX9_way : Room := { frames := 6, cells := 0, slots := 0, locals := 145 }
set_option maxRecDepth 20000 in
theorem v_X9_way_91 {G : GG} {E : EE} (X : Cx G E cX9_way RX9 (some .int) rmX9_way 3) {q : (Int × WS)} (hE : EndI G E q)   {a2 s0 : Int} {w : WS} (hf : f_X9_way_91   a2 s0 w = some q) : VV G E 0 0 91 [(0, gr G 85), (2, vi a2)] [vi s0, gr G 85] w := by
  unfold f_X9_way_91 at hf
  refine V_iconst X dX9_way_91 ?_
  refine V_cVI X hf [vi s0, vi 3] _ 2 (fun _ h => m_X9_fails h) ob_85 rfl tw_1580 tw_95 tw_1577 tw_1579 tw_38 dX9_way_92 ⟨by decide +kernel, by decide +kernel, by decide +kernel⟩ ⟨rfl, rfl⟩ ⟨Nat.le_of_ble_eq_true rfl, Nat.le_of_ble_eq_true rfl⟩ rfl (Nat.le_of_ble_eq_true rfl) ⟨Nat.zero_le _, Nat.zero_le _⟩ (fun r8 w8 hf => ?_)
  refine V_if_eq X (tgt := 102) dX9_way_95 (by decide) hf (fun hf => ?_) (fun hf => ?_)
  · refine V_gload_n X dX9_way_102 rfl rfl ?_
    refine V_getr X ob_85 rfl rfl hin_X9 79 (Nat.le_of_ble_eq_true rfl) tw_1395 rfl dX9_way_103 ?_
    refine V_iload_n X dX9_way_106 rfl rfl ?_
    refine V_iald X ar_134 dX9_way_107 hf (fun hf => ?_)
    exact V_iret X hE dX9_way_108 hf
  · refine V_iconst X dX9_way_98 ?_
    refine V_goto X (tgt := 108) dX9_way_99 (by decide) ?_
    exact V_iret X hE dX9_way_108 hf
set_option maxRecDepth 20000 in
theorem v_X9_way_69 {G : GG} {E : EE} (X : Cx G E cX9_way RX9 (some .int) rmX9_way 3) {q : (Int × WS)} (hE : EndI G E q)   {a2 : Int} {w : WS} (hf : f_X9_way_69   a2 w = some q) : VV G E 0 0 69 [(0, gr G 85), (2, vi a2)] [] w := by
  unfold f_X9_way_69 at hf
  refine V_gload_n X dX9_way_69 rfl rfl ?_
  refine V_iload_n X dX9_way_70 rfl rfl ?_
  refine V_i2l X dX9_way_71 ?_
  refine V_lconst (a := 0) X dX9_way_72 (by decide) ?_
  refine V_gload_n X dX9_way_73 rfl rfl ?_
  refine V_geti X ob_85 rfl rfl hin_X9 80 (Nat.le_of_ble_eq_true rfl) tw_1396 rfl dX9_way_74 ?_
  refine V_iconst X dX9_way_77 ?_
  refine V_isub X dX9_way_78 ?_
  refine V_i2l X dX9_way_79 ?_
  refine V_cSI X hf [vl (wr a2), vl 0, vl (wr ((w 85 80) - 1))] _ 3 (fun _ h => m_X9_in h) tw_1574 tw_95 tw_1572 tw_1573 dX9_way_80 ⟨by decide +kernel, by decide +kernel, by decide +kernel⟩ ⟨rfl, rfl⟩ ⟨Nat.le_of_ble_eq_true rfl, Nat.le_of_ble_eq_true rfl⟩ rfl (Nat.le_of_ble_eq_true rfl) ⟨Nat.zero_le _, Nat.zero_le _⟩ (fun r7 w7 hf => ?_)
  refine V_if_ne X (tgt := 90) dX9_way_83 (by decide) hf (fun hf => ?_) (fun hf => ?_)
  · refine V_iconst X dX9_way_86 ?_
    refine V_goto X (tgt := 91) dX9_way_87 (by decide) ?_
    exact V_cut [0, 2] rfl (v_X9_way_91 X hE hf)
  · refine V_iconst X dX9_way_90 ?_
    exact V_cut [0, 2] rfl (v_X9_way_91 X hE hf)
set_option maxRecDepth 20000 in
theorem v_X9_way_40 {G : GG} {E : EE} (X : Cx G E cX9_way RX9 (some .int) rmX9_way 3) {q : (Int × WS)} (hE : EndI G E q)   {a2 s0 : Int} {w : WS} (hf : f_X9_way_40   a2 s0 w = some q) : VV G E 0 0 40 [(0, gr G 85), (2, vi a2)] [vi s0, gr G 85] w := by
  unfold f_X9_way_40 at hf
  refine V_iconst X dX9_way_40 ?_
  refine V_cVI X hf [vi s0, vi 2] _ 2 (fun _ h => m_X9_fails h) ob_85 rfl tw_1580 tw_95 tw_1577 tw_1579 tw_38 dX9_way_41 ⟨by decide +kernel, by decide +kernel, by decide +kernel⟩ ⟨rfl, rfl⟩ ⟨Nat.le_of_ble_eq_true rfl, Nat.le_of_ble_eq_true rfl⟩ rfl (Nat.le_of_ble_eq_true rfl) ⟨Nat.zero_le _, Nat.zero_le _⟩ (fun r4 w4 hf => ?_)
  refine V_if_eq X (tgt := 49) dX9_way_44 (by decide) hf (fun hf => ?_) (fun hf => ?_)
  · refine V_iload_n X dX9_way_49 rfl rfl ?_
    refine V_i2l X dX9_way_50 ?_
    refine V_lconst (a := 0) X dX9_way_51 (by decide) ?_
    refine V_gload_n X dX9_way_52 rfl rfl ?_
    refine V_geti X ob_85 rfl rfl hin_X9 80 (Nat.le_of_ble_eq_true rfl) tw_1396 rfl dX9_way_53 ?_
    refine V_iconst X dX9_way_56 ?_
    refine V_isub X dX9_way_57 ?_
    refine V_i2l X dX9_way_58 ?_
    refine V_cSI X hf [vl (wr a2), vl 0, vl (wr ((w4 85 80) - 1))] _ 3 (fun _ h => m_X9_in h) tw_1574 tw_95 tw_1572 tw_1573 dX9_way_59 ⟨by decide +kernel, by decide +kernel, by decide +kernel⟩ ⟨rfl, rfl⟩ ⟨Nat.le_of_ble_eq_true rfl, Nat.le_of_ble_eq_true rfl⟩ rfl (Nat.le_of_ble_eq_true rfl) ⟨Nat.zero_le _, Nat.zero_le _⟩ (fun r5 w5 hf => ?_)
    refine V_if_ne X (tgt := 69) dX9_way_62 (by decide) hf (fun hf => ?_) (fun hf => ?_)
    · refine V_gload_n X dX9_way_65 rfl rfl ?_
      refine V_cVV X hf [] _ 0 (fun _ h => m_X9_unspare h) ob_85 rfl tw_1865 tw_95 tw_1862 tw_1864 tw_83 dX9_way_66 ⟨by decide +kernel, by decide +kernel, by decide +kernel⟩ ⟨rfl, rfl⟩ ⟨Nat.le_of_ble_eq_true rfl, Nat.le_of_ble_eq_true rfl⟩ rfl (Nat.le_of_ble_eq_true rfl) ⟨Nat.zero_le _, Nat.zero_le _⟩ (fun r6 w6 hf => ?_)
      exact V_cut [0, 2] rfl (v_X9_way_69 X hE hf)
    · exact V_cut [0, 2] rfl (v_X9_way_69 X hE hf)
  · refine V_iconst X dX9_way_47 ?_
    exact V_iret X hE dX9_way_48 hf
set_option maxRecDepth 20000 in
theorem v_X9_way_19 {G : GG} {E : EE} (X : Cx G E cX9_way RX9 (some .int) rmX9_way 3) {q : (Int × WS)} (hE : EndI G E q)   {a1 a2 s0 : Int} {w : WS} (hf : f_X9_way_19   a1 a2 s0 w = some q) : VV G E 0 0 19 [(0, gr G 85), (1, vi a1), (2, vi a2)] [vi s0, gr G 85] w := by
  unfold f_X9_way_19 at hf
  refine V_iconst X dX9_way_19 ?_
  refine V_cVI X hf [vi s0, vi 1] _ 2 (fun _ h => m_X9_fails h) ob_85 rfl tw_1580 tw_95 tw_1577 tw_1579 tw_38 dX9_way_20 ⟨by decide +kernel, by decide +kernel, by decide +kernel⟩ ⟨rfl, rfl⟩ ⟨Nat.le_of_ble_eq_true rfl, Nat.le_of_ble_eq_true rfl⟩ rfl (Nat.le_of_ble_eq_true rfl) ⟨Nat.zero_le _, Nat.zero_le _⟩ (fun r2 w2 hf => ?_)
  refine V_if_ne X (tgt := 47) dX9_way_23 (by decide) hf (fun hf => ?_) (fun hf => ?_)
  · refine V_gload_n X dX9_way_26 rfl rfl ?_
    refine V_gload_n X dX9_way_27 rfl rfl ?_
    refine V_iload_n X dX9_way_28 rfl rfl ?_
    refine V_cVI X hf [vi a1] _ 1 (fun _ h => m_X9_findWays h) ob_85 rfl tw_1885 tw_95 tw_1882 tw_1884 tw_84 dX9_way_29 ⟨by decide +kernel, by decide +kernel, by decide +kernel⟩ ⟨rfl, rfl⟩ ⟨Nat.le_of_ble_eq_true rfl, Nat.le_of_ble_eq_true rfl⟩ rfl (Nat.le_of_ble_eq_true rfl) ⟨Nat.zero_le _, Nat.zero_le _⟩ (fun r3 w3 hf => ?_)
    refine V_if_ne X (tgt := 39) dX9_way_32 (by decide) hf (fun hf => ?_) (fun hf => ?_)
    · refine V_iconst X dX9_way_35 ?_
      refine V_goto X (tgt := 40) dX9_way_36 (by decide) ?_
      exact V_cut [0, 2] rfl (v_X9_way_40 X hE hf)
    · refine V_iconst X dX9_way_39 ?_
      exact V_cut [0, 2] rfl (v_X9_way_40 X hE hf)
  · refine V_iconst X dX9_way_47 ?_
    exact V_iret X hE dX9_way_48 hf
set_option maxRecDepth 20000 in
theorem m_X9_way {G : GG} {a1 : Int} {a2 : Int} {w : WS} {q : (Int × WS)}  (hf : f_X9_way a1 a2 w = some q) : MI G yX9_way cX9_way 3 (some .int) rmX9_way [gr G 85, vi a1, vi a2] w q := by
  refine MI_of (by decide +kernel) (Nat.le_of_ble_eq_true rfl) (fun E X hE => ?_)
  have X : Cx G E cX9_way RX9 (some .int) rmX9_way 3 := X
  unfold f_X9_way at hf
  refine V_gload_n X dX9_way_0 rfl rfl ?_
  refine V_iconst X dX9_way_1 ?_
  refine V_puti X ob_85 rfl rfl hin_X9 0 (Nat.le_of_ble_eq_true rfl) tw_1316 tyX9 tyX9_ok nmX9 rfl (by decide +kernel) rfl dX9_way_2 ?_
  refine V_gload_n X dX9_way_5 rfl rfl ?_
  refine V_gload_n X dX9_way_6 rfl rfl ?_
  refine V_iload_n X dX9_way_7 rfl rfl ?_
  refine V_cVI X hf [vi a1] _ 1 (fun _ h => m_X9_isPattern h) ob_85 rfl tw_1619 tw_95 tw_1616 tw_1618 tw_40 dX9_way_8 ⟨by decide +kernel, by decide +kernel, by decide +kernel⟩ ⟨rfl, rfl⟩ ⟨Nat.le_of_ble_eq_true rfl, Nat.le_of_ble_eq_true rfl⟩ rfl (Nat.le_of_ble_eq_true rfl) ⟨Nat.zero_le _, Nat.zero_le _⟩ (fun r1 w1 hf => ?_)
  refine V_if_ne X (tgt := 18) dX9_way_11 (by decide) hf (fun hf => ?_) (fun hf => ?_)
  · refine V_iconst X dX9_way_14 ?_
    refine V_goto X (tgt := 19) dX9_way_15 (by decide) ?_
    exact V_cut [0, 1, 2] rfl (v_X9_way_19 X hE hf)
  · refine V_iconst X dX9_way_18 ?_
    exact V_cut [0, 1, 2] rfl (v_X9_way_19 X hE hf)
abbrev rmX9_work : Room := { frames := 5, cells := 0, slots := 0, locals := 126 }
set_option maxRecDepth 20000 in
theorem v_X9_work_70 {G : GG} {E : EE} (X : Cx G E cX9_work RX9 (some .boolean) rmX9_work 4) {q : (Int × WS)} (hE : EndI G E q)   : ∀ (n : Nat) (a1 a3 : Int) (w : WS), f_X9_work_70   n a1 a3 w = some q → VV G E 0 0 70 [(0, gr G 85), (1, vi a1), (3, vi a3)] [] w := by
  intro n
  induction n with
  | zero => intro a1 a3 w hf; cases hf
  | succ n ih =>
    intro a1 a3 w hf
    rw [f_X9_work_70_s] at hf
    refine V_iload_n X dX9_work_70 rfl rfl ?_
    refine V_gload_n X dX9_work_71 rfl rfl ?_
    refine V_geti X ob_85 rfl rfl hin_X9 2 (Nat.le_of_ble_eq_true rfl) tw_1318 rfl dX9_work_72 ?_
    refine V_icmp_ge X (tgt := 101) dX9_work_75 (by decide) hf (fun hf => ?_) (fun hf => ?_)
    · refine V_gload_n X dX9_work_78 rfl rfl ?_
      refine V_getr X ob_85 rfl rfl hin_X9 1 (Nat.le_of_ble_eq_true rfl) tw_1317 rfl dX9_work_79 ?_
      refine V_iload_n X dX9_work_82 rfl rfl ?_
      refine V_gload_n X dX9_work_83 rfl rfl ?_
      refine V_getr X ob_85 rfl rfl hin_X9 17 (Nat.le_of_ble_eq_true rfl) tw_1333 rfl dX9_work_84 ?_
      refine V_bipush X dX9_work_87 (by decide) ?_
      refine V_iload_n X dX9_work_89 rfl rfl ?_
      refine V_imul X dX9_work_90 ?_
      refine V_iload_n X dX9_work_91 rfl rfl ?_
      refine V_iadd X dX9_work_92 ?_
      refine V_iald X ar_98 dX9_work_93 hf (fun hf => ?_)
      refine V_iast X ar_86 dX9_work_94 hf (fun hf => ?_)
      refine V_iinc X dX9_work_95 rfl (by decide) ?_
      refine V_goto X (tgt := 70) dX9_work_98 (by decide) ?_
      exact V_cut [0, 1, 3] rfl (ih _ _ _ hf)
    · refine V_iconst X dX9_work_101 ?_
      exact V_zret X hE dX9_work_102 (Or.inr rfl) hf
set_option maxRecDepth 20000 in
theorem v_X9_work_44 {G : GG} {E : EE} (X : Cx G E cX9_work RX9 (some .boolean) rmX9_work 4) {q : (Int × WS)} (hE : EndI G E q)   {a1 a2 s0 : Int} {w : WS} (hf : f_X9_work_44   a1 a2 s0 w = some q) : VV G E 0 0 44 [(0, gr G 85), (1, vi a1), (2, vi a2)] [vi s0, gr G 85] w := by
  unfold f_X9_work_44 at hf
  refine V_iconst X dX9_work_44 ?_
  refine V_cVI X hf [vi s0, vi 2] _ 2 (fun _ h => m_X9_fails h) ob_85 rfl tw_1580 tw_95 tw_1577 tw_1579 tw_38 dX9_work_45 ⟨by decide +kernel, by decide +kernel, by decide +kernel⟩ ⟨rfl, rfl⟩ ⟨Nat.le_of_ble_eq_true rfl, Nat.le_of_ble_eq_true rfl⟩ rfl (Nat.le_of_ble_eq_true rfl) ⟨Nat.zero_le _, Nat.zero_le _⟩ (fun r4 w4 hf => ?_)
  refine V_if_ne X (tgt := 56) dX9_work_48 (by decide) hf (fun hf => ?_) (fun hf => ?_)
  · refine V_iload_n X dX9_work_51 rfl rfl ?_
    refine V_iconst X dX9_work_52 ?_
    refine V_icmp_ne X (tgt := 58) dX9_work_53 (by decide) hf (fun hf => ?_) (fun hf => ?_)
    · refine V_iconst X dX9_work_56 ?_
      exact V_zret X hE dX9_work_57 (Or.inl rfl) hf
    · refine V_gload_n X dX9_work_58 rfl rfl ?_
      refine V_gload_n X dX9_work_59 rfl rfl ?_
      refine V_getr X ob_85 rfl rfl hin_X9 18 (Nat.le_of_ble_eq_true rfl) tw_1334 rfl dX9_work_60 ?_
      refine V_iload_n X dX9_work_63 rfl rfl ?_
      refine V_iald X ar_99 dX9_work_64 hf (fun hf => ?_)
      refine V_puti X ob_85 rfl rfl hin_X9 2 (Nat.le_of_ble_eq_true rfl) tw_1318 tyX9 tyX9_ok nmX9 rfl (by decide +kernel) rfl dX9_work_65 ?_
      refine V_iconst X dX9_work_68 ?_
      refine V_istore_n X dX9_work_69 rfl (by decide) ?_
      exact V_cut [0, 1, 3] rfl (v_X9_work_70 X hE FU _ _ _ hf)
  · refine V_iconst X dX9_work_56 ?_
    exact V_zret X hE dX9_work_57 (Or.inl rfl) hf
set_option maxRecDepth 20000 in
theorem v_X9_work_19 {G : GG} {E : EE} (X : Cx G E cX9_work RX9 (some .boolean) rmX9_work 4) {q : (Int × WS)} (hE : EndI G E q)   {a1 s0 : Int} {w : WS} (hf : f_X9_work_19   a1 s0 w = some q) : VV G E 0 0 19 [(0, gr G 85), (1, vi a1)] [vi s0, gr G 85] w := by
  unfold f_X9_work_19 at hf
  refine V_iconst X dX9_work_19 ?_
  refine V_cVI X hf [vi s0, vi 1] _ 2 (fun _ h => m_X9_fails h) ob_85 rfl tw_1580 tw_95 tw_1577 tw_1579 tw_38 dX9_work_20 ⟨by decide +kernel, by decide +kernel, by decide +kernel⟩ ⟨rfl, rfl⟩ ⟨Nat.le_of_ble_eq_true rfl, Nat.le_of_ble_eq_true rfl⟩ rfl (Nat.le_of_ble_eq_true rfl) ⟨Nat.zero_le _, Nat.zero_le _⟩ (fun r2 w2 hf => ?_)
  refine V_if_eq X (tgt := 28) dX9_work_23 (by decide) hf (fun hf => ?_) (fun hf => ?_)
  · refine V_gload_n X dX9_work_28 rfl rfl ?_
    refine V_iload_n X dX9_work_29 rfl rfl ?_
    refine V_cVI X hf [vi a1] _ 1 (fun _ h => m_X9_workOut h) ob_85 rfl tw_1674 tw_95 tw_1671 tw_1673 tw_44 dX9_work_30 ⟨by decide +kernel, by decide +kernel, by decide +kernel⟩ ⟨rfl, rfl⟩ ⟨Nat.le_of_ble_eq_true rfl, Nat.le_of_ble_eq_true rfl⟩ rfl (Nat.le_of_ble_eq_true rfl) ⟨Nat.zero_le _, Nat.zero_le _⟩ (fun r3 w3 hf => ?_)
    refine V_istore_n X dX9_work_33 rfl (by decide) ?_
    refine V_gload_n X dX9_work_34 rfl rfl ?_
    refine V_iload_n X dX9_work_35 rfl rfl ?_
    refine V_if_le X (tgt := 43) dX9_work_36 (by decide) hf (fun hf => ?_) (fun hf => ?_)
    · refine V_iconst X dX9_work_39 ?_
      refine V_goto X (tgt := 44) dX9_work_40 (by decide) ?_
      exact V_cut [0, 1, 2] rfl (v_X9_work_44 X hE hf)
    · refine V_iconst X dX9_work_43 ?_
      exact V_cut [0, 1, 2] rfl (v_X9_work_44 X hE hf)
  · refine V_iconst X dX9_work_26 ?_
    exact V_zret X hE dX9_work_27 (Or.inl rfl) hf
set_option maxRecDepth 20000 in
theorem m_X9_work {G : GG} {a1 : Int} {w : WS} {q : (Int × WS)}  (hf : f_X9_work a1 w = some q) : MI G yX9_work cX9_work 4 (some .boolean) rmX9_work [gr G 85, vi a1] w q := by
  refine MI_of (by decide +kernel) (Nat.le_of_ble_eq_true rfl) (fun E X hE => ?_)
  have X : Cx G E cX9_work RX9 (some .boolean) rmX9_work 4 := X
  unfold f_X9_work at hf
  refine V_gload_n X dX9_work_0 rfl rfl ?_
  refine V_iconst X dX9_work_1 ?_
  refine V_puti X ob_85 rfl rfl hin_X9 0 (Nat.le_of_ble_eq_true rfl) tw_1316 tyX9 tyX9_ok nmX9 rfl (by decide +kernel) rfl dX9_work_2 ?_
  refine V_gload_n X dX9_work_5 rfl rfl ?_
  refine V_gload_n X dX9_work_6 rfl rfl ?_
  refine V_iload_n X dX9_work_7 rfl rfl ?_
  refine V_cVI X hf [vi a1] _ 1 (fun _ h => m_X9_isTerm h) ob_85 rfl tw_1631 tw_95 tw_1628 tw_1630 tw_41 dX9_work_8 ⟨by decide +kernel, by decide +kernel, by decide +kernel⟩ ⟨rfl, rfl⟩ ⟨Nat.le_of_ble_eq_true rfl, Nat.le_of_ble_eq_true rfl⟩ rfl (Nat.le_of_ble_eq_true rfl) ⟨Nat.zero_le _, Nat.zero_le _⟩ (fun r1 w1 hf => ?_)
  refine V_if_ne X (tgt := 18) dX9_work_11 (by decide) hf (fun hf => ?_) (fun hf => ?_)
  · refine V_iconst X dX9_work_14 ?_
    refine V_goto X (tgt := 19) dX9_work_15 (by decide) ?_
    exact V_cut [0, 1] rfl (v_X9_work_19 X hE hf)
  · refine V_iconst X dX9_work_18 ?_
    exact V_cut [0, 1] rfl (v_X9_work_19 X hE hf)
abbrev rmX9_typed : Room := { frames := 1, cells := 0, slots := 0, locals := 25 }
set_option maxRecDepth 20000 in
theorem v_X9_typed_27 {G : GG} {E : EE} (X : Cx G E cX9_typed RX9 (some .int) rmX9_typed 2) {q : (Int × WS)} (hE : EndI G E q)   {a1 s0 : Int} {w : WS} (hf : f_X9_typed_27   a1 s0 w = some q) : VV G E 0 0 27 [(0, gr G 85), (1, vi a1)] [vi s0, gr G 85] w := by
  unfold f_X9_typed_27 at hf
  refine V_iconst X dX9_typed_27 ?_
  refine V_cVI X hf [vi s0, vi 1] _ 2 (fun _ h => m_X9_fails h) ob_85 rfl tw_1580 tw_95 tw_1577 tw_1579 tw_38 dX9_typed_28 ⟨by decide +kernel, by decide +kernel, by decide +kernel⟩ ⟨rfl, rfl⟩ ⟨Nat.le_of_ble_eq_true rfl, Nat.le_of_ble_eq_true rfl⟩ rfl (Nat.le_of_ble_eq_true rfl) ⟨Nat.zero_le _, Nat.zero_le _⟩ (fun r2 w2 hf => ?_)
  refine V_if_eq X (tgt := 38) dX9_typed_31 (by decide) hf (fun hf => ?_) (fun hf => ?_)
  · refine V_gload_n X dX9_typed_38 rfl rfl ?_
    refine V_getr X ob_85 rfl rfl hin_X9 1 (Nat.le_of_ble_eq_true rfl) tw_1317 rfl dX9_typed_39 ?_
    refine V_iload_n X dX9_typed_42 rfl rfl ?_
    refine V_iald X ar_86 dX9_typed_43 hf (fun hf => ?_)
    exact V_iret X hE dX9_typed_44 hf
  · refine V_iconst X dX9_typed_34 ?_
    refine V_goto X (tgt := 44) dX9_typed_35 (by decide) ?_
    exact V_iret X hE dX9_typed_44 hf
set_option maxRecDepth 20000 in
theorem m_X9_typed {G : GG} {a1 : Int} {w : WS} {q : (Int × WS)}  (hf : f_X9_typed a1 w = some q) : MI G yX9_typed cX9_typed 2 (some .int) rmX9_typed [gr G 85, vi a1] w q := by
  refine MI_of (by decide +kernel) (Nat.le_of_ble_eq_true rfl) (fun E X hE => ?_)
  have X : Cx G E cX9_typed RX9 (some .int) rmX9_typed 2 := X
  unfold f_X9_typed at hf
  refine V_gload_n X dX9_typed_0 rfl rfl ?_
  refine V_iconst X dX9_typed_1 ?_
  refine V_puti X ob_85 rfl rfl hin_X9 0 (Nat.le_of_ble_eq_true rfl) tw_1316 tyX9 tyX9_ok nmX9 rfl (by decide +kernel) rfl dX9_typed_2 ?_
  refine V_gload_n X dX9_typed_5 rfl rfl ?_
  refine V_iload_n X dX9_typed_6 rfl rfl ?_
  refine V_i2l X dX9_typed_7 ?_
  refine V_lconst (a := 0) X dX9_typed_8 (by decide) ?_
  refine V_gload_n X dX9_typed_9 rfl rfl ?_
  refine V_geti X ob_85 rfl rfl hin_X9 2 (Nat.le_of_ble_eq_true rfl) tw_1318 rfl dX9_typed_10 ?_
  refine V_iconst X dX9_typed_13 ?_
  refine V_isub X dX9_typed_14 ?_
  refine V_i2l X dX9_typed_15 ?_
  refine V_cSI X hf [vl (wr a1), vl 0, vl (wr (((up w 85 0 0) 85 2) - 1))] _ 3 (fun _ h => m_X9_in h) tw_1574 tw_95 tw_1572 tw_1573 dX9_typed_16 ⟨by decide +kernel, by decide +kernel, by decide +kernel⟩ ⟨rfl, rfl⟩ ⟨Nat.le_of_ble_eq_true rfl, Nat.le_of_ble_eq_true rfl⟩ rfl (Nat.le_of_ble_eq_true rfl) ⟨Nat.zero_le _, Nat.zero_le _⟩ (fun r1 w1 hf => ?_)
  refine V_if_ne X (tgt := 26) dX9_typed_19 (by decide) hf (fun hf => ?_) (fun hf => ?_)
  · refine V_iconst X dX9_typed_22 ?_
    refine V_goto X (tgt := 27) dX9_typed_23 (by decide) ?_
    exact V_cut [0, 1] rfl (v_X9_typed_27 X hE hf)
  · refine V_iconst X dX9_typed_26 ?_
    exact V_cut [0, 1] rfl (v_X9_typed_27 X hE hf)
abbrev rmX9_statements : Room := { frames := 0, cells := 0, slots := 0, locals := 0 }
set_option maxRecDepth 20000 in
theorem m_X9_statements {G : GG}  {w : WS} {q : (Int × WS)}  (hf : f_X9_statements  w = some q) : MI G yX9_statements cX9_statements 1 (some .int) rmX9_statements [gr G 85] w q := by
  refine MI_of (by decide +kernel) (Nat.le_of_ble_eq_true rfl) (fun E X hE => ?_)
  have X : Cx G E cX9_statements RX9 (some .int) rmX9_statements 1 := X
  unfold f_X9_statements at hf
  refine V_gload_n X dX9_statements_0 rfl rfl ?_
  refine V_iconst X dX9_statements_1 ?_
  refine V_puti X ob_85 rfl rfl hin_X9 0 (Nat.le_of_ble_eq_true rfl) tw_1316 tyX9 tyX9_ok nmX9 rfl (by decide +kernel) rfl dX9_statements_2 ?_
  refine V_gload_n X dX9_statements_5 rfl rfl ?_
  refine V_geti X ob_85 rfl rfl hin_X9 51 (Nat.le_of_ble_eq_true rfl) tw_1367 rfl dX9_statements_6 ?_
  exact V_iret X hE dX9_statements_9 hf
abbrev rmX9_checksum : Room := { frames := 0, cells := 0, slots := 0, locals := 0 }
set_option maxRecDepth 20000 in
theorem v_X9_checksum_20 {G : GG} {E : EE} (X : Cx G E cX9_checksum RX9 (some .long) rmX9_checksum 5) {q : (Int × WS)} (hE : EndL G E q)   {k11 : Int → Int → WS → Option (Int × WS)} (hk11 : ∀ (a1 a3 : Int) (w : WS), k11 a1 a3 w = some q → VV G E 0 0 11 [(0, gr G 85), (1, vl a1), (3, vi a3)] [] w) : ∀ (n : Nat) (a1 a3 a4 : Int) (w : WS), f_X9_checksum_20  k11 n a1 a3 a4 w = some q → VV G E 0 0 20 [(0, gr G 85), (1, vl a1), (3, vi a3), (4, vi a4)] [] w := by
  intro n
  induction n with
  | zero => intro a1 a3 a4 w hf; cases hf
  | succ n ih =>
    intro a1 a3 a4 w hf
    rw [f_X9_checksum_20_s] at hf
    refine V_iload X dX9_checksum_20 rfl ?_
    refine V_gload_n X dX9_checksum_22 rfl rfl ?_
    refine V_getr X ob_85 rfl rfl hin_X9 7 (Nat.le_of_ble_eq_true rfl) tw_1323 rfl dX9_checksum_23 ?_
    refine V_iload_n X dX9_checksum_26 rfl rfl ?_
    refine V_iald X ar_90 dX9_checksum_27 hf (fun hf => ?_)
    refine V_icmp_ge X (tgt := 57) dX9_checksum_28 (by decide) hf (fun hf => ?_) (fun hf => ?_)
    · refine V_ldc2 (a := 31) X tw_1915 dX9_checksum_31 (by decide) ?_
      refine V_lload_n X dX9_checksum_34 rfl rfl ?_
      refine V_lmul X dX9_checksum_35 ?_
      refine V_gload_n X dX9_checksum_36 rfl rfl ?_
      refine V_getr X ob_85 rfl rfl hin_X9 6 (Nat.le_of_ble_eq_true rfl) tw_1322 rfl dX9_checksum_37 ?_
      refine V_bipush X dX9_checksum_40 (by decide) ?_
      refine V_iload_n X dX9_checksum_42 rfl rfl ?_
      refine V_imul X dX9_checksum_43 ?_
      refine V_iload X dX9_checksum_44 rfl ?_
      refine V_iadd X dX9_checksum_46 ?_
      refine V_iald X ar_89 dX9_checksum_47 hf (fun hf => ?_)
      refine V_i2l X dX9_checksum_48 ?_
      refine V_ladd X dX9_checksum_49 ?_
      refine V_lstore_n X dX9_checksum_50 rfl (by decide) ?_
      refine V_iinc X dX9_checksum_51 rfl (by decide) ?_
      refine V_goto X (tgt := 20) dX9_checksum_54 (by decide) ?_
      exact V_cut [0, 1, 3, 4] rfl (ih _ _ _ _ hf)
    · refine V_ldc2 (a := 31) X tw_1915 dX9_checksum_57 (by decide) ?_
      refine V_lload_n X dX9_checksum_60 rfl rfl ?_
      refine V_lmul X dX9_checksum_61 ?_
      refine V_gload_n X dX9_checksum_62 rfl rfl ?_
      refine V_getr X ob_85 rfl rfl hin_X9 7 (Nat.le_of_ble_eq_true rfl) tw_1323 rfl dX9_checksum_63 ?_
      refine V_iload_n X dX9_checksum_66 rfl rfl ?_
      refine V_iald X ar_90 dX9_checksum_67 hf (fun hf => ?_)
      refine V_i2l X dX9_checksum_68 ?_
      refine V_ladd X dX9_checksum_69 ?_
      refine V_lstore_n X dX9_checksum_70 rfl (by decide) ?_
      refine V_iinc X dX9_checksum_71 rfl (by decide) ?_
      refine V_goto X (tgt := 11) dX9_checksum_74 (by decide) ?_
      exact V_cut [0, 1, 3] rfl (hk11 _ _ _ hf)
set_option maxRecDepth 20000 in
theorem v_X9_checksum_11 {G : GG} {E : EE} (X : Cx G E cX9_checksum RX9 (some .long) rmX9_checksum 5) {q : (Int × WS)} (hE : EndL G E q)   : ∀ (n : Nat) (a1 a3 : Int) (w : WS), f_X9_checksum_11   n a1 a3 w = some q → VV G E 0 0 11 [(0, gr G 85), (1, vl a1), (3, vi a3)] [] w := by
  intro n
  induction n with
  | zero => intro a1 a3 w hf; cases hf
  | succ n ih =>
    intro a1 a3 w hf
    rw [f_X9_checksum_11_s] at hf
    refine V_iload_n X dX9_checksum_11 rfl rfl ?_
    refine V_bipush X dX9_checksum_12 (by decide) ?_
    refine V_icmp_ge X (tgt := 77) dX9_checksum_14 (by decide) hf (fun hf => ?_) (fun hf => ?_)
    · refine V_iconst X dX9_checksum_17 ?_
      refine V_istore X dX9_checksum_18 (by decide) ?_
      exact V_cut [0, 1, 3, 4] rfl (v_X9_checksum_20 X hE (fun x0 x1 x hf => ih x0 x1 x hf) FU _ _ _ _ hf)
    · refine V_lload_n X dX9_checksum_77 rfl rfl ?_
      exact V_lret X hE dX9_checksum_78 hf
set_option maxRecDepth 20000 in
theorem m_X9_checksum {G : GG}  {w : WS} {q : (Int × WS)}  (hf : f_X9_checksum  w = some q) : ML G yX9_checksum cX9_checksum 5 (some .long) rmX9_checksum [gr G 85] w q := by
  refine ML_of (by decide +kernel) (Nat.le_of_ble_eq_true rfl) (fun E X hE => ?_)
  have X : Cx G E cX9_checksum RX9 (some .long) rmX9_checksum 5 := X
  unfold f_X9_checksum at hf
  refine V_gload_n X dX9_checksum_0 rfl rfl ?_
  refine V_iconst X dX9_checksum_1 ?_
  refine V_puti X ob_85 rfl rfl hin_X9 0 (Nat.le_of_ble_eq_true rfl) tw_1316 tyX9 tyX9_ok nmX9 rfl (by decide +kernel) rfl dX9_checksum_2 ?_
  refine V_ldc2 (a := 7) X tw_1914 dX9_checksum_5 (by decide) ?_
  refine V_lstore_n X dX9_checksum_8 rfl (by decide) ?_
  refine V_iconst X dX9_checksum_9 ?_
  refine V_istore_n X dX9_checksum_10 rfl (by decide) ?_
  exact V_cut [0, 1, 3] rfl (v_X9_checksum_11 X hE FU _ _ _ hf)
abbrev rmX9_isSound : Room := { frames := 0, cells := 0, slots := 0, locals := 0 }
set_option maxRecDepth 20000 in
theorem m_X9_isSound {G : GG}  {w : WS} {q : (Int × WS)}  (hf : f_X9_isSound  w = some q) : MI G yX9_isSound cX9_isSound 1 (some .boolean) rmX9_isSound [gr G 85] w q := by
  refine MI_of (by decide +kernel) (Nat.le_of_ble_eq_true rfl) (fun E X hE => ?_)
  have X : Cx G E cX9_isSound RX9 (some .boolean) rmX9_isSound 1 := X
  unfold f_X9_isSound at hf
  refine V_gload_n X dX9_isSound_0 rfl rfl ?_
  refine V_iconst X dX9_isSound_1 ?_
  refine V_puti X ob_85 rfl rfl hin_X9 0 (Nat.le_of_ble_eq_true rfl) tw_1316 tyX9 tyX9_ok nmX9 rfl (by decide +kernel) rfl dX9_isSound_2 ?_
  refine V_iconst X dX9_isSound_5 ?_
  exact V_zret X hE dX9_isSound_6 (Or.inr rfl) hf
