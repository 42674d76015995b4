theorem ob_0 : 0 < NC ∧ ck 0 = .inl 10 := ⟨Nat.le_of_ble_eq_true rfl, rfl⟩
theorem ob_1 : 1 < NC ∧ ck 1 = .inl 8 := ⟨Nat.le_of_ble_eq_true rfl, rfl⟩
theorem ar_2 : 2 < NC ∧ ck 2 = .inr (0, 60) := ⟨Nat.le_of_ble_eq_true rfl, rfl⟩
theorem ar_3 : 3 < NC ∧ ck 3 = .inr (0, 1) := ⟨Nat.le_of_ble_eq_true rfl, rfl⟩
theorem ob_4 : 4 < NC ∧ ck 4 = .inl 8 := ⟨Nat.le_of_ble_eq_true rfl, rfl⟩
theorem ar_5 : 5 < NC ∧ ck 5 = .inr (0, 600) := ⟨Nat.le_of_ble_eq_true rfl, rfl⟩
theorem ar_6 : 6 < NC ∧ ck 6 = .inr (0, 30) := ⟨Nat.le_of_ble_eq_true rfl, rfl⟩
theorem ob_7 : 7 < NC ∧ ck 7 = .inl 8 := ⟨Nat.le_of_ble_eq_true rfl, rfl⟩
theorem ar_8 : 8 < NC ∧ ck 8 = .inr (0, 1560) := ⟨Nat.le_of_ble_eq_true rfl, rfl⟩
theorem ar_9 : 9 < NC ∧ ck 9 = .inr (0, 26) := ⟨Nat.le_of_ble_eq_true rfl, rfl⟩
theorem ob_10 : 10 < NC ∧ ck 10 = .inl 8 := ⟨Nat.le_of_ble_eq_true rfl, rfl⟩
theorem ar_11 : 11 < NC ∧ ck 11 = .inr (0, 1560) := ⟨Nat.le_of_ble_eq_true rfl, rfl⟩
theorem ar_12 : 12 < NC ∧ ck 12 = .inr (0, 26) := ⟨Nat.le_of_ble_eq_true rfl, rfl⟩
theorem ob_13 : 13 < NC ∧ ck 13 = .inl 8 := ⟨Nat.le_of_ble_eq_true rfl, rfl⟩
theorem ar_14 : 14 < NC ∧ ck 14 = .inr (0, 60) := ⟨Nat.le_of_ble_eq_true rfl, rfl⟩
theorem ar_15 : 15 < NC ∧ ck 15 = .inr (0, 1) := ⟨Nat.le_of_ble_eq_true rfl, rfl⟩
theorem ob_16 : 16 < NC ∧ ck 16 = .inl 8 := ⟨Nat.le_of_ble_eq_true rfl, rfl⟩
theorem ar_17 : 17 < NC ∧ ck 17 = .inr (0, 3000) := ⟨Nat.le_of_ble_eq_true rfl, rfl⟩
theorem ar_18 : 18 < NC ∧ ck 18 = .inr (0, 50) := ⟨Nat.le_of_ble_eq_true rfl, rfl⟩
theorem ob_19 : 19 < NC ∧ ck 19 = .inl 8 := ⟨Nat.le_of_ble_eq_true rfl, rfl⟩
theorem ar_20 : 20 < NC ∧ ck 20 = .inr (0, 60) := ⟨Nat.le_of_ble_eq_true rfl, rfl⟩
theorem ar_21 : 21 < NC ∧ ck 21 = .inr (0, 1) := ⟨Nat.le_of_ble_eq_true rfl, rfl⟩
theorem ob_22 : 22 < NC ∧ ck 22 = .inl 8 := ⟨Nat.le_of_ble_eq_true rfl, rfl⟩
theorem ar_23 : 23 < NC ∧ ck 23 = .inr (0, 1800) := ⟨Nat.le_of_ble_eq_true rfl, rfl⟩
theorem ar_24 : 24 < NC ∧ ck 24 = .inr (0, 30) := ⟨Nat.le_of_ble_eq_true rfl, rfl⟩
theorem ob_25 : 25 < NC ∧ ck 25 = .inl 2 := ⟨Nat.le_of_ble_eq_true rfl, rfl⟩
theorem ob_26 : 26 < NC ∧ ck 26 = .inl 3 := ⟨Nat.le_of_ble_eq_true rfl, rfl⟩
theorem ar_27 : 27 < NC ∧ ck 27 = .inr (0, 50) := ⟨Nat.le_of_ble_eq_true rfl, rfl⟩
theorem ob_28 : 28 < NC ∧ ck 28 = .inl 3 := ⟨Nat.le_of_ble_eq_true rfl, rfl⟩
theorem ar_29 : 29 < NC ∧ ck 29 = .inr (0, 50) := ⟨Nat.le_of_ble_eq_true rfl, rfl⟩
theorem ob_30 : 30 < NC ∧ ck 30 = .inl 3 := ⟨Nat.le_of_ble_eq_true rfl, rfl⟩
theorem ar_31 : 31 < NC ∧ ck 31 = .inr (0, 50) := ⟨Nat.le_of_ble_eq_true rfl, rfl⟩
theorem ob_32 : 32 < NC ∧ ck 32 = .inl 2 := ⟨Nat.le_of_ble_eq_true rfl, rfl⟩
theorem ob_33 : 33 < NC ∧ ck 33 = .inl 3 := ⟨Nat.le_of_ble_eq_true rfl, rfl⟩
theorem ar_34 : 34 < NC ∧ ck 34 = .inr (0, 50) := ⟨Nat.le_of_ble_eq_true rfl, rfl⟩
theorem ob_35 : 35 < NC ∧ ck 35 = .inl 3 := ⟨Nat.le_of_ble_eq_true rfl, rfl⟩
theorem ar_36 : 36 < NC ∧ ck 36 = .inr (0, 50) := ⟨Nat.le_of_ble_eq_true rfl, rfl⟩
theorem ob_37 : 37 < NC ∧ ck 37 = .inl 3 := ⟨Nat.le_of_ble_eq_true rfl, rfl⟩
theorem ar_38 : 38 < NC ∧ ck 38 = .inr (0, 50) := ⟨Nat.le_of_ble_eq_true rfl, rfl⟩
theorem ob_39 : 39 < NC ∧ ck 39 = .inl 4 := ⟨Nat.le_of_ble_eq_true rfl, rfl⟩
theorem ob_40 : 40 < NC ∧ ck 40 = .inl 5 := ⟨Nat.le_of_ble_eq_true rfl, rfl⟩
theorem ar_41 : 41 < NC ∧ ck 41 = .inr (0, 6000) := ⟨Nat.le_of_ble_eq_true rfl, rfl⟩
theorem ar_42 : 42 < NC ∧ ck 42 = .inr (0, 6000) := ⟨Nat.le_of_ble_eq_true rfl, rfl⟩
theorem ar_43 : 43 < NC ∧ ck 43 = .inr (0, 6000) := ⟨Nat.le_of_ble_eq_true rfl, rfl⟩
theorem ob_44 : 44 < NC ∧ ck 44 = .inl 5 := ⟨Nat.le_of_ble_eq_true rfl, rfl⟩
theorem ar_45 : 45 < NC ∧ ck 45 = .inr (0, 6000) := ⟨Nat.le_of_ble_eq_true rfl, rfl⟩
theorem ar_46 : 46 < NC ∧ ck 46 = .inr (0, 6000) := ⟨Nat.le_of_ble_eq_true rfl, rfl⟩
theorem ar_47 : 47 < NC ∧ ck 47 = .inr (0, 6000) := ⟨Nat.le_of_ble_eq_true rfl, rfl⟩
theorem ob_48 : 48 < NC ∧ ck 48 = .inl 3 := ⟨Nat.le_of_ble_eq_true rfl, rfl⟩
theorem ar_49 : 49 < NC ∧ ck 49 = .inr (0, 6000) := ⟨Nat.le_of_ble_eq_true rfl, rfl⟩
theorem ob_50 : 50 < NC ∧ ck 50 = .inl 5 := ⟨Nat.le_of_ble_eq_true rfl, rfl⟩
theorem ar_51 : 51 < NC ∧ ck 51 = .inr (0, 3000) := ⟨Nat.le_of_ble_eq_true rfl, rfl⟩
theorem ar_52 : 52 < NC ∧ ck 52 = .inr (0, 3000) := ⟨Nat.le_of_ble_eq_true rfl, rfl⟩
theorem ar_53 : 53 < NC ∧ ck 53 = .inr (0, 3000) := ⟨Nat.le_of_ble_eq_true rfl, rfl⟩
theorem ob_54 : 54 < NC ∧ ck 54 = .inl 7 := ⟨Nat.le_of_ble_eq_true rfl, rfl⟩
theorem ob_55 : 55 < NC ∧ ck 55 = .inl 3 := ⟨Nat.le_of_ble_eq_true rfl, rfl⟩
theorem ar_56 : 56 < NC ∧ ck 56 = .inr (0, 50) := ⟨Nat.le_of_ble_eq_true rfl, rfl⟩
theorem ob_57 : 57 < NC ∧ ck 57 = .inl 6 := ⟨Nat.le_of_ble_eq_true rfl, rfl⟩
theorem ob_58 : 58 < NC ∧ ck 58 = .inl 3 := ⟨Nat.le_of_ble_eq_true rfl, rfl⟩
theorem ar_59 : 59 < NC ∧ ck 59 = .inr (0, 40) := ⟨Nat.le_of_ble_eq_true rfl, rfl⟩
theorem ob_60 : 60 < NC ∧ ck 60 = .inl 3 := ⟨Nat.le_of_ble_eq_true rfl, rfl⟩
theorem ar_61 : 61 < NC ∧ ck 61 = .inr (0, 40) := ⟨Nat.le_of_ble_eq_true rfl, rfl⟩
theorem ob_62 : 62 < NC ∧ ck 62 = .inl 3 := ⟨Nat.le_of_ble_eq_true rfl, rfl⟩
theorem ar_63 : 63 < NC ∧ ck 63 = .inr (0, 40) := ⟨Nat.le_of_ble_eq_true rfl, rfl⟩
theorem ob_64 : 64 < NC ∧ ck 64 = .inl 3 := ⟨Nat.le_of_ble_eq_true rfl, rfl⟩
theorem ar_65 : 65 < NC ∧ ck 65 = .inr (0, 40) := ⟨Nat.le_of_ble_eq_true rfl, rfl⟩
theorem ob_66 : 66 < NC ∧ ck 66 = .inl 3 := ⟨Nat.le_of_ble_eq_true rfl, rfl⟩
theorem ar_67 : 67 < NC ∧ ck 67 = .inr (0, 40) := ⟨Nat.le_of_ble_eq_true rfl, rfl⟩
theorem ob_68 : 68 < NC ∧ ck 68 = .inl 3 := ⟨Nat.le_of_ble_eq_true rfl, rfl⟩
theorem ar_69 : 69 < NC ∧ ck 69 = .inr (0, 40) := ⟨Nat.le_of_ble_eq_true rfl, rfl⟩
theorem ob_70 : 70 < NC ∧ ck 70 = .inl 3 := ⟨Nat.le_of_ble_eq_true rfl, rfl⟩
theorem ar_71 : 71 < NC ∧ ck 71 = .inr (0, 5) := ⟨Nat.le_of_ble_eq_true rfl, rfl⟩
theorem ob_72 : 72 < NC ∧ ck 72 = .inl 3 := ⟨Nat.le_of_ble_eq_true rfl, rfl⟩
theorem ar_73 : 73 < NC ∧ ck 73 = .inr (0, 5) := ⟨Nat.le_of_ble_eq_true rfl, rfl⟩
theorem ob_74 : 74 < NC ∧ ck 74 = .inl 3 := ⟨Nat.le_of_ble_eq_true rfl, rfl⟩
theorem ar_75 : 75 < NC ∧ ck 75 = .inr (0, 15) := ⟨Nat.le_of_ble_eq_true rfl, rfl⟩
theorem ob_76 : 76 < NC ∧ ck 76 = .inl 9 := ⟨Nat.le_of_ble_eq_true rfl, rfl⟩
theorem ob_77 : 77 < NC ∧ ck 77 = .inl 3 := ⟨Nat.le_of_ble_eq_true rfl, rfl⟩
theorem ar_78 : 78 < NC ∧ ck 78 = .inr (0, 10) := ⟨Nat.le_of_ble_eq_true rfl, rfl⟩
theorem ob_79 : 79 < NC ∧ ck 79 = .inl 3 := ⟨Nat.le_of_ble_eq_true rfl, rfl⟩
theorem ar_80 : 80 < NC ∧ ck 80 = .inr (0, 40) := ⟨Nat.le_of_ble_eq_true rfl, rfl⟩
theorem ob_81 : 81 < NC ∧ ck 81 = .inl 3 := ⟨Nat.le_of_ble_eq_true rfl, rfl⟩
theorem ar_82 : 82 < NC ∧ ck 82 = .inr (0, 40) := ⟨Nat.le_of_ble_eq_true rfl, rfl⟩
theorem ob_83 : 83 < NC ∧ ck 83 = .inl 3 := ⟨Nat.le_of_ble_eq_true rfl, rfl⟩
theorem ar_84 : 84 < NC ∧ ck 84 = .inr (0, 200) := ⟨Nat.le_of_ble_eq_true rfl, rfl⟩
theorem ob_85 : 85 < NC ∧ ck 85 = .inl 11 := ⟨Nat.le_of_ble_eq_true rfl, rfl⟩
theorem ar_86 : 86 < NC ∧ ck 86 = .inr (0, 60) := ⟨Nat.le_of_ble_eq_true rfl, rfl⟩
theorem ar_87 : 87 < NC ∧ ck 87 = .inr (0, 600) := ⟨Nat.le_of_ble_eq_true rfl, rfl⟩
theorem ar_88 : 88 < NC ∧ ck 88 = .inr (0, 30) := ⟨Nat.le_of_ble_eq_true rfl, rfl⟩
theorem ar_89 : 89 < NC ∧ ck 89 = .inr (0, 1560) := ⟨Nat.le_of_ble_eq_true rfl, rfl⟩
theorem ar_90 : 90 < NC ∧ ck 90 = .inr (0, 26) := ⟨Nat.le_of_ble_eq_true rfl, rfl⟩
theorem ar_91 : 91 < NC ∧ ck 91 = .inr (1, 50) := ⟨Nat.le_of_ble_eq_true rfl, rfl⟩
theorem ar_92 : 92 < NC ∧ ck 92 = .inr (0, 50) := ⟨Nat.le_of_ble_eq_true rfl, rfl⟩
theorem ar_93 : 93 < NC ∧ ck 93 = .inr (0, 50) := ⟨Nat.le_of_ble_eq_true rfl, rfl⟩
theorem ar_94 : 94 < NC ∧ ck 94 = .inr (1, 50) := ⟨Nat.le_of_ble_eq_true rfl, rfl⟩
theorem ar_95 : 95 < NC ∧ ck 95 = .inr (0, 50) := ⟨Nat.le_of_ble_eq_true rfl, rfl⟩
theorem ar_96 : 96 < NC ∧ ck 96 = .inr (0, 50) := ⟨Nat.le_of_ble_eq_true rfl, rfl⟩
theorem ar_97 : 97 < NC ∧ ck 97 = .inr (2, 50) := ⟨Nat.le_of_ble_eq_true rfl, rfl⟩
theorem ar_98 : 98 < NC ∧ ck 98 = .inr (0, 3000) := ⟨Nat.le_of_ble_eq_true rfl, rfl⟩
theorem ar_99 : 99 < NC ∧ ck 99 = .inr (0, 50) := ⟨Nat.le_of_ble_eq_true rfl, rfl⟩
theorem ar_100 : 100 < NC ∧ ck 100 = .inr (0, 60) := ⟨Nat.le_of_ble_eq_true rfl, rfl⟩
theorem ar_101 : 101 < NC ∧ ck 101 = .inr (0, 13000) := ⟨Nat.le_of_ble_eq_true rfl, rfl⟩
theorem ar_102 : 102 < NC ∧ ck 102 = .inr (0, 13000) := ⟨Nat.le_of_ble_eq_true rfl, rfl⟩
theorem ar_103 : 103 < NC ∧ ck 103 = .inr (0, 13000) := ⟨Nat.le_of_ble_eq_true rfl, rfl⟩
theorem ar_104 : 104 < NC ∧ ck 104 = .inr (0, 13000) := ⟨Nat.le_of_ble_eq_true rfl, rfl⟩
theorem ar_105 : 105 < NC ∧ ck 105 = .inr (0, 7000) := ⟨Nat.le_of_ble_eq_true rfl, rfl⟩
theorem ar_106 : 106 < NC ∧ ck 106 = .inr (0, 7000) := ⟨Nat.le_of_ble_eq_true rfl, rfl⟩
theorem ar_107 : 107 < NC ∧ ck 107 = .inr (0, 7000) := ⟨Nat.le_of_ble_eq_true rfl, rfl⟩
theorem ar_108 : 108 < NC ∧ ck 108 = .inr (0, 7000) := ⟨Nat.le_of_ble_eq_true rfl, rfl⟩
theorem ar_109 : 109 < NC ∧ ck 109 = .inr (0, 7000) := ⟨Nat.le_of_ble_eq_true rfl, rfl⟩
theorem ar_110 : 110 < NC ∧ ck 110 = .inr (0, 7000) := ⟨Nat.le_of_ble_eq_true rfl, rfl⟩
theorem ar_111 : 111 < NC ∧ ck 111 = .inr (0, 4000) := ⟨Nat.le_of_ble_eq_true rfl, rfl⟩
theorem ar_112 : 112 < NC ∧ ck 112 = .inr (0, 4000) := ⟨Nat.le_of_ble_eq_true rfl, rfl⟩
theorem ar_113 : 113 < NC ∧ ck 113 = .inr (0, 4000) := ⟨Nat.le_of_ble_eq_true rfl, rfl⟩
theorem ar_114 : 114 < NC ∧ ck 114 = .inr (1, 40) := ⟨Nat.le_of_ble_eq_true rfl, rfl⟩
theorem ar_115 : 115 < NC ∧ ck 115 = .inr (0, 40) := ⟨Nat.le_of_ble_eq_true rfl, rfl⟩
theorem ar_116 : 116 < NC ∧ ck 116 = .inr (0, 40) := ⟨Nat.le_of_ble_eq_true rfl, rfl⟩
theorem ar_117 : 117 < NC ∧ ck 117 = .inr (0, 40) := ⟨Nat.le_of_ble_eq_true rfl, rfl⟩
theorem ar_118 : 118 < NC ∧ ck 118 = .inr (0, 40) := ⟨Nat.le_of_ble_eq_true rfl, rfl⟩
theorem ar_119 : 119 < NC ∧ ck 119 = .inr (0, 40) := ⟨Nat.le_of_ble_eq_true rfl, rfl⟩
theorem ar_120 : 120 < NC ∧ ck 120 = .inr (2, 5) := ⟨Nat.le_of_ble_eq_true rfl, rfl⟩
theorem ar_121 : 121 < NC ∧ ck 121 = .inr (0, 5) := ⟨Nat.le_of_ble_eq_true rfl, rfl⟩
theorem ar_122 : 122 < NC ∧ ck 122 = .inr (0, 5) := ⟨Nat.le_of_ble_eq_true rfl, rfl⟩
theorem ar_123 : 123 < NC ∧ ck 123 = .inr (0, 5) := ⟨Nat.le_of_ble_eq_true rfl, rfl⟩
theorem ar_124 : 124 < NC ∧ ck 124 = .inr (0, 5) := ⟨Nat.le_of_ble_eq_true rfl, rfl⟩
theorem ar_125 : 125 < NC ∧ ck 125 = .inr (0, 40) := ⟨Nat.le_of_ble_eq_true rfl, rfl⟩
theorem ar_126 : 126 < NC ∧ ck 126 = .inr (0, 40) := ⟨Nat.le_of_ble_eq_true rfl, rfl⟩
theorem ar_127 : 127 < NC ∧ ck 127 = .inr (0, 10) := ⟨Nat.le_of_ble_eq_true rfl, rfl⟩
theorem ar_128 : 128 < NC ∧ ck 128 = .inr (0, 10) := ⟨Nat.le_of_ble_eq_true rfl, rfl⟩
theorem ar_129 : 129 < NC ∧ ck 129 = .inr (0, 1800) := ⟨Nat.le_of_ble_eq_true rfl, rfl⟩
theorem ar_130 : 130 < NC ∧ ck 130 = .inr (0, 30) := ⟨Nat.le_of_ble_eq_true rfl, rfl⟩
theorem ar_131 : 131 < NC ∧ ck 131 = .inr (0, 60) := ⟨Nat.le_of_ble_eq_true rfl, rfl⟩
theorem ar_132 : 132 < NC ∧ ck 132 = .inr (0, 1560) := ⟨Nat.le_of_ble_eq_true rfl, rfl⟩
theorem ar_133 : 133 < NC ∧ ck 133 = .inr (0, 26) := ⟨Nat.le_of_ble_eq_true rfl, rfl⟩
theorem ar_134 : 134 < NC ∧ ck 134 = .inr (0, 200) := ⟨Nat.le_of_ble_eq_true rfl, rfl⟩
theorem ar_135 : 135 < NC ∧ ck 135 = .inr (3, 1) := ⟨Nat.le_of_ble_eq_true rfl, rfl⟩
theorem ar_136 : 136 < NC ∧ ck 136 = .inr (4, 1) := ⟨Nat.le_of_ble_eq_true rfl, rfl⟩
theorem is_25 : isX0 25 := by unfold isX0; decide
theorem is_32 : isX0 32 := by unfold isX0; decide
theorem ob_X0 {i : Nat} (h : isX0 i) : i < NC ∧ ck i = .inl 2 := by
  have h : i ∈ ([25, 32] : List Nat) := h
  simp only [List.mem_cons, List.not_mem_nil, or_false] at h
  rcases h with rfl | rfl <;> exact ⟨Nat.le_of_ble_eq_true rfl, rfl⟩
theorem rr_X0_1 {i : Nat} (h : isX0 i) : rf i 1 = some (.inl (i + 1)) := by
  have h : i ∈ ([25, 32] : List Nat) := h
  simp only [List.mem_cons, List.not_mem_nil, or_false] at h
  rcases h with rfl | rfl <;> rfl
theorem is_X0_1 {i : Nat} (h : isX0 i) : isX1 (i + 1) := by
  have h : i ∈ ([25, 32] : List Nat) := h
  simp only [List.mem_cons, List.not_mem_nil, or_false] at h
  rcases h with rfl | rfl <;> (unfold isX1; decide)
theorem rr_X0_2 {i : Nat} (h : isX0 i) : rf i 2 = some (.inl (i + 3)) := by
  have h : i ∈ ([25, 32] : List Nat) := h
  simp only [List.mem_cons, List.not_mem_nil, or_false] at h
  rcases h with rfl | rfl <;> rfl
theorem is_X0_3 {i : Nat} (h : isX0 i) : isX1 (i + 3) := by
  have h : i ∈ ([25, 32] : List Nat) := h
  simp only [List.mem_cons, List.not_mem_nil, or_false] at h
  rcases h with rfl | rfl <;> (unfold isX1; decide)
theorem rr_X0_3 {i : Nat} (h : isX0 i) : rf i 3 = some (.inl (i + 5)) := by
  have h : i ∈ ([25, 32] : List Nat) := h
  simp only [List.mem_cons, List.not_mem_nil, or_false] at h
  rcases h with rfl | rfl <;> rfl
theorem is_X0_5 {i : Nat} (h : isX0 i) : isX1 (i + 5) := by
  have h : i ∈ ([25, 32] : List Nat) := h
  simp only [List.mem_cons, List.not_mem_nil, or_false] at h
  rcases h with rfl | rfl <;> (unfold isX1; decide)
theorem rc_X0_0 {i : Nat} (h : isX0 i) : rf i 0 = some (.inr (wdt i)) := by
  have h : i ∈ ([25, 32] : List Nat) := h
  simp only [List.mem_cons, List.not_mem_nil, or_false] at h
  rcases h with rfl | rfl <;> rfl
theorem ri_X0_4 {i : Nat} (h : isX0 i) : rf i 4 = none := by
  have h : i ∈ ([25, 32] : List Nat) := h
  simp only [List.mem_cons, List.not_mem_nil, or_false] at h
  rcases h with rfl | rfl <;> rfl
theorem is_26 : isX1 26 := by unfold isX1; decide
theorem is_28 : isX1 28 := by unfold isX1; decide
theorem is_30 : isX1 30 := by unfold isX1; decide
theorem is_33 : isX1 33 := by unfold isX1; decide
theorem is_35 : isX1 35 := by unfold isX1; decide
theorem is_37 : isX1 37 := by unfold isX1; decide
theorem is_48 : isX1 48 := by unfold isX1; decide
theorem is_55 : isX1 55 := by unfold isX1; decide
theorem is_58 : isX1 58 := by unfold isX1; decide
theorem is_60 : isX1 60 := by unfold isX1; decide
theorem is_62 : isX1 62 := by unfold isX1; decide
theorem is_64 : isX1 64 := by unfold isX1; decide
theorem is_66 : isX1 66 := by unfold isX1; decide
theorem is_68 : isX1 68 := by unfold isX1; decide
theorem is_70 : isX1 70 := by unfold isX1; decide
theorem is_72 : isX1 72 := by unfold isX1; decide
theorem is_74 : isX1 74 := by unfold isX1; decide
theorem is_77 : isX1 77 := by unfold isX1; decide
theorem is_79 : isX1 79 := by unfold isX1; decide
theorem is_81 : isX1 81 := by unfold isX1; decide
theorem is_83 : isX1 83 := by unfold isX1; decide
theorem ob_X1 {i : Nat} (h : isX1 i) : i < NC ∧ ck i = .inl 3 := by
  have h : i ∈ ([26, 28, 30, 33, 35, 37, 48, 55, 58, 60, 62, 64, 66, 68, 70, 72, 74, 77, 79, 81, 83] : List Nat) := h
  simp only [List.mem_cons, List.not_mem_nil, or_false] at h
  rcases h with rfl | rfl | rfl | rfl | rfl | rfl | rfl | rfl | rfl | rfl | rfl | rfl | rfl | rfl | rfl | rfl | rfl | rfl | rfl | rfl | rfl <;> exact ⟨Nat.le_of_ble_eq_true rfl, rfl⟩
theorem rr_X1_0 {i : Nat} (h : isX1 i) : rf i 0 = some (.inl (i + 1)) := by
  have h : i ∈ ([26, 28, 30, 33, 35, 37, 48, 55, 58, 60, 62, 64, 66, 68, 70, 72, 74, 77, 79, 81, 83] : List Nat) := h
  simp only [List.mem_cons, List.not_mem_nil, or_false] at h
  rcases h with rfl | rfl | rfl | rfl | rfl | rfl | rfl | rfl | rfl | rfl | rfl | rfl | rfl | rfl | rfl | rfl | rfl | rfl | rfl | rfl | rfl <;> rfl
theorem ar_X1_1 {i : Nat} (h : isX1 i) : i + 1 < NC ∧ ck (i + 1) = .inr (0, alen (i + 1)) := by
  have h : i ∈ ([26, 28, 30, 33, 35, 37, 48, 55, 58, 60, 62, 64, 66, 68, 70, 72, 74, 77, 79, 81, 83] : List Nat) := h
  simp only [List.mem_cons, List.not_mem_nil, or_false] at h
  rcases h with rfl | rfl | rfl | rfl | rfl | rfl | rfl | rfl | rfl | rfl | rfl | rfl | rfl | rfl | rfl | rfl | rfl | rfl | rfl | rfl | rfl <;> exact ⟨Nat.le_of_ble_eq_true rfl, rfl⟩
theorem is_40 : isX3 40 := by unfold isX3; decide
theorem is_44 : isX3 44 := by unfold isX3; decide
theorem is_50 : isX3 50 := by unfold isX3; decide
theorem ob_X3 {i : Nat} (h : isX3 i) : i < NC ∧ ck i = .inl 5 := by
  have h : i ∈ ([40, 44, 50] : List Nat) := h
  simp only [List.mem_cons, List.not_mem_nil, or_false] at h
  rcases h with rfl | rfl | rfl <;> exact ⟨Nat.le_of_ble_eq_true rfl, rfl⟩
theorem rr_X3_0 {i : Nat} (h : isX3 i) : rf i 0 = some (.inl (i + 1)) := by
  have h : i ∈ ([40, 44, 50] : List Nat) := h
  simp only [List.mem_cons, List.not_mem_nil, or_false] at h
  rcases h with rfl | rfl | rfl <;> rfl
theorem ar_X3_1 {i : Nat} (h : isX3 i) : i + 1 < NC ∧ ck (i + 1) = .inr (0, alen (i + 1)) := by
  have h : i ∈ ([40, 44, 50] : List Nat) := h
  simp only [List.mem_cons, List.not_mem_nil, or_false] at h
  rcases h with rfl | rfl | rfl <;> exact ⟨Nat.le_of_ble_eq_true rfl, rfl⟩
theorem rr_X3_1 {i : Nat} (h : isX3 i) : rf i 1 = some (.inl (i + 2)) := by
  have h : i ∈ ([40, 44, 50] : List Nat) := h
  simp only [List.mem_cons, List.not_mem_nil, or_false] at h
  rcases h with rfl | rfl | rfl <;> rfl
theorem ar_X3_2 {i : Nat} (h : isX3 i) : i + 2 < NC ∧ ck (i + 2) = .inr (0, alen (i + 2)) := by
  have h : i ∈ ([40, 44, 50] : List Nat) := h
  simp only [List.mem_cons, List.not_mem_nil, or_false] at h
  rcases h with rfl | rfl | rfl <;> exact ⟨Nat.le_of_ble_eq_true rfl, rfl⟩
theorem rr_X3_2 {i : Nat} (h : isX3 i) : rf i 2 = some (.inl (i + 3)) := by
  have h : i ∈ ([40, 44, 50] : List Nat) := h
  simp only [List.mem_cons, List.not_mem_nil, or_false] at h
  rcases h with rfl | rfl | rfl <;> rfl
theorem ar_X3_3 {i : Nat} (h : isX3 i) : i + 3 < NC ∧ ck (i + 3) = .inr (0, alen (i + 3)) := by
  have h : i ∈ ([40, 44, 50] : List Nat) := h
  simp only [List.mem_cons, List.not_mem_nil, or_false] at h
  rcases h with rfl | rfl | rfl <;> exact ⟨Nat.le_of_ble_eq_true rfl, rfl⟩
theorem ri_X3_3 {i : Nat} (h : isX3 i) : rf i 3 = none := by
  have h : i ∈ ([40, 44, 50] : List Nat) := h
  simp only [List.mem_cons, List.not_mem_nil, or_false] at h
  rcases h with rfl | rfl | rfl <;> rfl
theorem is_1 : isX6 1 := by unfold isX6; decide
theorem is_4 : isX6 4 := by unfold isX6; decide
theorem is_7 : isX6 7 := by unfold isX6; decide
theorem is_10 : isX6 10 := by unfold isX6; decide
theorem is_13 : isX6 13 := by unfold isX6; decide
theorem is_16 : isX6 16 := by unfold isX6; decide
theorem is_19 : isX6 19 := by unfold isX6; decide
theorem is_22 : isX6 22 := by unfold isX6; decide
theorem ob_X6 {i : Nat} (h : isX6 i) : i < NC ∧ ck i = .inl 8 := by
  have h : i ∈ ([1, 4, 7, 10, 13, 16, 19, 22] : List Nat) := h
  simp only [List.mem_cons, List.not_mem_nil, or_false] at h
  rcases h with rfl | rfl | rfl | rfl | rfl | rfl | rfl | rfl <;> exact ⟨Nat.le_of_ble_eq_true rfl, rfl⟩
theorem rr_X6_1 {i : Nat} (h : isX6 i) : rf i 1 = some (.inl (i + 1)) := by
  have h : i ∈ ([1, 4, 7, 10, 13, 16, 19, 22] : List Nat) := h
  simp only [List.mem_cons, List.not_mem_nil, or_false] at h
  rcases h with rfl | rfl | rfl | rfl | rfl | rfl | rfl | rfl <;> rfl
theorem ar_X6_1 {i : Nat} (h : isX6 i) : i + 1 < NC ∧ ck (i + 1) = .inr (0, alen (i + 1)) := by
  have h : i ∈ ([1, 4, 7, 10, 13, 16, 19, 22] : List Nat) := h
  simp only [List.mem_cons, List.not_mem_nil, or_false] at h
  rcases h with rfl | rfl | rfl | rfl | rfl | rfl | rfl | rfl <;> exact ⟨Nat.le_of_ble_eq_true rfl, rfl⟩
theorem rr_X6_2 {i : Nat} (h : isX6 i) : rf i 2 = some (.inl (i + 2)) := by
  have h : i ∈ ([1, 4, 7, 10, 13, 16, 19, 22] : List Nat) := h
  simp only [List.mem_cons, List.not_mem_nil, or_false] at h
  rcases h with rfl | rfl | rfl | rfl | rfl | rfl | rfl | rfl <;> rfl
theorem ar_X6_2 {i : Nat} (h : isX6 i) : i + 2 < NC ∧ ck (i + 2) = .inr (0, alen (i + 2)) := by
  have h : i ∈ ([1, 4, 7, 10, 13, 16, 19, 22] : List Nat) := h
  simp only [List.mem_cons, List.not_mem_nil, or_false] at h
  rcases h with rfl | rfl | rfl | rfl | rfl | rfl | rfl | rfl <;> exact ⟨Nat.le_of_ble_eq_true rfl, rfl⟩
theorem rc_X6_0 {i : Nat} (h : isX6 i) : rf i 0 = some (.inr (wdt i)) := by
  have h : i ∈ ([1, 4, 7, 10, 13, 16, 19, 22] : List Nat) := h
  simp only [List.mem_cons, List.not_mem_nil, or_false] at h
  rcases h with rfl | rfl | rfl | rfl | rfl | rfl | rfl | rfl <;> rfl
