/-! the law from its entry to its loop-/
def posT : List Nat := [0, 1, 2, 3, 4, 5, 6, 7, 8, 9, 10, 11, 12, 28, 29, 30, 46, 47, 48, 71, 72, 73, 76, 77, 78, 13, 14, 15, 16, 17, 18, 19, 20, 21, 22, 23, 24, 25, 26, 27, 31, 32, 33, 34, 35, 36, 37, 38, 39, 40, 41, 42, 43, 44, 45, 49, 50, 51, 52, 53, 54, 55, 56, 57, 58, 59, 60, 61, 62, 63, 64, 65, 66, 67, 68, 69, 70, 74, 75, 79, 80, 81, 82, 83, 84, 85, 86, 87, 88, 89, 90, 91, 92, 93, 94, 95, 96, 97, 98, 99, 100, 101, 102, 103, 104, 105, 106, 107, 108, 109, 110, 111, 112, 113, 114, 115, 116, 117, 118, 119, 120, 121, 122, 123, 124, 125, 126, 127, 128, 129, 130, 131, 132, 133, 134, 135, 136]
def invT : List Nat := [0, 1, 2, 3, 4, 5, 6, 7, 8, 9, 10, 11, 12, 25, 26, 27, 28, 29, 30, 31, 32, 33, 34, 35, 36, 37, 38, 39, 13, 14, 15, 40, 41, 42, 43, 44, 45, 46, 47, 48, 49, 50, 51, 52, 53, 54, 16, 17, 18, 55, 56, 57, 58, 59, 60, 61, 62, 63, 64, 65, 66, 67, 68, 69, 70, 71, 72, 73, 74, 75, 76, 19, 20, 21, 77, 78, 22, 23, 24, 79, 80, 81, 82, 83, 84, 85, 86, 87, 88, 89, 90, 91, 92, 93, 94, 95, 96, 97, 98, 99, 100, 101, 102, 103, 104, 105, 106, 107, 108, 109, 110, 111, 112, 113, 114, 115, 116, 117, 118, 119, 120, 121, 122, 123, 124, 125, 126, 127, 128, 129, 130, 131, 132, 133, 134, 135, 136]
def adz (h : Nat) : Nat → Nat := fun i => h + posT.getD i 0
theorem inv_ok : ∀ i, i < 137 → invT.getD (posT.getD i 0) 0 = i := by decide +kernel
theorem adz_inj (h : Nat) : InjA (adz h) := by
  intro i j hi hj e
  have e : h + posT.getD i 0 = h + posT.getD j 0 := e
  have e : posT.getD i 0 = posT.getD j 0 := by omega
  rw [← inv_ok i hi, ← inv_ok j hj, e]
def ESL (cA : Nat → ClassId) (h : Nat) : List va_E := [.inr (10, [.ref (h + 1), .ref (h + 4), vi 0, .ref (h + 7), .ref (h + 10), .ref (h + 13), .ref (h + 20), .ref (h + 27), .ref (h + 45), .ref (h + 51), .ref (h + 70), .ref (h + 83), vi 0, vi 0, vi 0, vi 0, vi 0, vi 0, vi 0]), .inr (8, [vi 60, .ref (h + 2), .ref (h + 3)]), eAr cA 0 60, eAr cA 0 1, .inr (8, [vi 20, .ref (h + 5), .ref (h + 6)]), eAr cA 0 600, eAr cA 0 30, .inr (8, [vi 60, .ref (h + 8), .ref (h + 9)]), eAr cA 0 1560, eAr cA 0 26, .inr (8, [vi 60, .ref (h + 11), .ref (h + 12)]), eAr cA 0 1560, eAr cA 0 26, .inr (2, [vi 50, .ref (h + 14), .ref (h + 16), .ref (h + 18), vi 0]), .inr (3, [.ref (h + 15)]), eAr cA 0 50, .inr (3, [.ref (h + 17)]), eAr cA 0 50, .inr (3, [.ref (h + 19)]), eAr cA 0 50, .inr (2, [vi 50, .ref (h + 21), .ref (h + 23), .ref (h + 25), vi 0]), .inr (3, [.ref (h + 22)]), eAr cA 0 50, .inr (3, [.ref (h + 24)]), eAr cA 0 50, .inr (3, [.ref (h + 26)]), eAr cA 0 50, .inr (4, [.ref (h + 13), .ref (h + 4), .ref (h + 7), .ref (h + 28), .ref (h + 31), .ref (h + 35), .ref (h + 39), .ref (h + 41), vi 0, vi 0, vi 0, vi 0, vi 0, vi 0, vi 0, vi 0]), .inr (8, [vi 60, .ref (h + 29), .ref (h + 30)]), eAr cA 0 60, eAr cA 0 1, .inr (5, [.ref (h + 32), .ref (h + 33), .ref (h + 34), vi 0]), eAr cA 0 6000, eAr cA 0 6000, eAr cA 0 6000, .inr (5, [.ref (h + 36), .ref (h + 37), .ref (h + 38), vi 0]), eAr cA 0 6000, eAr cA 0 6000, eAr cA 0 6000, .inr (3, [.ref (h + 40)]), eAr cA 0 6000, .inr (5, [.ref (h + 42), .ref (h + 43), .ref (h + 44), vi 0]), eAr cA 0 3000, eAr cA 0 3000, eAr cA 0 3000, .inr (7, [.ref (h + 20), .ref (h + 4), .ref (h + 7), .ref (h + 46), .ref (h + 49)]), .inr (8, [vi 60, .ref (h + 47), .ref (h + 48)]), eAr cA 0 3000, eAr cA 0 50, .inr (3, [.ref (h + 50)]), eAr cA 0 50, .inr (6, [.ref (h + 52), .ref (h + 54), .ref (h + 56), .ref (h + 58), .ref (h + 60), .ref (h + 62), vi 0, .ref (h + 64), .ref (h + 66), .ref (h + 68)]), .inr (3, [.ref (h + 53)]), eAr cA 0 40, .inr (3, [.ref (h + 55)]), eAr cA 0 40, .inr (3, [.ref (h + 57)]), eAr cA 0 40, .inr (3, [.ref (h + 59)]), eAr cA 0 40, .inr (3, [.ref (h + 61)]), eAr cA 0 40, .inr (3, [.ref (h + 63)]), eAr cA 0 40, .inr (3, [.ref (h + 65)]), eAr cA 0 5, .inr (3, [.ref (h + 67)]), eAr cA 0 5, .inr (3, [.ref (h + 69)]), eAr cA 0 15, .inr (9, [.ref (h + 51), .ref (h + 27), .ref (h + 45), .ref (h + 7), .ref (h + 71), .ref (h + 74), .ref (h + 76), .ref (h + 79), .ref (h + 81), vi 0, vi 0, vi 0, vi 0, vi 0, vi 0]), .inr (8, [vi 60, .ref (h + 72), .ref (h + 73)]), eAr cA 0 60, eAr cA 0 1, .inr (3, [.ref (h + 75)]), eAr cA 0 10, .inr (8, [vi 60, .ref (h + 77), .ref (h + 78)]), eAr cA 0 1800, eAr cA 0 30, .inr (3, [.ref (h + 80)]), eAr cA 0 40, .inr (3, [.ref (h + 82)]), eAr cA 0 40, .inr (3, [.ref (h + 84)]), eAr cA 0 200, .inr (11, [vi 0, .ref (h + 86), vi 0, .ref (h + 87), .ref (h + 88), vi 0, .ref (h + 89), .ref (h + 90), .ref (h + 91), .ref (h + 92), .ref (h + 93), vi 0, .ref (h + 94), .ref (h + 95), .ref (h + 96), vi 0, .ref (h + 97), .ref (h + 98), .ref (h + 99), .ref (h + 100), vi 0, vi 0, vi 0, .ref (h + 101), .ref (h + 102), .ref (h + 103), .ref (h + 104), vi 0, .ref (h + 105), .ref (h + 106), .ref (h + 107), .ref (h + 108), .ref (h + 109), .ref (h + 110), vi 0, .ref (h + 111), .ref (h + 112), .ref (h + 113), vi 0, vi 0, vi 0, vi 0, vi 0, vi 0, vi 0, .ref (h + 114), .ref (h + 115), .ref (h + 116), .ref (h + 117), .ref (h + 118), .ref (h + 119), vi 0, .ref (h + 120), .ref (h + 121), .ref (h + 122), .ref (h + 123), .ref (h + 124), .ref (h + 125), .ref (h + 126), vi 0, vi 0, vi 0, vi 0, vi 0, .ref (h + 127), .ref (h + 128), .ref (h + 129), .ref (h + 130), .ref (h + 131), vi 0, vi 0, vi 0, vi 0, vi 0, vi 0, vi 0, vi 0, .ref (h + 132), .ref (h + 133), .ref (h + 134), vi 0]), eAr cA 0 60, eAr cA 0 600, eAr cA 0 30, eAr cA 0 1560, eAr cA 0 26, eAr cA 1 50, eAr cA 0 50, eAr cA 0 50, eAr cA 1 50, eAr cA 0 50, eAr cA 0 50, eAr cA 2 50, eAr cA 0 3000, eAr cA 0 50, eAr cA 0 60, eAr cA 0 13000, eAr cA 0 13000, eAr cA 0 13000, eAr cA 0 13000, eAr cA 0 7000, eAr cA 0 7000, eAr cA 0 7000, eAr cA 0 7000, eAr cA 0 7000, eAr cA 0 7000, eAr cA 0 4000, eAr cA 0 4000, eAr cA 0 4000, eAr cA 1 40, eAr cA 0 40, eAr cA 0 40, eAr cA 0 40, eAr cA 0 40, eAr cA 0 40, eAr cA 2 5, eAr cA 0 5, eAr cA 0 5, eAr cA 0 5, eAr cA 0 5, eAr cA 0 40, eAr cA 0 40, eAr cA 0 10, eAr cA 0 10, eAr cA 0 1800, eAr cA 0 30, eAr cA 0 60, eAr cA 0 1560, eAr cA 0 26, eAr cA 0 200, eAr cA 3 1, eAr cA 4 1]
set_option maxRecDepth 100000 in
theorem es_0 (cA : Nat → ClassId) (h : Nat) : (ESL cA h)[posT.getD 0 0]? = some (ce cA (adz h) w0s 0) := rfl
theorem es_1 (cA : Nat → ClassId) (h : Nat) : (ESL cA h)[posT.getD 1 0]? = some (ce cA (adz h) w0s 1) := rfl
theorem es_2 (cA : Nat → ClassId) (h : Nat) : (ESL cA h)[posT.getD 2 0]? = some (ce cA (adz h) w0s 2) := rfl
theorem es_3 (cA : Nat → ClassId) (h : Nat) : (ESL cA h)[posT.getD 3 0]? = some (ce cA (adz h) w0s 3) := rfl
theorem es_4 (cA : Nat → ClassId) (h : Nat) : (ESL cA h)[posT.getD 4 0]? = some (ce cA (adz h) w0s 4) := rfl
theorem es_5 (cA : Nat → ClassId) (h : Nat) : (ESL cA h)[posT.getD 5 0]? = some (ce cA (adz h) w0s 5) := rfl
theorem es_6 (cA : Nat → ClassId) (h : Nat) : (ESL cA h)[posT.getD 6 0]? = some (ce cA (adz h) w0s 6) := rfl
theorem es_7 (cA : Nat → ClassId) (h : Nat) : (ESL cA h)[posT.getD 7 0]? = some (ce cA (adz h) w0s 7) := rfl
theorem es_8 (cA : Nat → ClassId) (h : Nat) : (ESL cA h)[posT.getD 8 0]? = some (ce cA (adz h) w0s 8) := rfl
theorem es_9 (cA : Nat → ClassId) (h : Nat) : (ESL cA h)[posT.getD 9 0]? = some (ce cA (adz h) w0s 9) := rfl
theorem es_10 (cA : Nat → ClassId) (h : Nat) : (ESL cA h)[posT.getD 10 0]? = some (ce cA (adz h) w0s 10) := rfl
theorem es_11 (cA : Nat → ClassId) (h : Nat) : (ESL cA h)[posT.getD 11 0]? = some (ce cA (adz h) w0s 11) := rfl
theorem es_12 (cA : Nat → ClassId) (h : Nat) : (ESL cA h)[posT.getD 12 0]? = some (ce cA (adz h) w0s 12) := rfl
theorem es_13 (cA : Nat → ClassId) (h : Nat) : (ESL cA h)[posT.getD 13 0]? = some (ce cA (adz h) w0s 13) := rfl
theorem es_14 (cA : Nat → ClassId) (h : Nat) : (ESL cA h)[posT.getD 14 0]? = some (ce cA (adz h) w0s 14) := rfl
theorem es_15 (cA : Nat → ClassId) (h : Nat) : (ESL cA h)[posT.getD 15 0]? = some (ce cA (adz h) w0s 15) := rfl
theorem es_16 (cA : Nat → ClassId) (h : Nat) : (ESL cA h)[posT.getD 16 0]? = some (ce cA (adz h) w0s 16) := rfl
theorem es_17 (cA : Nat → ClassId) (h : Nat) : (ESL cA h)[posT.getD 17 0]? = some (ce cA (adz h) w0s 17) := rfl
theorem es_18 (cA : Nat → ClassId) (h : Nat) : (ESL cA h)[posT.getD 18 0]? = some (ce cA (adz h) w0s 18) := rfl
theorem es_19 (cA : Nat → ClassId) (h : Nat) : (ESL cA h)[posT.getD 19 0]? = some (ce cA (adz h) w0s 19) := rfl
theorem es_20 (cA : Nat → ClassId) (h : Nat) : (ESL cA h)[posT.getD 20 0]? = some (ce cA (adz h) w0s 20) := rfl
theorem es_21 (cA : Nat → ClassId) (h : Nat) : (ESL cA h)[posT.getD 21 0]? = some (ce cA (adz h) w0s 21) := rfl
theorem es_22 (cA : Nat → ClassId) (h : Nat) : (ESL cA h)[posT.getD 22 0]? = some (ce cA (adz h) w0s 22) := rfl
theorem es_23 (cA : Nat → ClassId) (h : Nat) : (ESL cA h)[posT.getD 23 0]? = some (ce cA (adz h) w0s 23) := rfl
theorem es_24 (cA : Nat → ClassId) (h : Nat) : (ESL cA h)[posT.getD 24 0]? = some (ce cA (adz h) w0s 24) := rfl
theorem es_25 (cA : Nat → ClassId) (h : Nat) : (ESL cA h)[posT.getD 25 0]? = some (ce cA (adz h) w0s 25) := rfl
theorem es_26 (cA : Nat → ClassId) (h : Nat) : (ESL cA h)[posT.getD 26 0]? = some (ce cA (adz h) w0s 26) := rfl
theorem es_27 (cA : Nat → ClassId) (h : Nat) : (ESL cA h)[posT.getD 27 0]? = some (ce cA (adz h) w0s 27) := rfl
theorem es_28 (cA : Nat → ClassId) (h : Nat) : (ESL cA h)[posT.getD 28 0]? = some (ce cA (adz h) w0s 28) := rfl
theorem es_29 (cA : Nat → ClassId) (h : Nat) : (ESL cA h)[posT.getD 29 0]? = some (ce cA (adz h) w0s 29) := rfl
theorem es_30 (cA : Nat → ClassId) (h : Nat) : (ESL cA h)[posT.getD 30 0]? = some (ce cA (adz h) w0s 30) := rfl
theorem es_31 (cA : Nat → ClassId) (h : Nat) : (ESL cA h)[posT.getD 31 0]? = some (ce cA (adz h) w0s 31) := rfl
theorem es_32 (cA : Nat → ClassId) (h : Nat) : (ESL cA h)[posT.getD 32 0]? = some (ce cA (adz h) w0s 32) := rfl
theorem es_33 (cA : Nat → ClassId) (h : Nat) : (ESL cA h)[posT.getD 33 0]? = some (ce cA (adz h) w0s 33) := rfl
theorem es_34 (cA : Nat → ClassId) (h : Nat) : (ESL cA h)[posT.getD 34 0]? = some (ce cA (adz h) w0s 34) := rfl
theorem es_35 (cA : Nat → ClassId) (h : Nat) : (ESL cA h)[posT.getD 35 0]? = some (ce cA (adz h) w0s 35) := rfl
theorem es_36 (cA : Nat → ClassId) (h : Nat) : (ESL cA h)[posT.getD 36 0]? = some (ce cA (adz h) w0s 36) := rfl
theorem es_37 (cA : Nat → ClassId) (h : Nat) : (ESL cA h)[posT.getD 37 0]? = some (ce cA (adz h) w0s 37) := rfl
theorem es_38 (cA : Nat → ClassId) (h : Nat) : (ESL cA h)[posT.getD 38 0]? = some (ce cA (adz h) w0s 38) := rfl
theorem es_39 (cA : Nat → ClassId) (h : Nat) : (ESL cA h)[posT.getD 39 0]? = some (ce cA (adz h) w0s 39) := rfl
theorem es_40 (cA : Nat → ClassId) (h : Nat) : (ESL cA h)[posT.getD 40 0]? = some (ce cA (adz h) w0s 40) := rfl
theorem es_41 (cA : Nat → ClassId) (h : Nat) : (ESL cA h)[posT.getD 41 0]? = some (ce cA (adz h) w0s 41) := rfl
theorem es_42 (cA : Nat → ClassId) (h : Nat) : (ESL cA h)[posT.getD 42 0]? = some (ce cA (adz h) w0s 42) := rfl
theorem es_43 (cA : Nat → ClassId) (h : Nat) : (ESL cA h)[posT.getD 43 0]? = some (ce cA (adz h) w0s 43) := rfl
theorem es_44 (cA : Nat → ClassId) (h : Nat) : (ESL cA h)[posT.getD 44 0]? = some (ce cA (adz h) w0s 44) := rfl
theorem es_45 (cA : Nat → ClassId) (h : Nat) : (ESL cA h)[posT.getD 45 0]? = some (ce cA (adz h) w0s 45) := rfl
theorem es_46 (cA : Nat → ClassId) (h : Nat) : (ESL cA h)[posT.getD 46 0]? = some (ce cA (adz h) w0s 46) := rfl
theorem es_47 (cA : Nat → ClassId) (h : Nat) : (ESL cA h)[posT.getD 47 0]? = some (ce cA (adz h) w0s 47) := rfl
theorem es_48 (cA : Nat → ClassId) (h : Nat) : (ESL cA h)[posT.getD 48 0]? = some (ce cA (adz h) w0s 48) := rfl
theorem es_49 (cA : Nat → ClassId) (h : Nat) : (ESL cA h)[posT.getD 49 0]? = some (ce cA (adz h) w0s 49) := rfl
theorem es_50 (cA : Nat → ClassId) (h : Nat) : (ESL cA h)[posT.getD 50 0]? = some (ce cA (adz h) w0s 50) := rfl
theorem es_51 (cA : Nat → ClassId) (h : Nat) : (ESL cA h)[posT.getD 51 0]? = some (ce cA (adz h) w0s 51) := rfl
theorem es_52 (cA : Nat → ClassId) (h : Nat) : (ESL cA h)[posT.getD 52 0]? = some (ce cA (adz h) w0s 52) := rfl
theorem es_53 (cA : Nat → ClassId) (h : Nat) : (ESL cA h)[posT.getD 53 0]? = some (ce cA (adz h) w0s 53) := rfl
theorem es_54 (cA : Nat → ClassId) (h : Nat) : (ESL cA h)[posT.getD 54 0]? = some (ce cA (adz h) w0s 54) := rfl
theorem es_55 (cA : Nat → ClassId) (h : Nat) : (ESL cA h)[posT.getD 55 0]? = some (ce cA (adz h) w0s 55) := rfl
theorem es_56 (cA : Nat → ClassId) (h : Nat) : (ESL cA h)[posT.getD 56 0]? = some (ce cA (adz h) w0s 56) := rfl
theorem es_57 (cA : Nat → ClassId) (h : Nat) : (ESL cA h)[posT.getD 57 0]? = some (ce cA (adz h) w0s 57) := rfl
theorem es_58 (cA : Nat → ClassId) (h : Nat) : (ESL cA h)[posT.getD 58 0]? = some (ce cA (adz h) w0s 58) := rfl
theorem es_59 (cA : Nat → ClassId) (h : Nat) : (ESL cA h)[posT.getD 59 0]? = some (ce cA (adz h) w0s 59) := rfl
theorem es_60 (cA : Nat → ClassId) (h : Nat) : (ESL cA h)[posT.getD 60 0]? = some (ce cA (adz h) w0s 60) := rfl
theorem es_61 (cA : Nat → ClassId) (h : Nat) : (ESL cA h)[posT.getD 61 0]? = some (ce cA (adz h) w0s 61) := rfl
theorem es_62 (cA : Nat → ClassId) (h : Nat) : (ESL cA h)[posT.getD 62 0]? = some (ce cA (adz h) w0s 62) := rfl
theorem es_63 (cA : Nat → ClassId) (h : Nat) : (ESL cA h)[posT.getD 63 0]? = some (ce cA (adz h) w0s 63) := rfl
theorem es_64 (cA : Nat → ClassId) (h : Nat) : (ESL cA h)[posT.getD 64 0]? = some (ce cA (adz h) w0s 64) := rfl
theorem es_65 (cA : Nat → ClassId) (h : Nat) : (ESL cA h)[posT.getD 65 0]? = some (ce cA (adz h) w0s 65) := rfl
theorem es_66 (cA : Nat → ClassId) (h : Nat) : (ESL cA h)[posT.getD 66 0]? = some (ce cA (adz h) w0s 66) := rfl
theorem es_67 (cA : Nat → ClassId) (h : Nat) : (ESL cA h)[posT.getD 67 0]? = some (ce cA (adz h) w0s 67) := rfl
theorem es_68 (cA : Nat → ClassId) (h : Nat) : (ESL cA h)[posT.getD 68 0]? = some (ce cA (adz h) w0s 68) := rfl
theorem es_69 (cA : Nat → ClassId) (h : Nat) : (ESL cA h)[posT.getD 69 0]? = some (ce cA (adz h) w0s 69) := rfl
theorem es_70 (cA : Nat → ClassId) (h : Nat) : (ESL cA h)[posT.getD 70 0]? = some (ce cA (adz h) w0s 70) := rfl
theorem es_71 (cA : Nat → ClassId) (h : Nat) : (ESL cA h)[posT.getD 71 0]? = some (ce cA (adz h) w0s 71) := rfl
theorem es_72 (cA : Nat → ClassId) (h : Nat) : (ESL cA h)[posT.getD 72 0]? = some (ce cA (adz h) w0s 72) := rfl
theorem es_73 (cA : Nat → ClassId) (h : Nat) : (ESL cA h)[posT.getD 73 0]? = some (ce cA (adz h) w0s 73) := rfl
theorem es_74 (cA : Nat → ClassId) (h : Nat) : (ESL cA h)[posT.getD 74 0]? = some (ce cA (adz h) w0s 74) := rfl
theorem es_75 (cA : Nat → ClassId) (h : Nat) : (ESL cA h)[posT.getD 75 0]? = some (ce cA (adz h) w0s 75) := rfl
theorem es_76 (cA : Nat → ClassId) (h : Nat) : (ESL cA h)[posT.getD 76 0]? = some (ce cA (adz h) w0s 76) := rfl
theorem es_77 (cA : Nat → ClassId) (h : Nat) : (ESL cA h)[posT.getD 77 0]? = some (ce cA (adz h) w0s 77) := rfl
theorem es_78 (cA : Nat → ClassId) (h : Nat) : (ESL cA h)[posT.getD 78 0]? = some (ce cA (adz h) w0s 78) := rfl
theorem es_79 (cA : Nat → ClassId) (h : Nat) : (ESL cA h)[posT.getD 79 0]? = some (ce cA (adz h) w0s 79) := rfl
theorem es_80 (cA : Nat → ClassId) (h : Nat) : (ESL cA h)[posT.getD 80 0]? = some (ce cA (adz h) w0s 80) := rfl
theorem es_81 (cA : Nat → ClassId) (h : Nat) : (ESL cA h)[posT.getD 81 0]? = some (ce cA (adz h) w0s 81) := rfl
theorem es_82 (cA : Nat → ClassId) (h : Nat) : (ESL cA h)[posT.getD 82 0]? = some (ce cA (adz h) w0s 82) := rfl
theorem es_83 (cA : Nat → ClassId) (h : Nat) : (ESL cA h)[posT.getD 83 0]? = some (ce cA (adz h) w0s 83) := rfl
theorem es_84 (cA : Nat → ClassId) (h : Nat) : (ESL cA h)[posT.getD 84 0]? = some (ce cA (adz h) w0s 84) := rfl
set_option maxRecDepth 100000 in
theorem es_85 (cA : Nat → ClassId) (h : Nat) : (ESL cA h)[posT.getD 85 0]? = some (ce cA (adz h) w0s 85) := rfl
theorem es_86 (cA : Nat → ClassId) (h : Nat) : (ESL cA h)[posT.getD 86 0]? = some (ce cA (adz h) w0s 86) := rfl
theorem es_87 (cA : Nat → ClassId) (h : Nat) : (ESL cA h)[posT.getD 87 0]? = some (ce cA (adz h) w0s 87) := rfl
theorem es_88 (cA : Nat → ClassId) (h : Nat) : (ESL cA h)[posT.getD 88 0]? = some (ce cA (adz h) w0s 88) := rfl
theorem es_89 (cA : Nat → ClassId) (h : Nat) : (ESL cA h)[posT.getD 89 0]? = some (ce cA (adz h) w0s 89) := rfl
theorem es_90 (cA : Nat → ClassId) (h : Nat) : (ESL cA h)[posT.getD 90 0]? = some (ce cA (adz h) w0s 90) := rfl
theorem es_91 (cA : Nat → ClassId) (h : Nat) : (ESL cA h)[posT.getD 91 0]? = some (ce cA (adz h) w0s 91) := rfl
theorem es_92 (cA : Nat → ClassId) (h : Nat) : (ESL cA h)[posT.getD 92 0]? = some (ce cA (adz h) w0s 92) := rfl
theorem es_93 (cA : Nat → ClassId) (h : Nat) : (ESL cA h)[posT.getD 93 0]? = some (ce cA (adz h) w0s 93) := rfl
theorem es_94 (cA : Nat → ClassId) (h : Nat) : (ESL cA h)[posT.getD 94 0]? = some (ce cA (adz h) w0s 94) := rfl
theorem es_95 (cA : Nat → ClassId) (h : Nat) : (ESL cA h)[posT.getD 95 0]? = some (ce cA (adz h) w0s 95) := rfl
theorem es_96 (cA : Nat → ClassId) (h : Nat) : (ESL cA h)[posT.getD 96 0]? = some (ce cA (adz h) w0s 96) := rfl
theorem es_97 (cA : Nat → ClassId) (h : Nat) : (ESL cA h)[posT.getD 97 0]? = some (ce cA (adz h) w0s 97) := rfl
theorem es_98 (cA : Nat → ClassId) (h : Nat) : (ESL cA h)[posT.getD 98 0]? = some (ce cA (adz h) w0s 98) := rfl
theorem es_99 (cA : Nat → ClassId) (h : Nat) : (ESL cA h)[posT.getD 99 0]? = some (ce cA (adz h) w0s 99) := rfl
theorem es_100 (cA : Nat → ClassId) (h : Nat) : (ESL cA h)[posT.getD 100 0]? = some (ce cA (adz h) w0s 100) := rfl
theorem es_101 (cA : Nat → ClassId) (h : Nat) : (ESL cA h)[posT.getD 101 0]? = some (ce cA (adz h) w0s 101) := rfl
theorem es_102 (cA : Nat → ClassId) (h : Nat) : (ESL cA h)[posT.getD 102 0]? = some (ce cA (adz h) w0s 102) := rfl
theorem es_103 (cA : Nat → ClassId) (h : Nat) : (ESL cA h)[posT.getD 103 0]? = some (ce cA (adz h) w0s 103) := rfl
theorem es_104 (cA : Nat → ClassId) (h : Nat) : (ESL cA h)[posT.getD 104 0]? = some (ce cA (adz h) w0s 104) := rfl
theorem es_105 (cA : Nat → ClassId) (h : Nat) : (ESL cA h)[posT.getD 105 0]? = some (ce cA (adz h) w0s 105) := rfl
theorem es_106 (cA : Nat → ClassId) (h : Nat) : (ESL cA h)[posT.getD 106 0]? = some (ce cA (adz h) w0s 106) := rfl
theorem es_107 (cA : Nat → ClassId) (h : Nat) : (ESL cA h)[posT.getD 107 0]? = some (ce cA (adz h) w0s 107) := rfl
theorem es_108 (cA : Nat → ClassId) (h : Nat) : (ESL cA h)[posT.getD 108 0]? = some (ce cA (adz h) w0s 108) := rfl
theorem es_109 (cA : Nat → ClassId) (h : Nat) : (ESL cA h)[posT.getD 109 0]? = some (ce cA (adz h) w0s 109) := rfl
theorem es_110 (cA : Nat → ClassId) (h : Nat) : (ESL cA h)[posT.getD 110 0]? = some (ce cA (adz h) w0s 110) := rfl
theorem es_111 (cA : Nat → ClassId) (h : Nat) : (ESL cA h)[posT.getD 111 0]? = some (ce cA (adz h) w0s 111) := rfl
theorem es_112 (cA : Nat → ClassId) (h : Nat) : (ESL cA h)[posT.getD 112 0]? = some (ce cA (adz h) w0s 112) := rfl
theorem es_113 (cA : Nat → ClassId) (h : Nat) : (ESL cA h)[posT.getD 113 0]? = some (ce cA (adz h) w0s 113) := rfl
theorem es_114 (cA : Nat → ClassId) (h : Nat) : (ESL cA h)[posT.getD 114 0]? = some (ce cA (adz h) w0s 114) := rfl
theorem es_115 (cA : Nat → ClassId) (h : Nat) : (ESL cA h)[posT.getD 115 0]? = some (ce cA (adz h) w0s 115) := rfl
theorem es_116 (cA : Nat → ClassId) (h : Nat) : (ESL cA h)[posT.getD 116 0]? = some (ce cA (adz h) w0s 116) := rfl
theorem es_117 (cA : Nat → ClassId) (h : Nat) : (ESL cA h)[posT.getD 117 0]? = some (ce cA (adz h) w0s 117) := rfl
theorem es_118 (cA : Nat → ClassId) (h : Nat) : (ESL cA h)[posT.getD 118 0]? = some (ce cA (adz h) w0s 118) := rfl
theorem es_119 (cA : Nat → ClassId) (h : Nat) : (ESL cA h)[posT.getD 119 0]? = some (ce cA (adz h) w0s 119) := rfl
theorem es_120 (cA : Nat → ClassId) (h : Nat) : (ESL cA h)[posT.getD 120 0]? = some (ce cA (adz h) w0s 120) := rfl
theorem es_121 (cA : Nat → ClassId) (h : Nat) : (ESL cA h)[posT.getD 121 0]? = some (ce cA (adz h) w0s 121) := rfl
theorem es_122 (cA : Nat → ClassId) (h : Nat) : (ESL cA h)[posT.getD 122 0]? = some (ce cA (adz h) w0s 122) := rfl
theorem es_123 (cA : Nat → ClassId) (h : Nat) : (ESL cA h)[posT.getD 123 0]? = some (ce cA (adz h) w0s 123) := rfl
theorem es_124 (cA : Nat → ClassId) (h : Nat) : (ESL cA h)[posT.getD 124 0]? = some (ce cA (adz h) w0s 124) := rfl
theorem es_125 (cA : Nat → ClassId) (h : Nat) : (ESL cA h)[posT.getD 125 0]? = some (ce cA (adz h) w0s 125) := rfl
theorem es_126 (cA : Nat → ClassId) (h : Nat) : (ESL cA h)[posT.getD 126 0]? = some (ce cA (adz h) w0s 126) := rfl
theorem es_127 (cA : Nat → ClassId) (h : Nat) : (ESL cA h)[posT.getD 127 0]? = some (ce cA (adz h) w0s 127) := rfl
theorem es_128 (cA : Nat → ClassId) (h : Nat) : (ESL cA h)[posT.getD 128 0]? = some (ce cA (adz h) w0s 128) := rfl
theorem es_129 (cA : Nat → ClassId) (h : Nat) : (ESL cA h)[posT.getD 129 0]? = some (ce cA (adz h) w0s 129) := rfl
theorem es_130 (cA : Nat → ClassId) (h : Nat) : (ESL cA h)[posT.getD 130 0]? = some (ce cA (adz h) w0s 130) := rfl
theorem es_131 (cA : Nat → ClassId) (h : Nat) : (ESL cA h)[posT.getD 131 0]? = some (ce cA (adz h) w0s 131) := rfl
theorem es_132 (cA : Nat → ClassId) (h : Nat) : (ESL cA h)[posT.getD 132 0]? = some (ce cA (adz h) w0s 132) := rfl
theorem es_133 (cA : Nat → ClassId) (h : Nat) : (ESL cA h)[posT.getD 133 0]? = some (ce cA (adz h) w0s 133) := rfl
theorem es_134 (cA : Nat → ClassId) (h : Nat) : (ESL cA h)[posT.getD 134 0]? = some (ce cA (adz h) w0s 134) := rfl
theorem es_135 (cA : Nat → ClassId) (h : Nat) : (ESL cA h)[posT.getD 135 0]? = some (ce cA (adz h) w0s 135) := rfl
theorem es_136 (cA : Nat → ClassId) (h : Nat) : (ESL cA h)[posT.getD 136 0]? = some (ce cA (adz h) w0s 136) := rfl
theorem es_all (cA : Nat → ClassId) (h : Nat) : ∀ i, i < NC → (ESL cA h)[posT.getD i 0]? = some (ce cA (adz h) w0s i) := fun i hi => match i, hi with
  | 0, _ => es_0 cA h
  | 1, _ => es_1 cA h
  | 2, _ => es_2 cA h
  | 3, _ => es_3 cA h
  | 4, _ => es_4 cA h
  | 5, _ => es_5 cA h
  | 6, _ => es_6 cA h
  | 7, _ => es_7 cA h
  | 8, _ => es_8 cA h
  | 9, _ => es_9 cA h
  | 10, _ => es_10 cA h
  | 11, _ => es_11 cA h
  | 12, _ => es_12 cA h
  | 13, _ => es_13 cA h
  | 14, _ => es_14 cA h
  | 15, _ => es_15 cA h
  | 16, _ => es_16 cA h
  | 17, _ => es_17 cA h
  | 18, _ => es_18 cA h
  | 19, _ => es_19 cA h
  | 20, _ => es_20 cA h
  | 21, _ => es_21 cA h
  | 22, _ => es_22 cA h
  | 23, _ => es_23 cA h
  | 24, _ => es_24 cA h
  | 25, _ => es_25 cA h
  | 26, _ => es_26 cA h
  | 27, _ => es_27 cA h
  | 28, _ => es_28 cA h
  | 29, _ => es_29 cA h
  | 30, _ => es_30 cA h
  | 31, _ => es_31 cA h
  | 32, _ => es_32 cA h
  | 33, _ => es_33 cA h
  | 34, _ => es_34 cA h
  | 35, _ => es_35 cA h
  | 36, _ => es_36 cA h
  | 37, _ => es_37 cA h
  | 38, _ => es_38 cA h
  | 39, _ => es_39 cA h
  | 40, _ => es_40 cA h
  | 41, _ => es_41 cA h
  | 42, _ => es_42 cA h
  | 43, _ => es_43 cA h
  | 44, _ => es_44 cA h
  | 45, _ => es_45 cA h
  | 46, _ => es_46 cA h
  | 47, _ => es_47 cA h
  | 48, _ => es_48 cA h
  | 49, _ => es_49 cA h
  | 50, _ => es_50 cA h
  | 51, _ => es_51 cA h
  | 52, _ => es_52 cA h
  | 53, _ => es_53 cA h
  | 54, _ => es_54 cA h
  | 55, _ => es_55 cA h
  | 56, _ => es_56 cA h
  | 57, _ => es_57 cA h
  | 58, _ => es_58 cA h
  | 59, _ => es_59 cA h
  | 60, _ => es_60 cA h
  | 61, _ => es_61 cA h
  | 62, _ => es_62 cA h
  | 63, _ => es_63 cA h
  | 64, _ => es_64 cA h
  | 65, _ => es_65 cA h
  | 66, _ => es_66 cA h
  | 67, _ => es_67 cA h
  | 68, _ => es_68 cA h
  | 69, _ => es_69 cA h
  | 70, _ => es_70 cA h
  | 71, _ => es_71 cA h
  | 72, _ => es_72 cA h
  | 73, _ => es_73 cA h
  | 74, _ => es_74 cA h
  | 75, _ => es_75 cA h
  | 76, _ => es_76 cA h
  | 77, _ => es_77 cA h
  | 78, _ => es_78 cA h
  | 79, _ => es_79 cA h
  | 80, _ => es_80 cA h
  | 81, _ => es_81 cA h
  | 82, _ => es_82 cA h
  | 83, _ => es_83 cA h
  | 84, _ => es_84 cA h
  | 85, _ => es_85 cA h
  | 86, _ => es_86 cA h
  | 87, _ => es_87 cA h
  | 88, _ => es_88 cA h
  | 89, _ => es_89 cA h
  | 90, _ => es_90 cA h
  | 91, _ => es_91 cA h
  | 92, _ => es_92 cA h
  | 93, _ => es_93 cA h
  | 94, _ => es_94 cA h
  | 95, _ => es_95 cA h
  | 96, _ => es_96 cA h
  | 97, _ => es_97 cA h
  | 98, _ => es_98 cA h
  | 99, _ => es_99 cA h
  | 100, _ => es_100 cA h
  | 101, _ => es_101 cA h
  | 102, _ => es_102 cA h
  | 103, _ => es_103 cA h
  | 104, _ => es_104 cA h
  | 105, _ => es_105 cA h
  | 106, _ => es_106 cA h
  | 107, _ => es_107 cA h
  | 108, _ => es_108 cA h
  | 109, _ => es_109 cA h
  | 110, _ => es_110 cA h
  | 111, _ => es_111 cA h
  | 112, _ => es_112 cA h
  | 113, _ => es_113 cA h
  | 114, _ => es_114 cA h
  | 115, _ => es_115 cA h
  | 116, _ => es_116 cA h
  | 117, _ => es_117 cA h
  | 118, _ => es_118 cA h
  | 119, _ => es_119 cA h
  | 120, _ => es_120 cA h
  | 121, _ => es_121 cA h
  | 122, _ => es_122 cA h
  | 123, _ => es_123 cA h
  | 124, _ => es_124 cA h
  | 125, _ => es_125 cA h
  | 126, _ => es_126 cA h
  | 127, _ => es_127 cA h
  | 128, _ => es_128 cA h
  | 129, _ => es_129 cA h
  | 130, _ => es_130 cA h
  | 131, _ => es_131 cA h
  | 132, _ => es_132 cA h
  | 133, _ => es_133 cA h
  | 134, _ => es_134 cA h
  | 135, _ => es_135 cA h
  | 136, _ => es_136 cA h
  | k + 137, h9 => absurd h9 (by unfold NC; omega)
