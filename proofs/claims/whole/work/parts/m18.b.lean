/-! the constructors-/
theorem ow_34 : Cond.code objectInit ⟨#[0xb1]⟩ 1 none ∈ TT := TT_in (tm_1 _ (List.mem_of_getElem? (i := 34) rfl)) rfl
theorem ow_33 : Cond.instanceMethod objectInit ∈ TT := TT_in (tm_1 _ (List.mem_of_getElem? (i := 33) rfl)) rfl
theorem ow_63 : Cond.methodLink RX1 1 objectInit ∈ TT := TT_in (tm_1 _ (List.mem_of_getElem? (i := 63) rfl)) rfl
theorem ow_104 : Cond.methodLink RX3 1 objectInit ∈ TT := TT_in (tm_1 _ (List.mem_of_getElem? (i := 104) rfl)) rfl
theorem ow_40 : Cond.methodLink RX6 3 objectInit ∈ TT := TT_in (tm_1 _ (List.mem_of_getElem? (i := 40) rfl)) rfl
theorem ow_57 : Cond.methodLink RX0 1 objectInit ∈ TT := TT_in (tm_1 _ (List.mem_of_getElem? (i := 57) rfl)) rfl
theorem ow_96 : Cond.methodLink RX2 3 objectInit ∈ TT := TT_in (tm_1 _ (List.mem_of_getElem? (i := 96) rfl)) rfl
theorem ow_178 : Cond.methodLink RX5 3 objectInit ∈ TT := TT_in (tm_1 _ (List.mem_of_getElem? (i := 178) rfl)) rfl
theorem ow_206 : Cond.methodLink RX4 3 objectInit ∈ TT := TT_in (tm_1 _ (List.mem_of_getElem? (i := 206) rfl)) rfl
theorem ow_256 : Cond.methodLink RX7 3 objectInit ∈ TT := TT_in (tm_2 _ (List.mem_of_getElem? (i := 16) rfl)) rfl
theorem ow_32 : Cond.methodLink RX8 1 objectInit ∈ TT := TT_in (tm_1 _ (List.mem_of_getElem? (i := 32) rfl)) rfl
theorem ow_1230 : Cond.methodLink RX9 1 objectInit ∈ TT := TT_in (tm_6 _ (List.mem_of_getElem? (i := 30) rfl)) rfl

theorem df_X0 : ∀ j, j < 5 → defaultValue (tyX0 j) = vp_V [vi 0, .null, .null, .null, vi 0] j := fun j hj => match j, hj with | 0, _ => rfl | 1, _ => rfl | 2, _ => rfl | 3, _ => rfl | 4, _ => rfl | (n9 + 5), h9 => absurd h9 (by omega)
theorem df_X1 : ∀ j, j < 1 → defaultValue (tyX1 j) = vp_V [.null] j := fun j hj => match j, hj with | 0, _ => rfl | (n9 + 1), h9 => absurd h9 (by omega)
theorem df_X2 : ∀ j, j < 16 → defaultValue (tyX2 j) = vp_V [.null, .null, .null, .null, .null, .null, .null, .null, vi 0, vi 0, vi 0, vi 0, vi 0, vi 0, vi 0, vi 0] j := fun j hj => match j, hj with | 0, _ => rfl | 1, _ => rfl | 2, _ => rfl | 3, _ => rfl | 4, _ => rfl | 5, _ => rfl | 6, _ => rfl | 7, _ => rfl | 8, _ => rfl | 9, _ => rfl | 10, _ => rfl | 11, _ => rfl | 12, _ => rfl | 13, _ => rfl | 14, _ => rfl | 15, _ => rfl | (n9 + 16), h9 => absurd h9 (by omega)
theorem df_X3 : ∀ j, j < 4 → defaultValue (tyX3 j) = vp_V [.null, .null, .null, vi 0] j := fun j hj => match j, hj with | 0, _ => rfl | 1, _ => rfl | 2, _ => rfl | 3, _ => rfl | (n9 + 4), h9 => absurd h9 (by omega)
theorem df_X4 : ∀ j, j < 10 → defaultValue (tyX4 j) = vp_V [.null, .null, .null, .null, .null, .null, vi 0, .null, .null, .null] j := fun j hj => match j, hj with | 0, _ => rfl | 1, _ => rfl | 2, _ => rfl | 3, _ => rfl | 4, _ => rfl | 5, _ => rfl | 6, _ => rfl | 7, _ => rfl | 8, _ => rfl | 9, _ => rfl | (n9 + 10), h9 => absurd h9 (by omega)
theorem df_X5 : ∀ j, j < 5 → defaultValue (tyX5 j) = vp_V [.null, .null, .null, .null, .null] j := fun j hj => match j, hj with | 0, _ => rfl | 1, _ => rfl | 2, _ => rfl | 3, _ => rfl | 4, _ => rfl | (n9 + 5), h9 => absurd h9 (by omega)
theorem df_X6 : ∀ j, j < 3 → defaultValue (tyX6 j) = vp_V [vi 0, .null, .null] j := fun j hj => match j, hj with | 0, _ => rfl | 1, _ => rfl | 2, _ => rfl | (n9 + 3), h9 => absurd h9 (by omega)
theorem df_X7 : ∀ j, j < 15 → defaultValue (tyX7 j) = vp_V [.null, .null, .null, .null, .null, .null, .null, .null, .null, vi 0, vi 0, vi 0, vi 0, vi 0, vi 0] j := fun j hj => match j, hj with | 0, _ => rfl | 1, _ => rfl | 2, _ => rfl | 3, _ => rfl | 4, _ => rfl | 5, _ => rfl | 6, _ => rfl | 7, _ => rfl | 8, _ => rfl | 9, _ => rfl | 10, _ => rfl | 11, _ => rfl | 12, _ => rfl | 13, _ => rfl | 14, _ => rfl | (n9 + 15), h9 => absurd h9 (by omega)
theorem df_X8 : ∀ j, j < 19 → defaultValue (tyX8 j) = vp_V [.null, .null, vi 0, .null, .null, .null, .null, .null, .null, .null, .null, .null, vi 0, vi 0, vi 0, vi 0, vi 0, vi 0, vi 0] j := fun j hj => match j, hj with | 0, _ => rfl | 1, _ => rfl | 2, _ => rfl | 3, _ => rfl | 4, _ => rfl | 5, _ => rfl | 6, _ => rfl | 7, _ => rfl | 8, _ => rfl | 9, _ => rfl | 10, _ => rfl | 11, _ => rfl | 12, _ => rfl | 13, _ => rfl | 14, _ => rfl | 15, _ => rfl | 16, _ => rfl | 17, _ => rfl | 18, _ => rfl | (n9 + 19), h9 => absurd h9 (by omega)
theorem df_X9 : ∀ j, j < 81 → defaultValue (tyX9 j) = vp_V [vi 0, .null, vi 0, .null, .null, vi 0, .null, .null, .null, .null, .null, vi 0, .null, .null, .null, vi 0, .null, .null, .null, .null, vi 0, vi 0, vi 0, .null, .null, .null, .null, vi 0, .null, .null, .null, .null, .null, .null, vi 0, .null, .null, .null, vi 0, vi 0, vi 0, vi 0, vi 0, vi 0, vi 0, .null, .null, .null, .null, .null, .null, vi 0, .null, .null, .null, .null, .null, .null, .null, vi 0, vi 0, vi 0, vi 0, vi 0, .null, .null, .null, .null, .null, vi 0, vi 0, vi 0, vi 0, vi 0, vi 0, vi 0, vi 0, .null, .null, .null, vi 0] j := fun j hj => match j, hj with | 0, _ => rfl | 1, _ => rfl | 2, _ => rfl | 3, _ => rfl | 4, _ => rfl | 5, _ => rfl | 6, _ => rfl | 7, _ => rfl | 8, _ => rfl | 9, _ => rfl | 10, _ => rfl | 11, _ => rfl | 12, _ => rfl | 13, _ => rfl | 14, _ => rfl | 15, _ => rfl | 16, _ => rfl | 17, _ => rfl | 18, _ => rfl | 19, _ => rfl | 20, _ => rfl | 21, _ => rfl | 22, _ => rfl | 23, _ => rfl | 24, _ => rfl | 25, _ => rfl | 26, _ => rfl | 27, _ => rfl | 28, _ => rfl | 29, _ => rfl | 30, _ => rfl | 31, _ => rfl | 32, _ => rfl | 33, _ => rfl | 34, _ => rfl | 35, _ => rfl | 36, _ => rfl | 37, _ => rfl | 38, _ => rfl | 39, _ => rfl | 40, _ => rfl | 41, _ => rfl | 42, _ => rfl | 43, _ => rfl | 44, _ => rfl | 45, _ => rfl | 46, _ => rfl | 47, _ => rfl | 48, _ => rfl | 49, _ => rfl | 50, _ => rfl | 51, _ => rfl | 52, _ => rfl | 53, _ => rfl | 54, _ => rfl | 55, _ => rfl | 56, _ => rfl | 57, _ => rfl | 58, _ => rfl | 59, _ => rfl | 60, _ => rfl | 61, _ => rfl | 62, _ => rfl | 63, _ => rfl | 64, _ => rfl | 65, _ => rfl | 66, _ => rfl | 67, _ => rfl | 68, _ => rfl | 69, _ => rfl | 70, _ => rfl | 71, _ => rfl | 72, _ => rfl | 73, _ => rfl | 74, _ => rfl | 75, _ => rfl | 76, _ => rfl | 77, _ => rfl | 78, _ => rfl | 79, _ => rfl | 80, _ => rfl | (n9 + 81), h9 => absurd h9 (by omega)
abbrev eAr (cA : Nat → ClassId) (t n : Nat) : va_E := .inl (cA t, n, arv t (fun _ => 0))
def eX1 (cA : Nat → ClassId) (h n : Nat) : List va_E := [.inr (3, [.ref (h + 1)]), eAr cA 0 n]
def eX3 (cA : Nat → ClassId) (h n : Nat) : List va_E := [.inr (5, [.ref (h + 1), .ref (h + 2), .ref (h + 3), vi 0]), eAr cA 0 n, eAr cA 0 n, eAr cA 0 n]
def eX6 (cA : Nat → ClassId) (h r m : Nat) (b : Int) : List va_E := [.inr (8, [vi b, .ref (h + 1), .ref (h + 2)]), eAr cA 0 m, eAr cA 0 r]
abbrev rI1 (n : Nat) : Room := { frames := 1, cells := 1, slots := n, locals := 40 }
abbrev rI3 (n : Nat) : Room := { frames := 1, cells := 3, slots := 3 * n, locals := 40 }
abbrev rI6 (r m : Nat) : Room := { frames := 1, cells := 2, slots := m + r, locals := 40 }
set_option maxHeartbeats 20000000 in
set_option maxRecDepth 20000 in
theorem c_X1 {G : Gb} (h n : Nat) {a : Int} (ha : wr a = (n : Int)) (hn : n ≤ 100000) : MBc G yX1_init cX1_init 2 (rI1 n) h [vi a] (.inr (3, [.null])) (eX1 G.2.2 h n) := by
  refine MBc_of (by decide +kernel) rfl (Nat.le_of_ble_eq_true rfl) (fun E X hI hE => ?_)
  have X : Cb G E h cX1_init RX1 none (rI1 n) 2 := X
  refine B_aload_n X dX1_init_0 rfl rfl ?_
  refine B_obj X ow_63 ow_33 ow_34 dX1_init_1 (Nat.le_of_ble_eq_true rfl) (Nat.le_of_ble_eq_true rfl) ?_
  refine B_aload_n X dX1_init_4 rfl rfl ?_
  refine B_iload_n X dX1_init_5 rfl rfl ?_
  refine B_if_ge X (tgt := 13) dX1_init_6 (by decide) (by rw [ha]; omega) ?_
  refine B_iload_n X dX1_init_13 rfl rfl ?_
  refine B_newa X 0 (atype := .int) (ty := .int) (a0 := (n, arv 0 (fun _ => 0))) rfl rfl (fun _ _ h => h) tw_136 (fun _ => rfl) (by rw [ha]; omega) (by rw [ha]; exact Int.toNat_natCast _) (by show _ * 4 ≤ 536870912; omega) (m9 := 1) rfl dX1_init_14 ⟨Nat.le_of_ble_eq_true rfl, by show _ ≤ n; omega⟩ ?_
  refine B_putF X hI rfl hin_X1 0 (Nat.le_of_ble_eq_true rfl) tw_149 tyX1 tyX1_ok nmX1 rfl rfl (tyX1_ok 0 (Nat.le_of_ble_eq_true rfl)) rfl rfl (Nat.le_of_ble_eq_true rfl) (fs' := [.ref (h + 1)]) rfl dX1_init_16 ?_
  exact B_ret X hE ⟨Nat.le_of_ble_eq_true rfl, by show _ ≤ n; omega⟩ dX1_init_19
set_option maxHeartbeats 20000000 in
set_option maxRecDepth 20000 in
theorem c_X3 {G : Gb} (h n : Nat) {a : Int} (ha : wr a = (n : Int)) (hn : n ≤ 100000) : MBc G yX3_init cX3_init 2 (rI3 n) h [vi a] (.inr (5, [.null, .null, .null, vi 0])) (eX3 G.2.2 h n) := by
  refine MBc_of (by decide +kernel) rfl (Nat.le_of_ble_eq_true rfl) (fun E X hI hE => ?_)
  have X : Cb G E h cX3_init RX3 none (rI3 n) 2 := X
  refine B_aload_n X dX3_init_0 rfl rfl ?_
  refine B_obj X ow_104 ow_33 ow_34 dX3_init_1 (Nat.le_of_ble_eq_true rfl) (Nat.le_of_ble_eq_true rfl) ?_
  refine B_aload_n X dX3_init_4 rfl rfl ?_
  refine B_iload_n X dX3_init_5 rfl rfl ?_
  refine B_if_ge X (tgt := 13) dX3_init_6 (by decide) (by rw [ha]; omega) ?_
  refine B_iload_n X dX3_init_13 rfl rfl ?_
  refine B_newa X 0 (atype := .int) (ty := .int) (a0 := (n, arv 0 (fun _ => 0))) rfl rfl (fun _ _ h => h) tw_136 (fun _ => rfl) (by rw [ha]; omega) (by rw [ha]; exact Int.toNat_natCast _) (by show _ * 4 ≤ 536870912; omega) (m9 := 1) rfl dX3_init_14 ⟨Nat.le_of_ble_eq_true rfl, by show _ ≤ 3 * n; omega⟩ ?_
  refine B_putF X hI rfl hin_X3 0 (Nat.le_of_ble_eq_true rfl) tw_190 tyX3 tyX3_ok nmX3 rfl rfl (tyX3_ok 0 (Nat.le_of_ble_eq_true rfl)) rfl rfl (Nat.le_of_ble_eq_true rfl) (fs' := [.ref (h + 1), .null, .null, vi 0]) rfl dX3_init_16 ?_
  refine B_aload_n X dX3_init_19 rfl rfl ?_
  refine B_iload_n X dX3_init_20 rfl rfl ?_
  refine B_if_ge X (tgt := 28) dX3_init_21 (by decide) (by rw [ha]; omega) ?_
  refine B_iload_n X dX3_init_28 rfl rfl ?_
  refine B_newa X 0 (atype := .int) (ty := .int) (a0 := (n, arv 0 (fun _ => 0))) rfl rfl (fun _ _ h => h) tw_136 (fun _ => rfl) (by rw [ha]; omega) (by rw [ha]; exact Int.toNat_natCast _) (by show _ * 4 ≤ 536870912; omega) (m9 := 2) rfl dX3_init_29 ⟨Nat.le_of_ble_eq_true rfl, by show _ ≤ 3 * n; omega⟩ ?_
  refine B_putF X hI rfl hin_X3 1 (Nat.le_of_ble_eq_true rfl) tw_191 tyX3 tyX3_ok nmX3 rfl rfl (tyX3_ok 1 (Nat.le_of_ble_eq_true rfl)) rfl rfl (Nat.le_of_ble_eq_true rfl) (fs' := [.ref (h + 1), .ref (h + 2), .null, vi 0]) rfl dX3_init_31 ?_
  refine B_aload_n X dX3_init_34 rfl rfl ?_
  refine B_iload_n X dX3_init_35 rfl rfl ?_
  refine B_if_ge X (tgt := 43) dX3_init_36 (by decide) (by rw [ha]; omega) ?_
  refine B_iload_n X dX3_init_43 rfl rfl ?_
  refine B_newa X 0 (atype := .int) (ty := .int) (a0 := (n, arv 0 (fun _ => 0))) rfl rfl (fun _ _ h => h) tw_136 (fun _ => rfl) (by rw [ha]; omega) (by rw [ha]; exact Int.toNat_natCast _) (by show _ * 4 ≤ 536870912; omega) (m9 := 3) rfl dX3_init_44 ⟨Nat.le_of_ble_eq_true rfl, by show _ ≤ 3 * n; omega⟩ ?_
  refine B_putF X hI rfl hin_X3 2 (Nat.le_of_ble_eq_true rfl) tw_192 tyX3 tyX3_ok nmX3 rfl rfl (tyX3_ok 2 (Nat.le_of_ble_eq_true rfl)) rfl rfl (Nat.le_of_ble_eq_true rfl) (fs' := [.ref (h + 1), .ref (h + 2), .ref (h + 3), vi 0]) rfl dX3_init_46 ?_
  exact B_ret X hE ⟨Nat.le_of_ble_eq_true rfl, by show _ ≤ 3 * n; omega⟩ dX3_init_49
set_option maxHeartbeats 20000000 in
set_option maxRecDepth 20000 in
theorem c_X6 {G : Gb} (h r w m : Nat) {a b : Int} (ha : wr a = (r : Int)) (hb : wr b = (w : Int)) (hm : wr (a * b) = (m : Int)) (hn : m + r ≤ 100000) : MBc G yX6_init cX6_init 3 (rI6 r m) h [vi a, vi b] (.inr (8, [vi 0, .null, .null])) (eX6 G.2.2 h r m b) := by
  refine MBc_of (by decide +kernel) rfl (Nat.le_of_ble_eq_true rfl) (fun E X hI hE => ?_)
  have X : Cb G E h cX6_init RX6 none (rI6 r m) 3 := X
  refine B_aload_n X dX6_init_0 rfl rfl ?_
  refine B_obj X ow_40 ow_33 ow_34 dX6_init_1 (Nat.le_of_ble_eq_true rfl) (Nat.le_of_ble_eq_true rfl) ?_
  refine B_aload_n X dX6_init_4 rfl rfl ?_
  refine B_iload_n X dX6_init_5 rfl rfl ?_
  refine B_putF X hI rfl hin_X6 0 (Nat.le_of_ble_eq_true rfl) tw_126 tyX6 tyX6_ok nmX6 rfl rfl (tyX6_ok 0 (Nat.le_of_ble_eq_true rfl)) rfl rfl (Nat.le_of_ble_eq_true rfl) (fs' := [vi b, .null, .null]) rfl dX6_init_6 ?_
  refine B_aload_n X dX6_init_9 rfl rfl ?_
  refine B_iload_n X dX6_init_10 rfl rfl ?_
  refine B_if_lt X (tgt := 18) dX6_init_11 (by decide) (by rw [ha]; omega) ?_
  refine B_iload_n X dX6_init_14 rfl rfl ?_
  refine B_if_ge X (tgt := 22) dX6_init_15 (by decide) (by rw [hb]; omega) ?_
  refine B_iload_n X dX6_init_22 rfl rfl ?_
  refine B_iload_n X dX6_init_23 rfl rfl ?_
  refine B_imul X dX6_init_24 ?_
  refine B_newa X 0 (atype := .int) (ty := .int) (a0 := (m, arv 0 (fun _ => 0))) rfl rfl (fun _ _ h => h) tw_136 (fun _ => rfl) (by rw [hm]; omega) (by rw [hm]; exact Int.toNat_natCast _) (by show _ * 4 ≤ 536870912; omega) (m9 := 1) rfl dX6_init_25 ⟨Nat.le_of_ble_eq_true rfl, by show _ ≤ m + r; omega⟩ ?_
  refine B_putF X hI rfl hin_X6 1 (Nat.le_of_ble_eq_true rfl) tw_127 tyX6 tyX6_ok nmX6 rfl rfl (tyX6_ok 1 (Nat.le_of_ble_eq_true rfl)) rfl rfl (Nat.le_of_ble_eq_true rfl) (fs' := [vi b, .ref (h + 1), .null]) rfl dX6_init_27 ?_
  refine B_aload_n X dX6_init_30 rfl rfl ?_
  refine B_iload_n X dX6_init_31 rfl rfl ?_
  refine B_if_ge X (tgt := 39) dX6_init_32 (by decide) (by rw [ha]; omega) ?_
  refine B_iload_n X dX6_init_39 rfl rfl ?_
  refine B_newa X 0 (atype := .int) (ty := .int) (a0 := (r, arv 0 (fun _ => 0))) rfl rfl (fun _ _ h => h) tw_136 (fun _ => rfl) (by rw [ha]; omega) (by rw [ha]; exact Int.toNat_natCast _) (by show _ * 4 ≤ 536870912; omega) (m9 := 2) rfl dX6_init_40 ⟨Nat.le_of_ble_eq_true rfl, by show _ ≤ m + r; omega⟩ ?_
  refine B_putF X hI rfl hin_X6 2 (Nat.le_of_ble_eq_true rfl) tw_128 tyX6 tyX6_ok nmX6 rfl rfl (tyX6_ok 2 (Nat.le_of_ble_eq_true rfl)) rfl rfl (Nat.le_of_ble_eq_true rfl) (fs' := [vi b, .ref (h + 1), .ref (h + 2)]) rfl dX6_init_42 ?_
  exact B_ret X hE ⟨Nat.le_of_ble_eq_true rfl, by show _ ≤ m + r; omega⟩ dX6_init_45
abbrev rI0 : Room := { frames := 2, cells := 6, slots := 153, locals := 61 }
def eX0 (cA : Nat → ClassId) (h : Nat) : List va_E := ((([.inr (2, [vi 50, .ref (h + 1), .ref (h + 3), .ref (h + 5), vi 0])] ++ eX1 cA (h + 1) 50) ++ eX1 cA (h + 3) 50) ++ eX1 cA (h + 5) 50)
set_option maxHeartbeats 20000000 in
set_option maxRecDepth 20000 in
theorem c_X0 {G : Gb} (h : Nat) : MBc G yX0_init cX0_init 2 rI0 h [vi 50] (.inr (2, [vi 0, .null, .null, .null, vi 0])) (eX0 G.2.2 h) := by
  refine MBc_of (by decide +kernel) rfl (Nat.le_of_ble_eq_true rfl) (fun E X hI hE => ?_)
  have X : Cb G E h cX0_init RX0 none rI0 2 := X
  refine B_aload_n X dX0_init_0 rfl rfl ?_
  refine B_obj X ow_57 ow_33 ow_34 dX0_init_1 (Nat.le_of_ble_eq_true rfl) (Nat.le_of_ble_eq_true rfl) ?_
  refine B_aload_n X dX0_init_4 rfl rfl ?_
  refine B_iload_n X dX0_init_5 rfl rfl ?_
  refine B_putF X hI rfl hin_X0 0 (Nat.le_of_ble_eq_true rfl) tw_153 tyX0 tyX0_ok nmX0 rfl rfl (tyX0_ok 0 (Nat.le_of_ble_eq_true rfl)) rfl rfl (Nat.le_of_ble_eq_true rfl) (fs' := [vi 50, .null, .null, .null, vi 0]) rfl dX0_init_6 ?_
  refine B_aload_n X dX0_init_9 rfl rfl ?_
  refine B_new X (ci := 3) rfl hin_X1 tyX1 tyX1_ok tw_143 tw_144 tw_89 df_X1 (m9 := 1) rfl dX0_init_10 ⟨by decide +kernel, by decide +kernel⟩ ?_
  refine B_dup X dX0_init_13 rfl ?_
  refine B_iload_n X dX0_init_14 rfl rfl ?_
  refine B_call X _ [vi 50] _ 1 (c_X1 (h + 1) 50 (a := 50) (by decide +kernel) (Nat.le_of_ble_eq_true rfl)) tw_147 tw_89 tw_145 tw_146 rfl dX0_init_15 ⟨by decide +kernel, by decide +kernel, by decide +kernel⟩ ⟨Nat.le_of_ble_eq_true rfl, Nat.le_of_ble_eq_true rfl⟩ ⟨rfl, rfl⟩ rfl (Nat.le_of_ble_eq_true rfl) (m9 := 1) rfl ⟨by decide +kernel, by decide +kernel⟩ ?_
  refine B_putF X hI rfl hin_X0 1 (Nat.le_of_ble_eq_true rfl) tw_154 tyX0 tyX0_ok nmX0 rfl rfl (tyX0_ok 1 (Nat.le_of_ble_eq_true rfl)) rfl rfl (Nat.le_of_ble_eq_true rfl) (fs' := [vi 50, .ref (h + 1), .null, .null, vi 0]) rfl dX0_init_18 ?_
  refine B_aload_n X dX0_init_21 rfl rfl ?_
  refine B_new X (ci := 3) rfl hin_X1 tyX1 tyX1_ok tw_143 tw_144 tw_89 df_X1 (m9 := 3) rfl dX0_init_22 ⟨by decide +kernel, by decide +kernel⟩ ?_
  refine B_dup X dX0_init_25 rfl ?_
  refine B_iload_n X dX0_init_26 rfl rfl ?_
  refine B_call X _ [vi 50] _ 1 (c_X1 (h + 3) 50 (a := 50) (by decide +kernel) (Nat.le_of_ble_eq_true rfl)) tw_147 tw_89 tw_145 tw_146 rfl dX0_init_27 ⟨by decide +kernel, by decide +kernel, by decide +kernel⟩ ⟨Nat.le_of_ble_eq_true rfl, Nat.le_of_ble_eq_true rfl⟩ ⟨rfl, rfl⟩ rfl (Nat.le_of_ble_eq_true rfl) (m9 := 3) rfl ⟨by decide +kernel, by decide +kernel⟩ ?_
  refine B_putF X hI rfl hin_X0 2 (Nat.le_of_ble_eq_true rfl) tw_157 tyX0 tyX0_ok nmX0 rfl rfl (tyX0_ok 2 (Nat.le_of_ble_eq_true rfl)) rfl rfl (Nat.le_of_ble_eq_true rfl) (fs' := [vi 50, .ref (h + 1), .ref (h + 3), .null, vi 0]) rfl dX0_init_30 ?_
  refine B_aload_n X dX0_init_33 rfl rfl ?_
  refine B_new X (ci := 3) rfl hin_X1 tyX1 tyX1_ok tw_143 tw_144 tw_89 df_X1 (m9 := 5) rfl dX0_init_34 ⟨by decide +kernel, by decide +kernel⟩ ?_
  refine B_dup X dX0_init_37 rfl ?_
  refine B_iload_n X dX0_init_38 rfl rfl ?_
  refine B_call X _ [vi 50] _ 1 (c_X1 (h + 5) 50 (a := 50) (by decide +kernel) (Nat.le_of_ble_eq_true rfl)) tw_147 tw_89 tw_145 tw_146 rfl dX0_init_39 ⟨by decide +kernel, by decide +kernel, by decide +kernel⟩ ⟨Nat.le_of_ble_eq_true rfl, Nat.le_of_ble_eq_true rfl⟩ ⟨rfl, rfl⟩ rfl (Nat.le_of_ble_eq_true rfl) (m9 := 5) rfl ⟨by decide +kernel, by decide +kernel⟩ ?_
  refine B_putF X hI rfl hin_X0 3 (Nat.le_of_ble_eq_true rfl) tw_160 tyX0 tyX0_ok nmX0 rfl rfl (tyX0_ok 3 (Nat.le_of_ble_eq_true rfl)) rfl rfl (Nat.le_of_ble_eq_true rfl) (fs' := [vi 50, .ref (h + 1), .ref (h + 3), .ref (h + 5), vi 0]) rfl dX0_init_42 ?_
  exact B_ret X hE ⟨by decide +kernel, by decide +kernel⟩ dX0_init_45
abbrev rI2 : Room := { frames := 2, cells := 17, slots := 51077, locals := 62 }
def eX2 (cA : Nat → ClassId) (h p1 p2 p3 : Nat) : List va_E := ((((([.inr (4, [.ref (p1), .ref (p2), .ref (p3), .ref (h + 1), .ref (h + 4), .ref (h + 8), .ref (h + 12), .ref (h + 14), vi 0, vi 0, vi 0, vi 0, vi 0, vi 0, vi 0, vi 0])] ++ eX6 cA (h + 1) 1 60 60) ++ eX3 cA (h + 4) 6000) ++ eX3 cA (h + 8) 6000) ++ eX1 cA (h + 12) 6000) ++ eX3 cA (h + 14) 3000)
set_option maxHeartbeats 20000000 in
set_option maxRecDepth 20000 in
theorem c_X2 {G : Gb} (h : Nat) (p1 p2 p3 : Nat) : MBc G yX2_init cX2_init 4 rI2 h [.ref p1, .ref p2, .ref p3] (.inr (4, [.null, .null, .null, .null, .null, .null, .null, .null, vi 0, vi 0, vi 0, vi 0, vi 0, vi 0, vi 0, vi 0])) (eX2 G.2.2 h p1 p2 p3) := by
  refine MBc_of (by decide +kernel) rfl (Nat.le_of_ble_eq_true rfl) (fun E X hI hE => ?_)
  have X : Cb G E h cX2_init RX2 none rI2 4 := X
  refine B_aload_n X dX2_init_0 rfl rfl ?_
  refine B_obj X ow_96 ow_33 ow_34 dX2_init_1 (Nat.le_of_ble_eq_true rfl) (Nat.le_of_ble_eq_true rfl) ?_
  refine B_aload_n X dX2_init_4 rfl rfl ?_
  refine B_new X (ci := 8) rfl hin_X6 tyX6 tyX6_ok tw_182 tw_121 tw_87 df_X6 (m9 := 1) rfl dX2_init_5 ⟨by decide +kernel, by decide +kernel⟩ ?_
  refine B_dup X dX2_init_8 rfl ?_
  refine B_iconst X dX2_init_9 ?_
  refine B_bipush X dX2_init_10 (by decide) ?_
  refine B_call X _ [vi 1, vi 60] _ 2 (c_X6 (h + 1) 1 60 60 (a := 1) (b := 60) (by decide +kernel) (by decide +kernel) (by decide +kernel) (Nat.le_of_ble_eq_true rfl)) tw_124 tw_87 tw_183 tw_123 rfl dX2_init_12 ⟨by decide +kernel, by decide +kernel, by decide +kernel⟩ ⟨Nat.le_of_ble_eq_true rfl, Nat.le_of_ble_eq_true rfl⟩ ⟨rfl, rfl⟩ rfl (Nat.le_of_ble_eq_true rfl) (m9 := 1) rfl ⟨by decide +kernel, by decide +kernel⟩ ?_
  refine B_putF X hI rfl hin_X2 3 (Nat.le_of_ble_eq_true rfl) tw_209 tyX2 tyX2_ok nmX2 rfl rfl (tyX2_ok 3 (Nat.le_of_ble_eq_true rfl)) rfl rfl (Nat.le_of_ble_eq_true rfl) (fs' := [.null, .null, .null, .ref (h + 1), .null, .null, .null, .null, vi 0, vi 0, vi 0, vi 0, vi 0, vi 0, vi 0, vi 0]) rfl dX2_init_15 ?_
  refine B_aload_n X dX2_init_18 rfl rfl ?_
  refine B_new X (ci := 5) rfl hin_X3 tyX3 tyX3_ok tw_184 tw_185 tw_91 df_X3 (m9 := 4) rfl dX2_init_19 ⟨by decide +kernel, by decide +kernel⟩ ?_
  refine B_dup X dX2_init_22 rfl ?_
  refine B_sipush X dX2_init_23 (by decide) ?_
  refine B_call X _ [vi 6000] _ 1 (c_X3 (h + 4) 6000 (a := 6000) (by decide +kernel) (Nat.le_of_ble_eq_true rfl)) tw_188 tw_91 tw_186 tw_187 rfl dX2_init_26 ⟨by decide +kernel, by decide +kernel, by decide +kernel⟩ ⟨Nat.le_of_ble_eq_true rfl, Nat.le_of_ble_eq_true rfl⟩ ⟨rfl, rfl⟩ rfl (Nat.le_of_ble_eq_true rfl) (m9 := 4) rfl ⟨by decide +kernel, by decide +kernel⟩ ?_
  refine B_putF X hI rfl hin_X2 4 (Nat.le_of_ble_eq_true rfl) tw_210 tyX2 tyX2_ok nmX2 rfl rfl (tyX2_ok 4 (Nat.le_of_ble_eq_true rfl)) rfl rfl (Nat.le_of_ble_eq_true rfl) (fs' := [.null, .null, .null, .ref (h + 1), .ref (h + 4), .null, .null, .null, vi 0, vi 0, vi 0, vi 0, vi 0, vi 0, vi 0, vi 0]) rfl dX2_init_29 ?_
  refine B_aload_n X dX2_init_32 rfl rfl ?_
  refine B_new X (ci := 5) rfl hin_X3 tyX3 tyX3_ok tw_184 tw_185 tw_91 df_X3 (m9 := 8) rfl dX2_init_33 ⟨by decide +kernel, by decide +kernel⟩ ?_
  refine B_dup X dX2_init_36 rfl ?_
  refine B_sipush X dX2_init_37 (by decide) ?_
  refine B_call X _ [vi 6000] _ 1 (c_X3 (h + 8) 6000 (a := 6000) (by decide +kernel) (Nat.le_of_ble_eq_true rfl)) tw_188 tw_91 tw_186 tw_187 rfl dX2_init_40 ⟨by decide +kernel, by decide +kernel, by decide +kernel⟩ ⟨Nat.le_of_ble_eq_true rfl, Nat.le_of_ble_eq_true rfl⟩ ⟨rfl, rfl⟩ rfl (Nat.le_of_ble_eq_true rfl) (m9 := 8) rfl ⟨by decide +kernel, by decide +kernel⟩ ?_
  refine B_putF X hI rfl hin_X2 5 (Nat.le_of_ble_eq_true rfl) tw_211 tyX2 tyX2_ok nmX2 rfl rfl (tyX2_ok 5 (Nat.le_of_ble_eq_true rfl)) rfl rfl (Nat.le_of_ble_eq_true rfl) (fs' := [.null, .null, .null, .ref (h + 1), .ref (h + 4), .ref (h + 8), .null, .null, vi 0, vi 0, vi 0, vi 0, vi 0, vi 0, vi 0, vi 0]) rfl dX2_init_43 ?_
  refine B_aload_n X dX2_init_46 rfl rfl ?_
  refine B_new X (ci := 3) rfl hin_X1 tyX1 tyX1_ok tw_204 tw_144 tw_89 df_X1 (m9 := 12) rfl dX2_init_47 ⟨by decide +kernel, by decide +kernel⟩ ?_
  refine B_dup X dX2_init_50 rfl ?_
  refine B_sipush X dX2_init_51 (by decide) ?_
  refine B_call X _ [vi 6000] _ 1 (c_X1 (h + 12) 6000 (a := 6000) (by decide +kernel) (Nat.le_of_ble_eq_true rfl)) tw_147 tw_89 tw_205 tw_146 rfl dX2_init_54 ⟨by decide +kernel, by decide +kernel, by decide +kernel⟩ ⟨Nat.le_of_ble_eq_true rfl, Nat.le_of_ble_eq_true rfl⟩ ⟨rfl, rfl⟩ rfl (Nat.le_of_ble_eq_true rfl) (m9 := 12) rfl ⟨by decide +kernel, by decide +kernel⟩ ?_
  refine B_putF X hI rfl hin_X2 6 (Nat.le_of_ble_eq_true rfl) tw_212 tyX2 tyX2_ok nmX2 rfl rfl (tyX2_ok 6 (Nat.le_of_ble_eq_true rfl)) rfl rfl (Nat.le_of_ble_eq_true rfl) (fs' := [.null, .null, .null, .ref (h + 1), .ref (h + 4), .ref (h + 8), .ref (h + 12), .null, vi 0, vi 0, vi 0, vi 0, vi 0, vi 0, vi 0, vi 0]) rfl dX2_init_57 ?_
  refine B_aload_n X dX2_init_60 rfl rfl ?_
  refine B_new X (ci := 5) rfl hin_X3 tyX3 tyX3_ok tw_184 tw_185 tw_91 df_X3 (m9 := 14) rfl dX2_init_61 ⟨by decide +kernel, by decide +kernel⟩ ?_
  refine B_dup X dX2_init_64 rfl ?_
  refine B_sipush X dX2_init_65 (by decide) ?_
  refine B_call X _ [vi 3000] _ 1 (c_X3 (h + 14) 3000 (a := 3000) (by decide +kernel) (Nat.le_of_ble_eq_true rfl)) tw_188 tw_91 tw_186 tw_187 rfl dX2_init_68 ⟨by decide +kernel, by decide +kernel, by decide +kernel⟩ ⟨Nat.le_of_ble_eq_true rfl, Nat.le_of_ble_eq_true rfl⟩ ⟨rfl, rfl⟩ rfl (Nat.le_of_ble_eq_true rfl) (m9 := 14) rfl ⟨by decide +kernel, by decide +kernel⟩ ?_
  refine B_putF X hI rfl hin_X2 7 (Nat.le_of_ble_eq_true rfl) tw_213 tyX2 tyX2_ok nmX2 rfl rfl (tyX2_ok 7 (Nat.le_of_ble_eq_true rfl)) rfl rfl (Nat.le_of_ble_eq_true rfl) (fs' := [.null, .null, .null, .ref (h + 1), .ref (h + 4), .ref (h + 8), .ref (h + 12), .ref (h + 14), vi 0, vi 0, vi 0, vi 0, vi 0, vi 0, vi 0, vi 0]) rfl dX2_init_71 ?_
  refine B_aload_n X dX2_init_74 rfl rfl ?_
  refine B_aload_n X dX2_init_75 rfl rfl ?_
  refine B_putF X hI rfl hin_X2 0 (Nat.le_of_ble_eq_true rfl) tw_206 tyX2 tyX2_ok nmX2 rfl rfl (tyX2_ok 0 (Nat.le_of_ble_eq_true rfl)) rfl rfl (Nat.le_of_ble_eq_true rfl) (fs' := [.ref (p1), .null, .null, .ref (h + 1), .ref (h + 4), .ref (h + 8), .ref (h + 12), .ref (h + 14), vi 0, vi 0, vi 0, vi 0, vi 0, vi 0, vi 0, vi 0]) rfl dX2_init_76 ?_
  refine B_aload_n X dX2_init_79 rfl rfl ?_
  refine B_aload_n X dX2_init_80 rfl rfl ?_
  refine B_putF X hI rfl hin_X2 1 (Nat.le_of_ble_eq_true rfl) tw_207 tyX2 tyX2_ok nmX2 rfl rfl (tyX2_ok 1 (Nat.le_of_ble_eq_true rfl)) rfl rfl (Nat.le_of_ble_eq_true rfl) (fs' := [.ref (p1), .ref (p2), .null, .ref (h + 1), .ref (h + 4), .ref (h + 8), .ref (h + 12), .ref (h + 14), vi 0, vi 0, vi 0, vi 0, vi 0, vi 0, vi 0, vi 0]) rfl dX2_init_81 ?_
  refine B_aload_n X dX2_init_84 rfl rfl ?_
  refine B_aload_n X dX2_init_85 rfl rfl ?_
  refine B_putF X hI rfl hin_X2 2 (Nat.le_of_ble_eq_true rfl) tw_208 tyX2 tyX2_ok nmX2 rfl rfl (tyX2_ok 2 (Nat.le_of_ble_eq_true rfl)) rfl rfl (Nat.le_of_ble_eq_true rfl) (fs' := [.ref (p1), .ref (p2), .ref (p3), .ref (h + 1), .ref (h + 4), .ref (h + 8), .ref (h + 12), .ref (h + 14), vi 0, vi 0, vi 0, vi 0, vi 0, vi 0, vi 0, vi 0]) rfl dX2_init_86 ?_
  exact B_ret X hE ⟨by decide +kernel, by decide +kernel⟩ dX2_init_89
abbrev rI5 : Room := { frames := 2, cells := 5, slots := 3104, locals := 62 }
def eX5 (cA : Nat → ClassId) (h p1 p2 p3 : Nat) : List va_E := (([.inr (7, [.ref (p1), .ref (p2), .ref (p3), .ref (h + 1), .ref (h + 4)])] ++ eX6 cA (h + 1) 50 3000 60) ++ eX1 cA (h + 4) 50)
set_option maxHeartbeats 20000000 in
set_option maxRecDepth 20000 in
theorem c_X5 {G : Gb} (h : Nat) (p1 p2 p3 : Nat) : MBc G yX5_init cX5_init 4 rI5 h [.ref p1, .ref p2, .ref p3] (.inr (7, [.null, .null, .null, .null, .null])) (eX5 G.2.2 h p1 p2 p3) := by
  refine MBc_of (by decide +kernel) rfl (Nat.le_of_ble_eq_true rfl) (fun E X hI hE => ?_)
  have X : Cb G E h cX5_init RX5 none rI5 4 := X
  refine B_aload_n X dX5_init_0 rfl rfl ?_
  refine B_obj X ow_178 ow_33 ow_34 dX5_init_1 (Nat.le_of_ble_eq_true rfl) (Nat.le_of_ble_eq_true rfl) ?_
  refine B_aload_n X dX5_init_4 rfl rfl ?_
  refine B_new X (ci := 8) rfl hin_X6 tyX6 tyX6_ok tw_264 tw_121 tw_87 df_X6 (m9 := 1) rfl dX5_init_5 ⟨by decide +kernel, by decide +kernel⟩ ?_
  refine B_dup X dX5_init_8 rfl ?_
  refine B_bipush X dX5_init_9 (by decide) ?_
  refine B_bipush X dX5_init_11 (by decide) ?_
  refine B_call X _ [vi 50, vi 60] _ 2 (c_X6 (h + 1) 50 60 3000 (a := 50) (b := 60) (by decide +kernel) (by decide +kernel) (by decide +kernel) (Nat.le_of_ble_eq_true rfl)) tw_124 tw_87 tw_265 tw_123 rfl dX5_init_13 ⟨by decide +kernel, by decide +kernel, by decide +kernel⟩ ⟨Nat.le_of_ble_eq_true rfl, Nat.le_of_ble_eq_true rfl⟩ ⟨rfl, rfl⟩ rfl (Nat.le_of_ble_eq_true rfl) (m9 := 1) rfl ⟨by decide +kernel, by decide +kernel⟩ ?_
  refine B_putF X hI rfl hin_X5 3 (Nat.le_of_ble_eq_true rfl) tw_271 tyX5 tyX5_ok nmX5 rfl rfl (tyX5_ok 3 (Nat.le_of_ble_eq_true rfl)) rfl rfl (Nat.le_of_ble_eq_true rfl) (fs' := [.null, .null, .null, .ref (h + 1), .null]) rfl dX5_init_16 ?_
  refine B_aload_n X dX5_init_19 rfl rfl ?_
  refine B_new X (ci := 3) rfl hin_X1 tyX1 tyX1_ok tw_266 tw_144 tw_89 df_X1 (m9 := 4) rfl dX5_init_20 ⟨by decide +kernel, by decide +kernel⟩ ?_
  refine B_dup X dX5_init_23 rfl ?_
  refine B_bipush X dX5_init_24 (by decide) ?_
  refine B_call X _ [vi 50] _ 1 (c_X1 (h + 4) 50 (a := 50) (by decide +kernel) (Nat.le_of_ble_eq_true rfl)) tw_147 tw_89 tw_267 tw_146 rfl dX5_init_26 ⟨by decide +kernel, by decide +kernel, by decide +kernel⟩ ⟨Nat.le_of_ble_eq_true rfl, Nat.le_of_ble_eq_true rfl⟩ ⟨rfl, rfl⟩ rfl (Nat.le_of_ble_eq_true rfl) (m9 := 4) rfl ⟨by decide +kernel, by decide +kernel⟩ ?_
  refine B_putF X hI rfl hin_X5 4 (Nat.le_of_ble_eq_true rfl) tw_274 tyX5 tyX5_ok nmX5 rfl rfl (tyX5_ok 4 (Nat.le_of_ble_eq_true rfl)) rfl rfl (Nat.le_of_ble_eq_true rfl) (fs' := [.null, .null, .null, .ref (h + 1), .ref (h + 4)]) rfl dX5_init_29 ?_
  refine B_aload_n X dX5_init_32 rfl rfl ?_
  refine B_aload_n X dX5_init_33 rfl rfl ?_
  refine B_putF X hI rfl hin_X5 0 (Nat.le_of_ble_eq_true rfl) tw_268 tyX5 tyX5_ok nmX5 rfl rfl (tyX5_ok 0 (Nat.le_of_ble_eq_true rfl)) rfl rfl (Nat.le_of_ble_eq_true rfl) (fs' := [.ref (p1), .null, .null, .ref (h + 1), .ref (h + 4)]) rfl dX5_init_34 ?_
  refine B_aload_n X dX5_init_37 rfl rfl ?_
  refine B_aload_n X dX5_init_38 rfl rfl ?_
  refine B_putF X hI rfl hin_X5 1 (Nat.le_of_ble_eq_true rfl) tw_269 tyX5 tyX5_ok nmX5 rfl rfl (tyX5_ok 1 (Nat.le_of_ble_eq_true rfl)) rfl rfl (Nat.le_of_ble_eq_true rfl) (fs' := [.ref (p1), .ref (p2), .null, .ref (h + 1), .ref (h + 4)]) rfl dX5_init_39 ?_
  refine B_aload_n X dX5_init_42 rfl rfl ?_
  refine B_aload_n X dX5_init_43 rfl rfl ?_
  refine B_putF X hI rfl hin_X5 2 (Nat.le_of_ble_eq_true rfl) tw_270 tyX5 tyX5_ok nmX5 rfl rfl (tyX5_ok 2 (Nat.le_of_ble_eq_true rfl)) rfl rfl (Nat.le_of_ble_eq_true rfl) (fs' := [.ref (p1), .ref (p2), .ref (p3), .ref (h + 1), .ref (h + 4)]) rfl dX5_init_44 ?_
  exact B_ret X hE ⟨by decide +kernel, by decide +kernel⟩ dX5_init_47
abbrev rI4 : Room := { frames := 2, cells := 18, slots := 274, locals := 61 }
def eX4 (cA : Nat → ClassId) (h : Nat) : List va_E := ((((((((([.inr (6, [.ref (h + 1), .ref (h + 3), .ref (h + 5), .ref (h + 7), .ref (h + 9), .ref (h + 11), vi 0, .ref (h + 13), .ref (h + 15), .ref (h + 17)])] ++ eX1 cA (h + 1) 40) ++ eX1 cA (h + 3) 40) ++ eX1 cA (h + 5) 40) ++ eX1 cA (h + 7) 40) ++ eX1 cA (h + 9) 40) ++ eX1 cA (h + 11) 40) ++ eX1 cA (h + 13) 5) ++ eX1 cA (h + 15) 5) ++ eX1 cA (h + 17) 15)
set_option maxHeartbeats 20000000 in
set_option maxRecDepth 20000 in
theorem c_X4 {G : Gb} (h : Nat) : MBc G yX4_init cX4_init 1 rI4 h [] (.inr (6, [.null, .null, .null, .null, .null, .null, vi 0, .null, .null, .null])) (eX4 G.2.2 h) := by
  refine MBc_of (by decide +kernel) rfl (Nat.le_of_ble_eq_true rfl) (fun E X hI hE => ?_)
  have X : Cb G E h cX4_init RX4 none rI4 1 := X
  refine B_aload_n X dX4_init_0 rfl rfl ?_
  refine B_obj X ow_206 ow_33 ow_34 dX4_init_1 (Nat.le_of_ble_eq_true rfl) (Nat.le_of_ble_eq_true rfl) ?_
  refine B_aload_n X dX4_init_4 rfl rfl ?_
  refine B_new X (ci := 3) rfl hin_X1 tyX1 tyX1_ok tw_292 tw_144 tw_89 df_X1 (m9 := 1) rfl dX4_init_5 ⟨by decide +kernel, by decide +kernel⟩ ?_
  refine B_dup X dX4_init_8 rfl ?_
  refine B_bipush X dX4_init_9 (by decide) ?_
  refine B_call X _ [vi 40] _ 1 (c_X1 (h + 1) 40 (a := 40) (by decide +kernel) (Nat.le_of_ble_eq_true rfl)) tw_147 tw_89 tw_293 tw_146 rfl dX4_init_11 ⟨by decide +kernel, by decide +kernel, by decide +kernel⟩ ⟨Nat.le_of_ble_eq_true rfl, Nat.le_of_ble_eq_true rfl⟩ ⟨rfl, rfl⟩ rfl (Nat.le_of_ble_eq_true rfl) (m9 := 1) rfl ⟨by decide +kernel, by decide +kernel⟩ ?_
  refine B_putF X hI rfl hin_X4 0 (Nat.le_of_ble_eq_true rfl) tw_294 tyX4 tyX4_ok nmX4 rfl rfl (tyX4_ok 0 (Nat.le_of_ble_eq_true rfl)) rfl rfl (Nat.le_of_ble_eq_true rfl) (fs' := [.ref (h + 1), .null, .null, .null, .null, .null, vi 0, .null, .null, .null]) rfl dX4_init_14 ?_
  refine B_aload_n X dX4_init_17 rfl rfl ?_
  refine B_new X (ci := 3) rfl hin_X1 tyX1 tyX1_ok tw_292 tw_144 tw_89 df_X1 (m9 := 3) rfl dX4_init_18 ⟨by decide +kernel, by decide +kernel⟩ ?_
  refine B_dup X dX4_init_21 rfl ?_
  refine B_bipush X dX4_init_22 (by decide) ?_
  refine B_call X _ [vi 40] _ 1 (c_X1 (h + 3) 40 (a := 40) (by decide +kernel) (Nat.le_of_ble_eq_true rfl)) tw_147 tw_89 tw_293 tw_146 rfl dX4_init_24 ⟨by decide +kernel, by decide +kernel, by decide +kernel⟩ ⟨Nat.le_of_ble_eq_true rfl, Nat.le_of_ble_eq_true rfl⟩ ⟨rfl, rfl⟩ rfl (Nat.le_of_ble_eq_true rfl) (m9 := 3) rfl ⟨by decide +kernel, by decide +kernel⟩ ?_
  refine B_putF X hI rfl hin_X4 1 (Nat.le_of_ble_eq_true rfl) tw_296 tyX4 tyX4_ok nmX4 rfl rfl (tyX4_ok 1 (Nat.le_of_ble_eq_true rfl)) rfl rfl (Nat.le_of_ble_eq_true rfl) (fs' := [.ref (h + 1), .ref (h + 3), .null, .null, .null, .null, vi 0, .null, .null, .null]) rfl dX4_init_27 ?_
  refine B_aload_n X dX4_init_30 rfl rfl ?_
  refine B_new X (ci := 3) rfl hin_X1 tyX1 tyX1_ok tw_292 tw_144 tw_89 df_X1 (m9 := 5) rfl dX4_init_31 ⟨by decide +kernel, by decide +kernel⟩ ?_
  refine B_dup X dX4_init_34 rfl ?_
  refine B_bipush X dX4_init_35 (by decide) ?_
  refine B_call X _ [vi 40] _ 1 (c_X1 (h + 5) 40 (a := 40) (by decide +kernel) (Nat.le_of_ble_eq_true rfl)) tw_147 tw_89 tw_293 tw_146 rfl dX4_init_37 ⟨by decide +kernel, by decide +kernel, by decide +kernel⟩ ⟨Nat.le_of_ble_eq_true rfl, Nat.le_of_ble_eq_true rfl⟩ ⟨rfl, rfl⟩ rfl (Nat.le_of_ble_eq_true rfl) (m9 := 5) rfl ⟨by decide +kernel, by decide +kernel⟩ ?_
  refine B_putF X hI rfl hin_X4 2 (Nat.le_of_ble_eq_true rfl) tw_298 tyX4 tyX4_ok nmX4 rfl rfl (tyX4_ok 2 (Nat.le_of_ble_eq_true rfl)) rfl rfl (Nat.le_of_ble_eq_true rfl) (fs' := [.ref (h + 1), .ref (h + 3), .ref (h + 5), .null, .null, .null, vi 0, .null, .null, .null]) rfl dX4_init_40 ?_
  refine B_aload_n X dX4_init_43 rfl rfl ?_
  refine B_new X (ci := 3) rfl hin_X1 tyX1 tyX1_ok tw_292 tw_144 tw_89 df_X1 (m9 := 7) rfl dX4_init_44 ⟨by decide +kernel, by decide +kernel⟩ ?_
  refine B_dup X dX4_init_47 rfl ?_
  refine B_bipush X dX4_init_48 (by decide) ?_
  refine B_call X _ [vi 40] _ 1 (c_X1 (h + 7) 40 (a := 40) (by decide +kernel) (Nat.le_of_ble_eq_true rfl)) tw_147 tw_89 tw_293 tw_146 rfl dX4_init_50 ⟨by decide +kernel, by decide +kernel, by decide +kernel⟩ ⟨Nat.le_of_ble_eq_true rfl, Nat.le_of_ble_eq_true rfl⟩ ⟨rfl, rfl⟩ rfl (Nat.le_of_ble_eq_true rfl) (m9 := 7) rfl ⟨by decide +kernel, by decide +kernel⟩ ?_
  refine B_putF X hI rfl hin_X4 3 (Nat.le_of_ble_eq_true rfl) tw_300 tyX4 tyX4_ok nmX4 rfl rfl (tyX4_ok 3 (Nat.le_of_ble_eq_true rfl)) rfl rfl (Nat.le_of_ble_eq_true rfl) (fs' := [.ref (h + 1), .ref (h + 3), .ref (h + 5), .ref (h + 7), .null, .null, vi 0, .null, .null, .null]) rfl dX4_init_53 ?_
  refine B_aload_n X dX4_init_56 rfl rfl ?_
  refine B_new X (ci := 3) rfl hin_X1 tyX1 tyX1_ok tw_292 tw_144 tw_89 df_X1 (m9 := 9) rfl dX4_init_57 ⟨by decide +kernel, by decide +kernel⟩ ?_
  refine B_dup X dX4_init_60 rfl ?_
  refine B_bipush X dX4_init_61 (by decide) ?_
  refine B_call X _ [vi 40] _ 1 (c_X1 (h + 9) 40 (a := 40) (by decide +kernel) (Nat.le_of_ble_eq_true rfl)) tw_147 tw_89 tw_293 tw_146 rfl dX4_init_63 ⟨by decide +kernel, by decide +kernel, by decide +kernel⟩ ⟨Nat.le_of_ble_eq_true rfl, Nat.le_of_ble_eq_true rfl⟩ ⟨rfl, rfl⟩ rfl (Nat.le_of_ble_eq_true rfl) (m9 := 9) rfl ⟨by decide +kernel, by decide +kernel⟩ ?_
  refine B_putF X hI rfl hin_X4 4 (Nat.le_of_ble_eq_true rfl) tw_302 tyX4 tyX4_ok nmX4 rfl rfl (tyX4_ok 4 (Nat.le_of_ble_eq_true rfl)) rfl rfl (Nat.le_of_ble_eq_true rfl) (fs' := [.ref (h + 1), .ref (h + 3), .ref (h + 5), .ref (h + 7), .ref (h + 9), .null, vi 0, .null, .null, .null]) rfl dX4_init_66 ?_
  refine B_aload_n X dX4_init_69 rfl rfl ?_
  refine B_new X (ci := 3) rfl hin_X1 tyX1 tyX1_ok tw_292 tw_144 tw_89 df_X1 (m9 := 11) rfl dX4_init_70 ⟨by decide +kernel, by decide +kernel⟩ ?_
  refine B_dup X dX4_init_73 rfl ?_
  refine B_bipush X dX4_init_74 (by decide) ?_
  refine B_call X _ [vi 40] _ 1 (c_X1 (h + 11) 40 (a := 40) (by decide +kernel) (Nat.le_of_ble_eq_true rfl)) tw_147 tw_89 tw_293 tw_146 rfl dX4_init_76 ⟨by decide +kernel, by decide +kernel, by decide +kernel⟩ ⟨Nat.le_of_ble_eq_true rfl, Nat.le_of_ble_eq_true rfl⟩ ⟨rfl, rfl⟩ rfl (Nat.le_of_ble_eq_true rfl) (m9 := 11) rfl ⟨by decide +kernel, by decide +kernel⟩ ?_
  refine B_putF X hI rfl hin_X4 5 (Nat.le_of_ble_eq_true rfl) tw_304 tyX4 tyX4_ok nmX4 rfl rfl (tyX4_ok 5 (Nat.le_of_ble_eq_true rfl)) rfl rfl (Nat.le_of_ble_eq_true rfl) (fs' := [.ref (h + 1), .ref (h + 3), .ref (h + 5), .ref (h + 7), .ref (h + 9), .ref (h + 11), vi 0, .null, .null, .null]) rfl dX4_init_79 ?_
  refine B_aload_n X dX4_init_82 rfl rfl ?_
  refine B_new X (ci := 3) rfl hin_X1 tyX1 tyX1_ok tw_292 tw_144 tw_89 df_X1 (m9 := 13) rfl dX4_init_83 ⟨by decide +kernel, by decide +kernel⟩ ?_
  refine B_dup X dX4_init_86 rfl ?_
  refine B_iconst X dX4_init_87 ?_
  refine B_call X _ [vi 5] _ 1 (c_X1 (h + 13) 5 (a := 5) (by decide +kernel) (Nat.le_of_ble_eq_true rfl)) tw_147 tw_89 tw_293 tw_146 rfl dX4_init_88 ⟨by decide +kernel, by decide +kernel, by decide +kernel⟩ ⟨Nat.le_of_ble_eq_true rfl, Nat.le_of_ble_eq_true rfl⟩ ⟨rfl, rfl⟩ rfl (Nat.le_of_ble_eq_true rfl) (m9 := 13) rfl ⟨by decide +kernel, by decide +kernel⟩ ?_
  refine B_putF X hI rfl hin_X4 7 (Nat.le_of_ble_eq_true rfl) tw_309 tyX4 tyX4_ok nmX4 rfl rfl (tyX4_ok 7 (Nat.le_of_ble_eq_true rfl)) rfl rfl (Nat.le_of_ble_eq_true rfl) (fs' := [.ref (h + 1), .ref (h + 3), .ref (h + 5), .ref (h + 7), .ref (h + 9), .ref (h + 11), vi 0, .ref (h + 13), .null, .null]) rfl dX4_init_91 ?_
  refine B_aload_n X dX4_init_94 rfl rfl ?_
  refine B_new X (ci := 3) rfl hin_X1 tyX1 tyX1_ok tw_292 tw_144 tw_89 df_X1 (m9 := 15) rfl dX4_init_95 ⟨by decide +kernel, by decide +kernel⟩ ?_
  refine B_dup X dX4_init_98 rfl ?_
  refine B_iconst X dX4_init_99 ?_
  refine B_call X _ [vi 5] _ 1 (c_X1 (h + 15) 5 (a := 5) (by decide +kernel) (Nat.le_of_ble_eq_true rfl)) tw_147 tw_89 tw_293 tw_146 rfl dX4_init_100 ⟨by decide +kernel, by decide +kernel, by decide +kernel⟩ ⟨Nat.le_of_ble_eq_true rfl, Nat.le_of_ble_eq_true rfl⟩ ⟨rfl, rfl⟩ rfl (Nat.le_of_ble_eq_true rfl) (m9 := 15) rfl ⟨by decide +kernel, by decide +kernel⟩ ?_
  refine B_putF X hI rfl hin_X4 8 (Nat.le_of_ble_eq_true rfl) tw_311 tyX4 tyX4_ok nmX4 rfl rfl (tyX4_ok 8 (Nat.le_of_ble_eq_true rfl)) rfl rfl (Nat.le_of_ble_eq_true rfl) (fs' := [.ref (h + 1), .ref (h + 3), .ref (h + 5), .ref (h + 7), .ref (h + 9), .ref (h + 11), vi 0, .ref (h + 13), .ref (h + 15), .null]) rfl dX4_init_103 ?_
  refine B_aload_n X dX4_init_106 rfl rfl ?_
  refine B_new X (ci := 3) rfl hin_X1 tyX1 tyX1_ok tw_292 tw_144 tw_89 df_X1 (m9 := 17) rfl dX4_init_107 ⟨by decide +kernel, by decide +kernel⟩ ?_
  refine B_dup X dX4_init_110 rfl ?_
  refine B_bipush X dX4_init_111 (by decide) ?_
  refine B_call X _ [vi 15] _ 1 (c_X1 (h + 17) 15 (a := 15) (by decide +kernel) (Nat.le_of_ble_eq_true rfl)) tw_147 tw_89 tw_293 tw_146 rfl dX4_init_113 ⟨by decide +kernel, by decide +kernel, by decide +kernel⟩ ⟨Nat.le_of_ble_eq_true rfl, Nat.le_of_ble_eq_true rfl⟩ ⟨rfl, rfl⟩ rfl (Nat.le_of_ble_eq_true rfl) (m9 := 17) rfl ⟨by decide +kernel, by decide +kernel⟩ ?_
  refine B_putF X hI rfl hin_X4 9 (Nat.le_of_ble_eq_true rfl) tw_313 tyX4 tyX4_ok nmX4 rfl rfl (tyX4_ok 9 (Nat.le_of_ble_eq_true rfl)) rfl rfl (Nat.le_of_ble_eq_true rfl) (fs' := [.ref (h + 1), .ref (h + 3), .ref (h + 5), .ref (h + 7), .ref (h + 9), .ref (h + 11), vi 0, .ref (h + 13), .ref (h + 15), .ref (h + 17)]) rfl dX4_init_116 ?_
  exact B_ret X hE ⟨by decide +kernel, by decide +kernel⟩ dX4_init_119
abbrev rI7 : Room := { frames := 2, cells := 12, slots := 1990, locals := 62 }
def eX7 (cA : Nat → ClassId) (h p1 p2 p3 p4 : Nat) : List va_E := ((((([.inr (9, [.ref (p1), .ref (p2), .ref (p3), .ref (p4), .ref (h + 1), .ref (h + 4), .ref (h + 6), .ref (h + 9), .ref (h + 11), vi 0, vi 0, vi 0, vi 0, vi 0, vi 0])] ++ eX6 cA (h + 1) 1 60 60) ++ eX1 cA (h + 4) 10) ++ eX6 cA (h + 6) 30 1800 60) ++ eX1 cA (h + 9) 40) ++ eX1 cA (h + 11) 40)
set_option maxHeartbeats 20000000 in
set_option maxRecDepth 20000 in
theorem c_X7 {G : Gb} (h : Nat) (p1 p2 p3 p4 : Nat) : MBc G yX7_init cX7_init 5 rI7 h [.ref p1, .ref p2, .ref p3, .ref p4] (.inr (9, [.null, .null, .null, .null, .null, .null, .null, .null, .null, vi 0, vi 0, vi 0, vi 0, vi 0, vi 0])) (eX7 G.2.2 h p1 p2 p3 p4) := by
  refine MBc_of (by decide +kernel) rfl (Nat.le_of_ble_eq_true rfl) (fun E X hI hE => ?_)
  have X : Cb G E h cX7_init RX7 none rI7 5 := X
  refine B_aload_n X dX7_init_0 rfl rfl ?_
  refine B_obj X ow_256 ow_33 ow_34 dX7_init_1 (Nat.le_of_ble_eq_true rfl) (Nat.le_of_ble_eq_true rfl) ?_
  refine B_aload_n X dX7_init_4 rfl rfl ?_
  refine B_new X (ci := 8) rfl hin_X6 tyX6 tyX6_ok tw_342 tw_121 tw_87 df_X6 (m9 := 1) rfl dX7_init_5 ⟨by decide +kernel, by decide +kernel⟩ ?_
  refine B_dup X dX7_init_8 rfl ?_
  refine B_iconst X dX7_init_9 ?_
  refine B_bipush X dX7_init_10 (by decide) ?_
  refine B_call X _ [vi 1, vi 60] _ 2 (c_X6 (h + 1) 1 60 60 (a := 1) (b := 60) (by decide +kernel) (by decide +kernel) (by decide +kernel) (Nat.le_of_ble_eq_true rfl)) tw_124 tw_87 tw_343 tw_123 rfl dX7_init_12 ⟨by decide +kernel, by decide +kernel, by decide +kernel⟩ ⟨Nat.le_of_ble_eq_true rfl, Nat.le_of_ble_eq_true rfl⟩ ⟨rfl, rfl⟩ rfl (Nat.le_of_ble_eq_true rfl) (m9 := 1) rfl ⟨by decide +kernel, by decide +kernel⟩ ?_
  refine B_putF X hI rfl hin_X7 4 (Nat.le_of_ble_eq_true rfl) tw_350 tyX7 tyX7_ok nmX7 rfl rfl (tyX7_ok 4 (Nat.le_of_ble_eq_true rfl)) rfl rfl (Nat.le_of_ble_eq_true rfl) (fs' := [.null, .null, .null, .null, .ref (h + 1), .null, .null, .null, .null, vi 0, vi 0, vi 0, vi 0, vi 0, vi 0]) rfl dX7_init_15 ?_
  refine B_aload_n X dX7_init_18 rfl rfl ?_
  refine B_new X (ci := 3) rfl hin_X1 tyX1 tyX1_ok tw_344 tw_144 tw_89 df_X1 (m9 := 4) rfl dX7_init_19 ⟨by decide +kernel, by decide +kernel⟩ ?_
  refine B_dup X dX7_init_22 rfl ?_
  refine B_bipush X dX7_init_23 (by decide) ?_
  refine B_call X _ [vi 10] _ 1 (c_X1 (h + 4) 10 (a := 10) (by decide +kernel) (Nat.le_of_ble_eq_true rfl)) tw_147 tw_89 tw_345 tw_146 rfl dX7_init_25 ⟨by decide +kernel, by decide +kernel, by decide +kernel⟩ ⟨Nat.le_of_ble_eq_true rfl, Nat.le_of_ble_eq_true rfl⟩ ⟨rfl, rfl⟩ rfl (Nat.le_of_ble_eq_true rfl) (m9 := 4) rfl ⟨by decide +kernel, by decide +kernel⟩ ?_
  refine B_putF X hI rfl hin_X7 5 (Nat.le_of_ble_eq_true rfl) tw_351 tyX7 tyX7_ok nmX7 rfl rfl (tyX7_ok 5 (Nat.le_of_ble_eq_true rfl)) rfl rfl (Nat.le_of_ble_eq_true rfl) (fs' := [.null, .null, .null, .null, .ref (h + 1), .ref (h + 4), .null, .null, .null, vi 0, vi 0, vi 0, vi 0, vi 0, vi 0]) rfl dX7_init_28 ?_
  refine B_aload_n X dX7_init_31 rfl rfl ?_
  refine B_new X (ci := 8) rfl hin_X6 tyX6 tyX6_ok tw_342 tw_121 tw_87 df_X6 (m9 := 6) rfl dX7_init_32 ⟨by decide +kernel, by decide +kernel⟩ ?_
  refine B_dup X dX7_init_35 rfl ?_
  refine B_bipush X dX7_init_36 (by decide) ?_
  refine B_bipush X dX7_init_38 (by decide) ?_
  refine B_call X _ [vi 30, vi 60] _ 2 (c_X6 (h + 6) 30 60 1800 (a := 30) (b := 60) (by decide +kernel) (by decide +kernel) (by decide +kernel) (Nat.le_of_ble_eq_true rfl)) tw_124 tw_87 tw_343 tw_123 rfl dX7_init_40 ⟨by decide +kernel, by decide +kernel, by decide +kernel⟩ ⟨Nat.le_of_ble_eq_true rfl, Nat.le_of_ble_eq_true rfl⟩ ⟨rfl, rfl⟩ rfl (Nat.le_of_ble_eq_true rfl) (m9 := 6) rfl ⟨by decide +kernel, by decide +kernel⟩ ?_
  refine B_putF X hI rfl hin_X7 6 (Nat.le_of_ble_eq_true rfl) tw_352 tyX7 tyX7_ok nmX7 rfl rfl (tyX7_ok 6 (Nat.le_of_ble_eq_true rfl)) rfl rfl (Nat.le_of_ble_eq_true rfl) (fs' := [.null, .null, .null, .null, .ref (h + 1), .ref (h + 4), .ref (h + 6), .null, .null, vi 0, vi 0, vi 0, vi 0, vi 0, vi 0]) rfl dX7_init_43 ?_
  refine B_aload_n X dX7_init_46 rfl rfl ?_
  refine B_new X (ci := 3) rfl hin_X1 tyX1 tyX1_ok tw_344 tw_144 tw_89 df_X1 (m9 := 9) rfl dX7_init_47 ⟨by decide +kernel, by decide +kernel⟩ ?_
  refine B_dup X dX7_init_50 rfl ?_
  refine B_bipush X dX7_init_51 (by decide) ?_
  refine B_call X _ [vi 40] _ 1 (c_X1 (h + 9) 40 (a := 40) (by decide +kernel) (Nat.le_of_ble_eq_true rfl)) tw_147 tw_89 tw_345 tw_146 rfl dX7_init_53 ⟨by decide +kernel, by decide +kernel, by decide +kernel⟩ ⟨Nat.le_of_ble_eq_true rfl, Nat.le_of_ble_eq_true rfl⟩ ⟨rfl, rfl⟩ rfl (Nat.le_of_ble_eq_true rfl) (m9 := 9) rfl ⟨by decide +kernel, by decide +kernel⟩ ?_
  refine B_putF X hI rfl hin_X7 7 (Nat.le_of_ble_eq_true rfl) tw_353 tyX7 tyX7_ok nmX7 rfl rfl (tyX7_ok 7 (Nat.le_of_ble_eq_true rfl)) rfl rfl (Nat.le_of_ble_eq_true rfl) (fs' := [.null, .null, .null, .null, .ref (h + 1), .ref (h + 4), .ref (h + 6), .ref (h + 9), .null, vi 0, vi 0, vi 0, vi 0, vi 0, vi 0]) rfl dX7_init_56 ?_
  refine B_aload_n X dX7_init_59 rfl rfl ?_
  refine B_new X (ci := 3) rfl hin_X1 tyX1 tyX1_ok tw_344 tw_144 tw_89 df_X1 (m9 := 11) rfl dX7_init_60 ⟨by decide +kernel, by decide +kernel⟩ ?_
  refine B_dup X dX7_init_63 rfl ?_
  refine B_bipush X dX7_init_64 (by decide) ?_
  refine B_call X _ [vi 40] _ 1 (c_X1 (h + 11) 40 (a := 40) (by decide +kernel) (Nat.le_of_ble_eq_true rfl)) tw_147 tw_89 tw_345 tw_146 rfl dX7_init_66 ⟨by decide +kernel, by decide +kernel, by decide +kernel⟩ ⟨Nat.le_of_ble_eq_true rfl, Nat.le_of_ble_eq_true rfl⟩ ⟨rfl, rfl⟩ rfl (Nat.le_of_ble_eq_true rfl) (m9 := 11) rfl ⟨by decide +kernel, by decide +kernel⟩ ?_
  refine B_putF X hI rfl hin_X7 8 (Nat.le_of_ble_eq_true rfl) tw_355 tyX7 tyX7_ok nmX7 rfl rfl (tyX7_ok 8 (Nat.le_of_ble_eq_true rfl)) rfl rfl (Nat.le_of_ble_eq_true rfl) (fs' := [.null, .null, .null, .null, .ref (h + 1), .ref (h + 4), .ref (h + 6), .ref (h + 9), .ref (h + 11), vi 0, vi 0, vi 0, vi 0, vi 0, vi 0]) rfl dX7_init_69 ?_
  refine B_aload_n X dX7_init_72 rfl rfl ?_
  refine B_aload_n X dX7_init_73 rfl rfl ?_
  refine B_putF X hI rfl hin_X7 0 (Nat.le_of_ble_eq_true rfl) tw_346 tyX7 tyX7_ok nmX7 rfl rfl (tyX7_ok 0 (Nat.le_of_ble_eq_true rfl)) rfl rfl (Nat.le_of_ble_eq_true rfl) (fs' := [.ref (p1), .null, .null, .null, .ref (h + 1), .ref (h + 4), .ref (h + 6), .ref (h + 9), .ref (h + 11), vi 0, vi 0, vi 0, vi 0, vi 0, vi 0]) rfl dX7_init_74 ?_
  refine B_aload_n X dX7_init_77 rfl rfl ?_
  refine B_aload_n X dX7_init_78 rfl rfl ?_
  refine B_putF X hI rfl hin_X7 1 (Nat.le_of_ble_eq_true rfl) tw_347 tyX7 tyX7_ok nmX7 rfl rfl (tyX7_ok 1 (Nat.le_of_ble_eq_true rfl)) rfl rfl (Nat.le_of_ble_eq_true rfl) (fs' := [.ref (p1), .ref (p2), .null, .null, .ref (h + 1), .ref (h + 4), .ref (h + 6), .ref (h + 9), .ref (h + 11), vi 0, vi 0, vi 0, vi 0, vi 0, vi 0]) rfl dX7_init_79 ?_
  refine B_aload_n X dX7_init_82 rfl rfl ?_
  refine B_aload_n X dX7_init_83 rfl rfl ?_
  refine B_putF X hI rfl hin_X7 2 (Nat.le_of_ble_eq_true rfl) tw_348 tyX7 tyX7_ok nmX7 rfl rfl (tyX7_ok 2 (Nat.le_of_ble_eq_true rfl)) rfl rfl (Nat.le_of_ble_eq_true rfl) (fs' := [.ref (p1), .ref (p2), .ref (p3), .null, .ref (h + 1), .ref (h + 4), .ref (h + 6), .ref (h + 9), .ref (h + 11), vi 0, vi 0, vi 0, vi 0, vi 0, vi 0]) rfl dX7_init_84 ?_
  refine B_aload_n X dX7_init_87 rfl rfl ?_
  refine B_aload X dX7_init_88 rfl ?_
  refine B_putF X hI rfl hin_X7 3 (Nat.le_of_ble_eq_true rfl) tw_349 tyX7 tyX7_ok nmX7 rfl rfl (tyX7_ok 3 (Nat.le_of_ble_eq_true rfl)) rfl rfl (Nat.le_of_ble_eq_true rfl) (fs' := [.ref (p1), .ref (p2), .ref (p3), .ref (p4), .ref (h + 1), .ref (h + 4), .ref (h + 6), .ref (h + 9), .ref (h + 11), vi 0, vi 0, vi 0, vi 0, vi 0, vi 0]) rfl dX7_init_90 ?_
  exact B_ret X hE ⟨by decide +kernel, by decide +kernel⟩ dX7_init_93
