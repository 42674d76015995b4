/-! what holds at the law's start-/
def FL : List Cond := flatC (Jvm.Cond.and given_1 narrow_1)
theorem ST_tbl : ∀ t ∈ ST, Cond.stringRef RX8 t.1 t.2 ∈ lw_tbl := by
  intro t ht
  have e : ST.map (fun t => Cond.stringRef RX8 t.1 t.2) = [560, 596, 624, 631, 720, 821, 826, 831, 848, 853, 854, 903, 911, 912, 925, 1158, 1224, 1277, 1286, 1294, 1309, 688, 895, 866, 930, 873, 878, 1157, 1238, 1243].filterMap (fun i => lw_tbl[i]?) := by decide +kernel
  have h := List.mem_map_of_mem (f := fun t : Nat × String => Cond.stringRef RX8 t.1 t.2) ht
  rw [e] at h
  obtain ⟨i, -, hi⟩ := List.mem_filterMap.mp h
  exact List.mem_of_getElem? hi
theorem ST_fl : ∀ t ∈ ST, Cond.exactly (.string RX8 t.1) "java/lang/String" ∈ FL := by
  intro t ht
  have e : ST.map (fun t => Cond.exactly (.string RX8 t.1) "java/lang/String") = [106, 122, 144, 176, 218, 262, 289, 318, 360, 384, 410, 519, 551, 600, 630, 709, 731, 811, 826, 850, 876, 198, 500, 432, 669, 448, 473, 690, 768, 791].filterMap (fun i => FL[i]?) := by decide +kernel
  have h := List.mem_map_of_mem (f := fun t : Nat × String => Cond.exactly (.string RX8 t.1) "java/lang/String") ht
  rw [e] at h
  obtain ⟨i, -, hi⟩ := List.mem_filterMap.mp h
  exact List.mem_of_getElem? hi
theorem NC_fl (a : Nat) (h1 : a < 7) (b : Nat) (h2 : b < 7) (h3 : 0 < a) (h4 : 0 < b) (h5 : a ≠ b) : Cond.not (.castable (excN a) (excN b)) ∈ FL := by
  rcases (show a = 1 ∨ a = 2 ∨ a = 3 ∨ a = 4 ∨ a = 5 ∨ a = 6 by omega) with rfl | rfl | rfl | rfl | rfl | rfl <;> rcases (show b = 1 ∨ b = 2 ∨ b = 3 ∨ b = 4 ∨ b = 5 ∨ b = 6 by omega) with rfl | rfl | rfl | rfl | rfl | rfl
  · exact absurd rfl h5
  · exact List.mem_of_getElem? (i := 37) (by decide +kernel)
  · exact List.mem_of_getElem? (i := 69) (by decide +kernel)
  · exact List.mem_of_getElem? (i := 53) (by decide +kernel)
  · exact List.mem_of_getElem? (i := 84) (by decide +kernel)
  · exact List.mem_of_getElem? (i := 100) (by decide +kernel)
  · exact List.mem_of_getElem? (i := 21) (by decide +kernel)
  · exact absurd rfl h5
  · exact List.mem_of_getElem? (i := 70) (by decide +kernel)
  · exact List.mem_of_getElem? (i := 54) (by decide +kernel)
  · exact List.mem_of_getElem? (i := 85) (by decide +kernel)
  · exact List.mem_of_getElem? (i := 101) (by decide +kernel)
  · exact List.mem_of_getElem? (i := 24) (by decide +kernel)
  · exact List.mem_of_getElem? (i := 40) (by decide +kernel)
  · exact absurd rfl h5
  · exact List.mem_of_getElem? (i := 56) (by decide +kernel)
  · exact List.mem_of_getElem? (i := 88) (by decide +kernel)
  · exact List.mem_of_getElem? (i := 104) (by decide +kernel)
  · exact List.mem_of_getElem? (i := 22) (by decide +kernel)
  · exact List.mem_of_getElem? (i := 38) (by decide +kernel)
  · exact List.mem_of_getElem? (i := 71) (by decide +kernel)
  · exact absurd rfl h5
  · exact List.mem_of_getElem? (i := 86) (by decide +kernel)
  · exact List.mem_of_getElem? (i := 102) (by decide +kernel)
  · exact List.mem_of_getElem? (i := 25) (by decide +kernel)
  · exact List.mem_of_getElem? (i := 41) (by decide +kernel)
  · exact List.mem_of_getElem? (i := 72) (by decide +kernel)
  · exact List.mem_of_getElem? (i := 57) (by decide +kernel)
  · exact absurd rfl h5
  · exact List.mem_of_getElem? (i := 105) (by decide +kernel)
  · exact List.mem_of_getElem? (i := 26) (by decide +kernel)
  · exact List.mem_of_getElem? (i := 42) (by decide +kernel)
  · exact List.mem_of_getElem? (i := 73) (by decide +kernel)
  · exact List.mem_of_getElem? (i := 58) (by decide +kernel)
  · exact List.mem_of_getElem? (i := 89) (by decide +kernel)
  · exact absurd rfl h5
theorem arr_of {args : Array Value} {s : State} {ty : FieldType} (h : (Cond.arrayClass ty).before args s = true) : ∃ cA : ClassId, ArrOfT s cA ty ∧ s.vm.findClass ("[" ++ ty.toString) = some cA := by
  obtain ⟨c, k, comp, h1, h2, h3⟩ := Cond.arrayClass_spec h
  exact ⟨c, fun n z => ⟨fun k h => (by cases h), k, h2, comp, h3⟩, h1⟩
theorem getD_of (l : List Int) (j : Nat) : (l.map Int32.ofInt).getD j 0 = Int32.ofInt (l.getD j 0) := by
  rw [List.getD_eq_getElem?_getD, List.getD_eq_getElem?_getD, List.getElem?_map]
  cases l[j]? <;> rfl
theorem SW_of {args : Array Value} {s : State} {k : Nat} {tx : String} {l : List Int} {A : Nat → Prop} (h0 : (Cond.stringRef RX8 k tx).before args s = true) (h1 : (Cond.exactly (.string RX8 k) "java/lang/String").before args s = true) (h2 : (Cond.eq (.field (.string RX8 k) "java/lang/String" "coder" "B") (.int 0)).before args s = true) (h3 : (Cond.arrayOf (.field (.string RX8 k) "java/lang/String" "value" "[B") .byte).before args s = true) (h4 : (Cond.eq (.length (.field (.string RX8 k) "java/lang/String" "value" "[B")) (.int (Int32.ofNat l.length))).before args s = true) (h5 : ∀ j, j < l.length → (Cond.eq (.elem (.field (.string RX8 k) "java/lang/String" "value" "[B") (.int (Int32.ofNat j))) (.int (Int32.ofInt (l.getD j 0)))).before args s = true) (hl : l.length < 2 ^ 31) (hA : ∀ a : Nat, a < s.heap.size → ¬ A a) : ∃ sa va : Nat, SW1 A s s.heap (k, tx, l) sa va := by
  obtain ⟨adK, adV, h, he⟩ := vk_Sof (args := args) (s := s) (N := 1) (tm := fun _ => Term.string RX8 k) (len := [l.length]) (byt := [l.map Int32.ofInt]) (A := A) (fun i hi => by rw [show i = 0 by omega]; exact hl) (fun _ _ => h1) (fun _ _ => h2) (fun _ _ => h3) (fun i hi => by rw [show i = 0 by omega]; exact h4) (fun i hi j hj => by
    rw [show i = 0 by omega] at hj ⊢
    have := h5 j hj
    rw [← getD_of] at this
    exact this) (fun i j hi hj hij => absurd (show i = j by omega) hij) hA
  obtain ⟨a1, a2, a3, a4⟩ := h.1 0 (by omega)
  have a4 : va_T .byte (adV 0) l.length (fun j => .int ((l.map Int32.ofInt).getD j 0)) A s s.heap := a4
  have e : (fun j : Nat => Value.int ((l.map Int32.ofInt).getD j 0)) = fun j => .int (Int32.ofInt (l.getD j 0)) := by funext j; rw [getD_of]
  rw [e] at a4
  exact ⟨adK 0, adV 0, vk_R.of h0 (he 0 (by omega)), a1, a2, a3, a4⟩
theorem kt_135 : ∀ j, j < 23 → FL[239 + j]? = some (Cond.eq (.elem (.field (.string RX8 135) "java/lang/String" "value" "[B") (.int (Int32.ofNat j))) (.int (Int32.ofInt (kPat.getD j 0)))) := by decide +kernel
theorem kt_162 : ∀ j, j < 13 → FL[347 + j]? = some (Cond.eq (.elem (.field (.string RX8 162) "java/lang/String" "value" "[B") (.int (Int32.ofNat j))) (.int (Int32.ofInt (kTrm.getD j 0)))) := by decide +kernel
theorem hin_J0 : ∀ w ∈ u_ws RJ0 TJ0 2, w ∈ lw_tbl := by decide +kernel
theorem hin_Jx : ∀ w ∈ u_ws RJx00060 TJx00060 6, w ∈ lw_tbl := by decide +kernel
theorem kn_all {args : Array Value} {s : State} (hts : ∀ w ∈ lw_tbl, w.before args s = true) : ∀ (c : Nat) (q : vw_C), vwCl[c]? = some q → ∃ (cC : ClassId) (iS : Nat → Nat), u_Kn s q.1 q.2.1 q.2.2 cC iS := by
  intro c q hq
  match c, hq with
  | 0, hq => cases hq; exact u_known (n := 4) hts hin_J0 (hts _ (List.mem_of_getElem? (i := 664) (by decide +kernel)))
  | 1, hq => cases hq; exact u_known (n := 6) hts hin_Jx (hts _ (List.mem_of_getElem? (i := 646) (by decide +kernel)))
  | 2, hq => cases hq; exact u_known (n := 5) hts (fun w h => TT_law w (hin_X0 w h)) (hts _ (TT_law _ tw_138))
  | 3, hq => cases hq; exact u_known (n := 1) hts (fun w h => TT_law w (hin_X1 w h)) (hts _ (TT_law _ tw_144))
  | 4, hq => cases hq; exact u_known (n := 16) hts (fun w h => TT_law w (hin_X2 w h)) (hts _ (TT_law _ tw_177))
  | 5, hq => cases hq; exact u_known (n := 4) hts (fun w h => TT_law w (hin_X3 w h)) (hts _ (TT_law _ tw_185))
  | 6, hq => cases hq; exact u_known (n := 10) hts (fun w h => TT_law w (hin_X4 w h)) (hts _ (TT_law _ tw_287))
  | 7, hq => cases hq; exact u_known (n := 5) hts (fun w h => TT_law w (hin_X5 w h)) (hts _ (TT_law _ tw_259))
  | 8, hq => cases hq; exact u_known (n := 3) hts (fun w h => TT_law w (hin_X6 w h)) (hts _ (TT_law _ tw_121))
  | 9, hq => cases hq; exact u_known (n := 15) hts (fun w h => TT_law w (hin_X7 w h)) (hts _ (TT_law _ tw_337))
  | 10, hq => cases hq; exact u_known (n := 19) hts (fun w h => TT_law w (hin_X8 w h)) (hts _ (TT_law _ tw_113))
  | 11, hq => cases hq; exact u_known (n := 81) hts (fun w h => TT_law w (hin_X9 w h)) (hts _ (TT_law _ tw_1311))
  | k + 12, hq => exact absurd hq (by intro h; cases h)
theorem K_all {args : Array Value} {s : State} (hts : ∀ w ∈ lw_tbl, w.before args s = true) : ∃ (D : va_G) (cA : Nat → ClassId), va_K D vwCl (tyL cA) s := by
  have h0 : ∀ c : Nat, ∃ x : ClassId × (Nat → Nat), ∀ q, vwCl[c]? = some q → u_Kn s q.1 q.2.1 q.2.2 x.1 x.2 := by
    intro c
    cases hc : vwCl[c]? with
    | none =>
      obtain ⟨cC, iS, -⟩ := kn_all hts 0 _ rfl
      exact ⟨(cC, iS), fun q h => by cases h⟩
    | some q0 =>
      obtain ⟨cC, iS, h⟩ := kn_all hts c q0 hc
      exact ⟨(cC, iS), fun q e => by cases e; exact h⟩
  obtain ⟨f, hf⟩ := Classical.axiomOfChoice h0
  obtain ⟨a0, p0, q0⟩ := arr_of (hts _ (TT_law _ tw_136))
  obtain ⟨a1, p1, q1⟩ := arr_of (hts _ (TT_law _ tw_1560))
  obtain ⟨a2, p2, q2⟩ := arr_of (hts _ (TT_law _ tw_1561))
  obtain ⟨a3, p3, q3⟩ := arr_of (hts _ (TT_law _ tw_1920))
  obtain ⟨a4, p4, q4⟩ := arr_of (hts _ (TT_law _ tw_1921))
  refine ⟨(fun c => (f c).1, fun c => (f c).2), fun t => match t with | 0 => a0 | 1 => a1 | 2 => a2 | 3 => a3 | _ => a4, fun c q hq => hf c q hq, fun k q hq => ?_⟩
  match k, hq with
  | 0, hq => cases hq; exact ⟨p0, q0⟩
  | 1, hq => cases hq; exact ⟨p1, q1⟩
  | 2, hq => cases hq; exact ⟨p2, q2⟩
  | 3, hq => cases hq; exact ⟨p3, q3⟩
  | 4, hq => cases hq; exact ⟨p4, q4⟩
  | k + 5, hq => exact absurd hq (by intro h; cases h)
theorem NW_all {args : Array Value} {s : State} (hts : ∀ w ∈ lw_tbl, w.before args s = true) : NW s := fun w hw => va_Nw.of (NT_ot w hw) (hts w (NT_law w hw))
theorem NC_all {args : Array Value} {s : State} (hq : ∀ w ∈ FL, w.before args s = true) : NCs s := fun a b h1 h2 h3 h4 h5 => va_Nc.of (hq _ (NC_fl a h2 b h4 h1 h3 h5))
theorem TX_all {G : GG} {args : Array Value} {s : State} (hfl : G.1.flags = flags0) (hts : ∀ w ∈ lw_tbl, w.before args s = true) (hq : ∀ w ∈ FL, w.before args s = true) (had : ∀ i, i < NC → s.heap.size ≤ G.2.2.2 i) : TXs G s.heap.size s := by
  have hA : ∀ a : Nat, a < s.heap.size → ¬ FAd G.2.2.2 s.heap.size a := fun a h => out_b h had
  refine ⟨?_, vx_Zqof (hts _ (List.mem_of_getElem? (i := 542) (by decide +kernel))) (hts _ (List.mem_of_getElem? (i := 96) (by decide +kernel))) (hq _ (List.mem_of_getElem? (i := 4) (by decide +kernel))) hA, vx_Zqof (hts _ (List.mem_of_getElem? (i := 544) (by decide +kernel))) (hts _ (List.mem_of_getElem? (i := 96) (by decide +kernel))) (hq _ (List.mem_of_getElem? (i := 5) (by decide +kernel))) hA, fun t ht => ?_, ?_, fun t ht => ?_⟩
  · show (!G.1.flags.contains noTraceFlag) = false
    rw [hfl]
    decide +kernel
  · obtain ⟨a, c, cA, kA, q1, -⟩ := Cond.exactly_spec (args := args) (first := s) (o := none) (s := s) (idx := []) (hq _ (ST_fl t ht))
    exact ⟨a, vk_R.of (hts _ (ST_tbl t ht)) q1⟩
  · exact va_Zof (hts _ (List.mem_of_getElem? (i := 748) (by decide +kernel))) (hts _ (List.mem_of_getElem? (i := 104) (by decide +kernel))) (va_eqt (hq _ (List.mem_of_getElem? (i := 6) (by decide +kernel)))) hA
  · rcases List.mem_cons.mp ht with rfl | ht
    · exact SW_of (k := 135) (tx := "l|&nosk#trpqm*gxfzi$.@v") (l := kPat) (hts _ (List.mem_of_getElem? (i := 734) (by decide +kernel))) (hq _ (List.mem_of_getElem? (i := 235) (by decide +kernel))) (hq _ (List.mem_of_getElem? (i := 236) (by decide +kernel))) (hq _ (List.mem_of_getElem? (i := 237) (by decide +kernel))) (hq _ (List.mem_of_getElem? (i := 238) (by decide +kernel))) (fun j hj => hq _ (List.mem_of_getElem? (kt_135 j hj))) (by decide) hA
    · rw [List.mem_singleton.mp ht]
      exact SW_of (k := 162) (tx := "tvw+-*/&#rd=<") (l := kTrm) (hts _ (List.mem_of_getElem? (i := 847) (by decide +kernel))) (hq _ (List.mem_of_getElem? (i := 343) (by decide +kernel))) (hq _ (List.mem_of_getElem? (i := 344) (by decide +kernel))) (hq _ (List.mem_of_getElem? (i := 345) (by decide +kernel))) (hq _ (List.mem_of_getElem? (i := 346) (by decide +kernel))) (fun j hj => hq _ (List.mem_of_getElem? (kt_162 j hj))) (by decide) hA
