/-! whole_start-/
theorem B_astore_n {G : Gb} {E : EE} {h : Nat} {cc : ByteArray} {own : String} {ret : Option FieldType} {R : Room} {nL : Nat} (X : Cb G E h cc own ret R nL) {k n pc : Nat} {lv : List (Nat × Value)} {st : List Value} {es : List va_E} {f : Fin 4} {i a : Nat} (hd : decode cc pc = .ok (.astore_n f, 1)) (hi : (f : Nat) = i) (hn : i < nL) (kk : BV G E h k n (pc + 1) (lset lv i (.ref a)) st es) : BV G E h k n pc lv (.ref a :: st) es := by
  obtain ⟨p, e, R', s, m, args, below, meth, c, Q, nL'⟩ := E
  obtain ⟨hx, hb, hml, hown, hts, hr, hlk, hK, hN, rfl, rfl, hsz⟩ := X
  intro H locs ls hz hP hS hl
  exact lv_astore_n hx hb hd hi hl hn rfl (fun ls hl => kk H locs ls hz hP hS hl)
theorem B_astore {G : Gb} {E : EE} {h : Nat} {cc : ByteArray} {own : String} {ret : Option FieldType} {R : Room} {nL : Nat} (X : Cb G E h cc own ret R nL) {k n pc : Nat} {lv : List (Nat × Value)} {st : List Value} {es : List va_E} {i a : Nat} (hd : decode cc pc = .ok (.astore i, 2)) (hn : i < nL) (kk : BV G E h k n (pc + 2) (lset lv i (.ref a)) st es) : BV G E h k n pc lv (.ref a :: st) es := by
  obtain ⟨p, e, R', s, m, args, below, meth, c, Q, nL'⟩ := E
  obtain ⟨hx, hb, hml, hown, hts, hr, hlk, hK, hN, rfl, rfl, hsz⟩ := X
  intro H locs ls hz hP hS hl
  exact lv_astore hx hb hd hl hn rfl (fun ls hl => kk H locs ls hz hP hS hl)
theorem B_istore {G : Gb} {E : EE} {h : Nat} {cc : ByteArray} {own : String} {ret : Option FieldType} {R : Room} {nL : Nat} (X : Cb G E h cc own ret R nL) {k n pc : Nat} {lv : List (Nat × Value)} {st : List Value} {es : List va_E} {i : Nat} {a : Int} (hd : decode cc pc = .ok (.istore i, 2)) (hn : i < nL) (kk : BV G E h k n (pc + 2) (lset lv i (vi a)) st es) : BV G E h k n pc lv (vi a :: st) es := by
  obtain ⟨p, e, R', s, m, args, below, meth, c, Q, nL'⟩ := E
  obtain ⟨hx, hb, hml, hown, hts, hr, hlk, hK, hN, rfl, rfl, hsz⟩ := X
  intro H locs ls hz hP hS hl
  exact lv_istore hx hb hd hl hn rfl (fun ls hl => kk H locs ls hz hP hS hl)
theorem BV_VV {l : Launch} {D : va_G} {cA : Nat → ClassId} {E : EE} {h k n pc : Nat} {lv : List (Nat × Value)} {st : List Value} {es : List va_E} (hes : es = ESL cA h) (hh : match E with | (p, e, R, s, m, args, below, meth, c, Q, nL) => s.heap.size = h) (kk : VV (l, D, cA, adz h) E k n pc lv st w0s) : BV (l, D, cA) E h k n pc lv st es := by
  obtain ⟨p, e, R', s, m, args, below, meth, c, Q, nL'⟩ := E
  have hh : s.heap.size = h := hh
  subst hes
  intro H locs ls hz hP hS hl
  refine kk H locs ls ?_ ?_ hl
  · intro j q hq
    obtain ⟨hj, rfl⟩ := WL_at hq
    exact hP _ _ (blk_at (es_all cA h j hj))
  · show va_S (FAd (adz h) s.heap.size) s.heap H locs
    have hA : ∀ q, h ≤ q → FAd (adz h) s.heap.size q := fun q hq => Or.inr (by rw [hh]; exact hq)
    exact ⟨hS.1, fun q h1 h2 => hS.2.1 q h1 (fun z => h2 (hA q z)), fun q hq => hA _ (hS.2.2 q hq)⟩

set_option maxHeartbeats 20000000 in
set_option maxRecDepth 100000 in
theorem ES_eq (cA : Nat → ClassId) (h : Nat) : (((([] ++ eX8 cA (h + 0)) ++ eX9 cA (h + 85)) ++ [eAr cA 3 1]) ++ [eAr cA 4 1]) = ESL cA h := rfl
set_option maxHeartbeats 20000000 in
set_option maxRecDepth 100000 in
theorem law_start {l : Launch} {D : va_G} {cA : Nat → ClassId} {E : EE} {h b L : Nat} {xs : Nat → Int} (X : Cb (l, D, cA) E h code RL ret room_1 9) (hh : match E with | (p, e, R, s, m, args, below, meth, c, Q, nL) => s.heap.size = h) (XL : XLw (l, D, cA, adz h) E b L xs) (hL : L ≤ 3072) (hxs : ∀ k, IR (xs k)) : BV (l, D, cA) E h 0 0 0 [(0, .ref b)] [] [] := by
  refine B_new X (ci := 10) rfl hin_X8 tyX8 tyX8_ok tw_112 tw_113 tw_86 df_X8 (m9 := 0) rfl dL_law_0 ⟨by decide +kernel, by decide +kernel⟩ ?_
  refine B_dup X dL_law_3 rfl ?_
  refine B_call X [] [] _ 0 (c_X8 (h + 0)) tw_116 tw_86 tw_114 tw_115 rfl dL_law_4 ⟨by decide +kernel, by decide +kernel, by decide +kernel⟩ ⟨Nat.le_of_ble_eq_true rfl, Nat.le_of_ble_eq_true rfl⟩ ⟨rfl, rfl⟩ rfl (Nat.le_of_ble_eq_true rfl) (m9 := 0) rfl ⟨by decide +kernel, by decide +kernel⟩ ?_
  refine B_astore_n X dL_law_7 rfl (by decide) ?_
  refine B_new X (ci := 11) rfl hin_X9 tyX9 tyX9_ok tw_1310 tw_1311 tw_95 df_X9 (m9 := 85) rfl dL_law_8 ⟨by decide +kernel, by decide +kernel⟩ ?_
  refine B_dup X dL_law_11 rfl ?_
  refine B_call X _ [] _ 0 (c_X9 (h + 85)) tw_1314 tw_95 tw_1312 tw_1313 rfl dL_law_12 ⟨by decide +kernel, by decide +kernel, by decide +kernel⟩ ⟨Nat.le_of_ble_eq_true rfl, Nat.le_of_ble_eq_true rfl⟩ ⟨rfl, rfl⟩ rfl (Nat.le_of_ble_eq_true rfl) (m9 := 85) rfl ⟨by decide +kernel, by decide +kernel⟩ ?_
  refine B_astore_n X dL_law_15 rfl (by decide) ?_
  refine B_iconst X dL_law_16 ?_
  refine B_newa X 3 (atype := .long) (ty := .long) (a0 := (1, arv 3 (fun _ => 0))) rfl rfl (fun _ _ h => h) tw_1920 (fun _ => rfl) (by decide +kernel) (by decide +kernel) (Nat.le_of_ble_eq_true rfl) (m9 := 135) rfl dL_law_17 ⟨by decide +kernel, by decide +kernel⟩ ?_
  refine B_astore_n X dL_law_19 rfl (by decide) ?_
  refine B_iconst X dL_law_20 ?_
  refine B_newa X 4 (atype := .double) (ty := .double) (a0 := (1, arv 4 (fun _ => 0))) rfl rfl (fun _ _ h => h) tw_1921 (fun _ => rfl) (by decide +kernel) (by decide +kernel) (Nat.le_of_ble_eq_true rfl) (m9 := 136) rfl dL_law_21 ⟨by decide +kernel, by decide +kernel⟩ ?_
  refine B_astore X dL_law_23 (by decide) ?_
  refine B_iconst X dL_law_25 ?_
  refine B_istore X dL_law_26 (by decide) ?_
  refine BV_VV (ES_eq cA h) hh ?_
  obtain ⟨w, hw⟩ := law_one hxs hL
  exact V_cut [0, 1, 2, 3, 4, 5] rfl (v_law_28 XL hL FU 512 _ _ 0 w0s ⟨by decide +kernel, by decide +kernel, by omega, by omega, by omega⟩ hw)
theorem whole_start {p : Program} {e : Env} {s : State} {m : MethodId} {below : List Frame} {meth : Method} {c : Code} (l : Launch) (hflags : l.flags = flags0) {b L : Nat} {xs : Nat → Int32} (hL : L ≤ 3072) (C0 : lw_At p s m meth c b L xs) : W p l e room_1 s m #[Value.ref b] below meth c s.heap [] 0 0 (lw_Z below #[Value.ref b] s) (entryFrame m ([Value.ref b] : List Value).toArray 9) := by
  obtain ⟨hx, hb, hr, hml, hown, hts, hX, hbl, hlocks, hgv⟩ := C0
  have hq : ∀ w ∈ FL, w.before #[Value.ref b] s = true := flat_of_before _ hgv
  obtain ⟨D, cA, hK⟩ := K_all hts
  have hN := NW_all hts
  have had : ∀ i, i < NC → s.heap.size ≤ adz s.heap.size i := fun i _ => Nat.le_add_right _ _
  have htt : ∀ w ∈ TT, w.before #[Value.ref b] s = true := fun w h => hts w (TT_law w h)
  have exs : (fun k => Int32.ofInt ((xs k).toInt)) = xs := by funext k; exact Int32.ofInt_toInt _
  have hX : va_X b L (fun k => Int32.ofInt ((xs k).toInt)) s s.heap := by rw [exs]; exact hX
  have hxs : ∀ k, IR ((xs k).toInt) := fun k => ⟨Int32.minValue_le_toInt _, Int32.toInt_lt _⟩
  have X : Cb (l, D, cA) (p, e, room_1, s, m, #[Value.ref b], below, meth, c, lw_Z below #[Value.ref b] s, 9) s.heap.size code RL ret room_1 9 := ⟨hx, hb, hml, hown, htt, hr, hlocks, hK, hN, rfl, rfl, Nat.le_succ _⟩
  have XL : XLw (l, D, cA, adz s.heap.size) (p, e, room_1, s, m, #[Value.ref b], below, meth, c, lw_Z below #[Value.ref b] s, 9) b L (fun k => (xs k).toInt) := ⟨⟨hx, hb, hml, hown, htt, hr, hlocks, hK, adz_inj _, hN, rfl, rfl⟩, TX_all (G := (l, D, cA, adz s.heap.size)) hflags hts hq had, NC_all hq, hX, hbl, had, rfl, rfl⟩
  have hl := lv_entry ([.ref b]) (n := 9) (Nat.le_of_ble_eq_true rfl)
  rw [lg_entry_eq]
  exact law_start X rfl XL hL hxs s.heap [] _ rfl (fun k q hk => by cases hk) va_S.rf hl
