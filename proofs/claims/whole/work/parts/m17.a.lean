set_option maxRecDepth 40000 in
theorem v_law_28 {G : GG} {E : EE} {b L : Nat} {xs : Nat → Int} (X : XLw G E b L xs) (hL : L ≤ 3072) {q : Int × WS} : ∀ (n r k nn : Nat) (a5 : Int) (w : WS), (k + 5 * r ≤ room_1.cells ∧ nn + 30 * r ≤ room_1.slots ∧ (L : Int) ≤ a5 + 6 * r + 5 ∧ 0 ≤ a5 ∧ a5 ≤ L + 5) → f_law_28 xs L n a5 w = some q → VV G E k nn 28 [(0, .ref b), (1, gr G 0), (2, gr G 85), (3, gr G 135), (4, gr G 136), (5, vi a5)] [] w := by
  intro n
  induction n with
  | zero => intro r k nn a5 w hr hf; cases hf
  | succ n ih =>
    intro r k nn a5 w hr hf
    rw [f_law_28_s] at hf
    refine V_iload X.1 dL_law_28 rfl ?_
    refine V_aload_n X.1 dL_law_30 rfl rfl ?_
    refine V_slen X dL_law_31 ?_
    refine V_bipush X.1 dL_law_32 (by decide) ?_
    refine V_isub X.1 dL_law_34 ?_
    refine V_icmp_gt X.1 (tgt := 2072) dL_law_35 (by decide) (dec_ite (wr (L - 6) < wr a5)) (fun hc => ?_) (fun hc => ?_)
    · have hc := of_decide_eq_true hc.symm
      rw [if_pos hc] at hf
      refine V_iconst X.1 dL_law_2072 ?_
      exact V_lawret X ⟨by omega, by omega⟩ dL_law_2073 hf
    · have hc := of_decide_eq_false hc.symm
      rw [if_neg hc] at hf
      rw [wr_eq (a := (L : Int) - 6) (by omega), wr_eq (a := a5) (by omega)] at hc
      obtain ⟨r, rfl⟩ : ∃ r9, r = r9 + 1 := ⟨r - 1, by omega⟩
      refine V_aload_n X.1 dL_law_38 rfl rfl ?_
      refine V_iload X.1 dL_law_39 rfl ?_
      refine V_sld X dL_law_41 hf (fun hf => ?_)
      refine V_bipush X.1 dL_law_42 (by decide) ?_
      refine V_iand63 X.1 dL_law_44 ?_
      refine ite_c hf (fun h0 hf => ?_) (fun h0 hf => ?_)
      · refine V_tin X.1 (off := 147) (tgt := 192) dL_law_45 0 h0 (by decide) rfl (by decide) ?_
        unfold f_law_c0 at hf
        refine V_gload_n X.1 dL_law_192 rfl rfl ?_
        refine V_aload_n X.1 dL_law_193 rfl rfl ?_
        refine V_iload X.1 dL_law_194 rfl ?_
        refine V_iconst X.1 dL_law_196 ?_
        refine V_iadd X.1 dL_law_197 ?_
        refine V_sld X dL_law_198 hf (fun hf => ?_)
        refine V_gload_n X.1 dL_law_199 rfl rfl ?_
        refine V_lSW X hf [gr G 0, vi (xs (wr (a5 + 1)).toNat), gr G 135] _ 3 (fun _ h => m_L_type h) tw_503 tw_85 tw_501 tw_502 dL_law_200 ⟨by decide +kernel, by decide +kernel, by decide +kernel⟩ ⟨Nat.le_of_ble_eq_true rfl, Nat.le_of_ble_eq_true rfl⟩ rfl (Nat.le_of_ble_eq_true rfl) ⟨Nat.le_trans (Nat.add_le_add_left (m := 5) (Nat.le_of_ble_eq_true rfl) _) (by omega), Nat.le_trans (Nat.add_le_add_left (m := 30) (Nat.le_of_ble_eq_true rfl) _) (by omega)⟩ (fun r1 w1 hf => ?_)
        refine V_widen (k + 5) (nn + 30) ⟨Nat.add_le_add_left (Nat.le_of_ble_eq_true rfl) _, Nat.add_le_add_left (Nat.le_of_ble_eq_true rfl) _⟩ ?_
        refine V_istore X.1 dL_law_203 (by decide) ?_
        refine V_gload_n X.1 dL_law_205 rfl rfl ?_
        refine V_aload_n X.1 dL_law_206 rfl rfl ?_
        refine V_iload X.1 dL_law_207 rfl ?_
        refine V_iconst X.1 dL_law_209 ?_
        refine V_iadd X.1 dL_law_210 ?_
        refine V_sld X dL_law_211 hf (fun hf => ?_)
        refine V_cVI X.1 hf [vi (xs (wr (a5 + 1)).toNat)] _ 1 (fun _ h => m_X9_type h) ob_85 rfl tw_1569 tw_95 tw_1566 tw_1567 tw_1568 dL_law_212 ⟨by decide +kernel, by decide +kernel, by decide +kernel⟩ ⟨rfl, rfl⟩ ⟨Nat.le_of_ble_eq_true rfl, Nat.le_of_ble_eq_true rfl⟩ rfl (Nat.le_of_ble_eq_true rfl) ⟨by show _ ≤ room_1.cells; omega, by show _ ≤ room_1.slots; omega⟩ (fun r2 w2 hf => ?_)
        refine V_istore X.1 dL_law_215 (by decide) ?_
        refine V_gload_n X.1 dL_law_217 rfl rfl ?_
        refine V_cVI X.1 hf [] _ 0 (fun _ h => m_X9_thrown h) ob_85 rfl tw_1565 tw_95 tw_1562 tw_1563 tw_1564 dL_law_218 ⟨by decide +kernel, by decide +kernel, by decide +kernel⟩ ⟨rfl, rfl⟩ ⟨Nat.le_of_ble_eq_true rfl, Nat.le_of_ble_eq_true rfl⟩ rfl (Nat.le_of_ble_eq_true rfl) ⟨by show _ ≤ room_1.cells; omega, by show _ ≤ room_1.slots; omega⟩ (fun r3 w3 hf => ?_)
        refine V_iload X.1 dL_law_221 rfl ?_
        refine V_icmp_eq X.1 (tgt := 228) dL_law_223 (by decide) hf (fun hf => ?_) (fun hf => ?_)
        · refine V_iload X.1 dL_law_228 rfl ?_
          refine V_if_ne X.1 (tgt := 245) dL_law_230 (by decide) hf (fun hf => ?_) (fun hf => ?_)
          · refine V_gload_n X.1 dL_law_233 rfl rfl ?_
            refine V_iconst X.1 dL_law_234 ?_
            refine V_lald X.1 ar_135 dL_law_235 hf (fun hf => ?_)
            refine V_iload X.1 dL_law_236 rfl ?_
            refine V_i2l X.1 dL_law_238 ?_
            refine V_lcmp_eq X.1 (tgt := 245) (pc2 := 240) dL_law_239 rfl dL_law_240 (by decide) hf (fun hf => ?_) (fun hf => ?_)
            · refine V_goto X.1 (tgt := 2066) dL_law_245 (by decide) ?_
              refine V_iinc X.1 dL_law_2066 rfl (by decide) ?_
              refine V_goto X.1 (tgt := 28) dL_law_2069 (by decide) ?_
              exact V_cut [0, 1, 2, 3, 4, 5] rfl (ih r _ _ _ _ (by omega) hf)
            · cases hf
          · refine V_goto X.1 (tgt := 2066) dL_law_245 (by decide) ?_
            refine V_iinc X.1 dL_law_2066 rfl (by decide) ?_
            refine V_goto X.1 (tgt := 28) dL_law_2069 (by decide) ?_
            exact V_cut [0, 1, 2, 3, 4, 5] rfl (ih r _ _ _ _ (by omega) hf)
        · cases hf
      refine ite_c hf (fun h1 hf => ?_) (fun h1 hf => ?_)
      · refine V_tin X.1 (off := 203) (tgt := 248) dL_law_45 1 h1 (by decide) rfl (by decide) ?_
        unfold f_law_c1 at hf
        refine V_widen (k + 5) (nn + 30) ⟨Nat.le_add_right _ _, Nat.le_add_right _ _⟩ ?_
        refine V_gload_n X.1 dL_law_248 rfl rfl ?_
        refine V_cVI X.1 hf [] _ 0 (fun _ h => m_X8_wipe h) ob_0 rfl tw_462 tw_86 tw_459 tw_460 tw_461 dL_law_249 ⟨by decide +kernel, by decide +kernel, by decide +kernel⟩ ⟨rfl, rfl⟩ ⟨Nat.le_of_ble_eq_true rfl, Nat.le_of_ble_eq_true rfl⟩ rfl (Nat.le_of_ble_eq_true rfl) ⟨by show _ ≤ room_1.cells; omega, by show _ ≤ room_1.slots; omega⟩ (fun r4 w4 hf => ?_)
        refine V_gload_n X.1 dL_law_252 rfl rfl ?_
        refine V_cVI X.1 hf [] _ 0 (fun _ h => m_X9_wipe h) ob_85 rfl tw_1584 tw_95 tw_1581 tw_1582 tw_1583 dL_law_253 ⟨by decide +kernel, by decide +kernel, by decide +kernel⟩ ⟨rfl, rfl⟩ ⟨Nat.le_of_ble_eq_true rfl, Nat.le_of_ble_eq_true rfl⟩ rfl (Nat.le_of_ble_eq_true rfl) ⟨by show _ ≤ room_1.cells; omega, by show _ ≤ room_1.slots; omega⟩ (fun r5 w5 hf => ?_)
        refine V_icmp_eq X.1 (tgt := 2066) dL_law_256 (by decide) hf (fun hf => ?_) (fun hf => ?_)
        · refine V_iinc X.1 dL_law_2066 rfl (by decide) ?_
          refine V_goto X.1 (tgt := 28) dL_law_2069 (by decide) ?_
          exact V_cut [0, 1, 2, 3, 4, 5] rfl (ih r _ _ _ _ (by omega) hf)
        · cases hf
      refine ite_c hf (fun h2 hf => ?_) (fun h2 hf => ?_)
      · refine V_tin X.1 (off := 216) (tgt := 261) dL_law_45 2 h2 (by decide) rfl (by decide) ?_
        unfold f_law_c2 at hf
        refine V_gload_n X.1 dL_law_261 rfl rfl ?_
        refine V_gload_n X.1 dL_law_262 rfl rfl ?_
        refine V_lSW X hf [gr G 0, gr G 135] _ 2 (fun _ h => m_L_text h) tw_609 tw_85 tw_607 tw_608 dL_law_263 ⟨by decide +kernel, by decide +kernel, by decide +kernel⟩ ⟨Nat.le_of_ble_eq_true rfl, Nat.le_of_ble_eq_true rfl⟩ rfl (Nat.le_of_ble_eq_true rfl) ⟨Nat.le_trans (Nat.add_le_add_left (m := 5) (Nat.le_of_ble_eq_true rfl) _) (by omega), Nat.le_trans (Nat.add_le_add_left (m := 30) (Nat.le_of_ble_eq_true rfl) _) (by omega)⟩ (fun r6 w6 hf => ?_)
        refine V_widen (k + 5) (nn + 30) ⟨Nat.add_le_add_left (Nat.le_of_ble_eq_true rfl) _, Nat.add_le_add_left (Nat.le_of_ble_eq_true rfl) _⟩ ?_
        refine V_istore X.1 dL_law_266 (by decide) ?_
        refine V_gload_n X.1 dL_law_268 rfl rfl ?_
        refine V_cVI X.1 hf [] _ 0 (fun _ h => m_X9_text h) ob_85 rfl tw_1588 tw_95 tw_1585 tw_1586 tw_1587 dL_law_269 ⟨by decide +kernel, by decide +kernel, by decide +kernel⟩ ⟨rfl, rfl⟩ ⟨Nat.le_of_ble_eq_true rfl, Nat.le_of_ble_eq_true rfl⟩ rfl (Nat.le_of_ble_eq_true rfl) ⟨by show _ ≤ room_1.cells; omega, by show _ ≤ room_1.slots; omega⟩ (fun r7 w7 hf => ?_)
        refine V_istore X.1 dL_law_272 (by decide) ?_
        refine V_gload_n X.1 dL_law_274 rfl rfl ?_
        refine V_cVI X.1 hf [] _ 0 (fun _ h => m_X9_thrown h) ob_85 rfl tw_1565 tw_95 tw_1562 tw_1563 tw_1564 dL_law_275 ⟨by decide +kernel, by decide +kernel, by decide +kernel⟩ ⟨rfl, rfl⟩ ⟨Nat.le_of_ble_eq_true rfl, Nat.le_of_ble_eq_true rfl⟩ rfl (Nat.le_of_ble_eq_true rfl) ⟨by show _ ≤ room_1.cells; omega, by show _ ≤ room_1.slots; omega⟩ (fun r8 w8 hf => ?_)
        refine V_iload X.1 dL_law_278 rfl ?_
        refine V_icmp_eq X.1 (tgt := 285) dL_law_280 (by decide) hf (fun hf => ?_) (fun hf => ?_)
        · refine V_iload X.1 dL_law_285 rfl ?_
          refine V_if_ne X.1 (tgt := 302) dL_law_287 (by decide) hf (fun hf => ?_) (fun hf => ?_)
          · refine V_gload_n X.1 dL_law_290 rfl rfl ?_
            refine V_iconst X.1 dL_law_291 ?_
            refine V_lald X.1 ar_135 dL_law_292 hf (fun hf => ?_)
            refine V_iload X.1 dL_law_293 rfl ?_
            refine V_i2l X.1 dL_law_295 ?_
            refine V_lcmp_eq X.1 (tgt := 302) (pc2 := 297) dL_law_296 rfl dL_law_297 (by decide) hf (fun hf => ?_) (fun hf => ?_)
            · refine V_goto X.1 (tgt := 2066) dL_law_302 (by decide) ?_
              refine V_iinc X.1 dL_law_2066 rfl (by decide) ?_
              refine V_goto X.1 (tgt := 28) dL_law_2069 (by decide) ?_
              exact V_cut [0, 1, 2, 3, 4, 5] rfl (ih r _ _ _ _ (by omega) hf)
            · cases hf
          · refine V_goto X.1 (tgt := 2066) dL_law_302 (by decide) ?_
            refine V_iinc X.1 dL_law_2066 rfl (by decide) ?_
            refine V_goto X.1 (tgt := 28) dL_law_2069 (by decide) ?_
            exact V_cut [0, 1, 2, 3, 4, 5] rfl (ih r _ _ _ _ (by omega) hf)
        · cases hf
      refine ite_c hf (fun h3 hf => ?_) (fun h3 hf => ?_)
      · refine V_tin X.1 (off := 260) (tgt := 305) dL_law_45 3 h3 (by decide) rfl (by decide) ?_
        unfold f_law_c3 at hf
        refine V_gload_n X.1 dL_law_305 rfl rfl ?_
        refine V_aload_n X.1 dL_law_306 rfl rfl ?_
        refine V_iload X.1 dL_law_307 rfl ?_
        refine V_iconst X.1 dL_law_309 ?_
        refine V_iadd X.1 dL_law_310 ?_
        refine V_sld X dL_law_311 hf (fun hf => ?_)
        refine V_gload_n X.1 dL_law_312 rfl rfl ?_
        refine V_lSW X hf [gr G 0, vi (xs (wr (a5 + 1)).toNat), gr G 135] _ 3 (fun _ h => m_L_set h) tw_644 tw_85 tw_642 tw_643 dL_law_313 ⟨by decide +kernel, by decide +kernel, by decide +kernel⟩ ⟨Nat.le_of_ble_eq_true rfl, Nat.le_of_ble_eq_true rfl⟩ rfl (Nat.le_of_ble_eq_true rfl) ⟨Nat.le_trans (Nat.add_le_add_left (m := 5) (Nat.le_of_ble_eq_true rfl) _) (by omega), Nat.le_trans (Nat.add_le_add_left (m := 30) (Nat.le_of_ble_eq_true rfl) _) (by omega)⟩ (fun r9 w9 hf => ?_)
        refine V_widen (k + 5) (nn + 30) ⟨Nat.add_le_add_left (Nat.le_of_ble_eq_true rfl) _, Nat.add_le_add_left (Nat.le_of_ble_eq_true rfl) _⟩ ?_
        refine V_istore X.1 dL_law_316 (by decide) ?_
        refine V_gload_n X.1 dL_law_318 rfl rfl ?_
        refine V_aload_n X.1 dL_law_319 rfl rfl ?_
        refine V_iload X.1 dL_law_320 rfl ?_
        refine V_iconst X.1 dL_law_322 ?_
        refine V_iadd X.1 dL_law_323 ?_
        refine V_sld X dL_law_324 hf (fun hf => ?_)
        refine V_cVI X.1 hf [vi (xs (wr (a5 + 1)).toNat)] _ 1 (fun _ h => m_X9_set h) ob_85 rfl tw_1592 tw_95 tw_1589 tw_1590 tw_1591 dL_law_325 ⟨by decide +kernel, by decide +kernel, by decide +kernel⟩ ⟨rfl, rfl⟩ ⟨Nat.le_of_ble_eq_true rfl, Nat.le_of_ble_eq_true rfl⟩ rfl (Nat.le_of_ble_eq_true rfl) ⟨by show _ ≤ room_1.cells; omega, by show _ ≤ room_1.slots; omega⟩ (fun r10 w10 hf => ?_)
        refine V_istore X.1 dL_law_328 (by decide) ?_
        refine V_gload_n X.1 dL_law_330 rfl rfl ?_
        refine V_cVI X.1 hf [] _ 0 (fun _ h => m_X9_thrown h) ob_85 rfl tw_1565 tw_95 tw_1562 tw_1563 tw_1564 dL_law_331 ⟨by decide +kernel, by decide +kernel, by decide +kernel⟩ ⟨rfl, rfl⟩ ⟨Nat.le_of_ble_eq_true rfl, Nat.le_of_ble_eq_true rfl⟩ rfl (Nat.le_of_ble_eq_true rfl) ⟨by show _ ≤ room_1.cells; omega, by show _ ≤ room_1.slots; omega⟩ (fun r11 w11 hf => ?_)
        refine V_iload X.1 dL_law_334 rfl ?_
        refine V_icmp_eq X.1 (tgt := 341) dL_law_336 (by decide) hf (fun hf => ?_) (fun hf => ?_)
        · refine V_iload X.1 dL_law_341 rfl ?_
          refine V_if_ne X.1 (tgt := 358) dL_law_343 (by decide) hf (fun hf => ?_) (fun hf => ?_)
          · refine V_gload_n X.1 dL_law_346 rfl rfl ?_
            refine V_iconst X.1 dL_law_347 ?_
            refine V_lald X.1 ar_135 dL_law_348 hf (fun hf => ?_)
            refine V_iload X.1 dL_law_349 rfl ?_
            refine V_i2l X.1 dL_law_351 ?_
            refine V_lcmp_eq X.1 (tgt := 358) (pc2 := 353) dL_law_352 rfl dL_law_353 (by decide) hf (fun hf => ?_) (fun hf => ?_)
            · refine V_goto X.1 (tgt := 2066) dL_law_358 (by decide) ?_
              refine V_iinc X.1 dL_law_2066 rfl (by decide) ?_
              refine V_goto X.1 (tgt := 28) dL_law_2069 (by decide) ?_
              exact V_cut [0, 1, 2, 3, 4, 5] rfl (ih r _ _ _ _ (by omega) hf)
            · cases hf
          · refine V_goto X.1 (tgt := 2066) dL_law_358 (by decide) ?_
            refine V_iinc X.1 dL_law_2066 rfl (by decide) ?_
            refine V_goto X.1 (tgt := 28) dL_law_2069 (by decide) ?_
            exact V_cut [0, 1, 2, 3, 4, 5] rfl (ih r _ _ _ _ (by omega) hf)
        · cases hf
      refine ite_c hf (fun h4 hf => ?_) (fun h4 hf => ?_)
      · refine V_tin X.1 (off := 316) (tgt := 361) dL_law_45 4 h4 (by decide) rfl (by decide) ?_
        unfold f_law_c4 at hf
        refine V_gload_n X.1 dL_law_361 rfl rfl ?_
        refine V_aload_n X.1 dL_law_362 rfl rfl ?_
        refine V_iload X.1 dL_law_363 rfl ?_
        refine V_iconst X.1 dL_law_365 ?_
        refine V_iadd X.1 dL_law_366 ?_
        refine V_sld X dL_law_367 hf (fun hf => ?_)
        refine V_gload_n X.1 dL_law_368 rfl rfl ?_
        refine V_lSW X hf [gr G 0, vi (xs (wr (a5 + 1)).toNat), gr G 135] _ 3 (fun _ h => m_L_size h) tw_694 tw_85 tw_692 tw_693 dL_law_369 ⟨by decide +kernel, by decide +kernel, by decide +kernel⟩ ⟨Nat.le_of_ble_eq_true rfl, Nat.le_of_ble_eq_true rfl⟩ rfl (Nat.le_of_ble_eq_true rfl) ⟨Nat.le_trans (Nat.add_le_add_left (m := 5) (Nat.le_of_ble_eq_true rfl) _) (by omega), Nat.le_trans (Nat.add_le_add_left (m := 30) (Nat.le_of_ble_eq_true rfl) _) (by omega)⟩ (fun r12 w12 hf => ?_)
        refine V_widen (k + 5) (nn + 30) ⟨Nat.add_le_add_left (Nat.le_of_ble_eq_true rfl) _, Nat.add_le_add_left (Nat.le_of_ble_eq_true rfl) _⟩ ?_
        refine V_istore X.1 dL_law_372 (by decide) ?_
        refine V_gload_n X.1 dL_law_374 rfl rfl ?_
        refine V_aload_n X.1 dL_law_375 rfl rfl ?_
        refine V_iload X.1 dL_law_376 rfl ?_
        refine V_iconst X.1 dL_law_378 ?_
        refine V_iadd X.1 dL_law_379 ?_
        refine V_sld X dL_law_380 hf (fun hf => ?_)
        refine V_cVI X.1 hf [vi (xs (wr (a5 + 1)).toNat)] _ 1 (fun _ h => m_X9_size h) ob_85 rfl tw_1600 tw_95 tw_1597 tw_1598 tw_1599 dL_law_381 ⟨by decide +kernel, by decide +kernel, by decide +kernel⟩ ⟨rfl, rfl⟩ ⟨Nat.le_of_ble_eq_true rfl, Nat.le_of_ble_eq_true rfl⟩ rfl (Nat.le_of_ble_eq_true rfl) ⟨by show _ ≤ room_1.cells; omega, by show _ ≤ room_1.slots; omega⟩ (fun r13 w13 hf => ?_)
        refine V_istore X.1 dL_law_384 (by decide) ?_
        refine V_gload_n X.1 dL_law_386 rfl rfl ?_
        refine V_cVI X.1 hf [] _ 0 (fun _ h => m_X9_thrown h) ob_85 rfl tw_1565 tw_95 tw_1562 tw_1563 tw_1564 dL_law_387 ⟨by decide +kernel, by decide +kernel, by decide +kernel⟩ ⟨rfl, rfl⟩ ⟨Nat.le_of_ble_eq_true rfl, Nat.le_of_ble_eq_true rfl⟩ rfl (Nat.le_of_ble_eq_true rfl) ⟨by show _ ≤ room_1.cells; omega, by show _ ≤ room_1.slots; omega⟩ (fun r14 w14 hf => ?_)
        refine V_iload X.1 dL_law_390 rfl ?_
        refine V_icmp_eq X.1 (tgt := 397) dL_law_392 (by decide) hf (fun hf => ?_) (fun hf => ?_)
        · refine V_iload X.1 dL_law_397 rfl ?_
          refine V_if_ne X.1 (tgt := 414) dL_law_399 (by decide) hf (fun hf => ?_) (fun hf => ?_)
          · refine V_gload_n X.1 dL_law_402 rfl rfl ?_
            refine V_iconst X.1 dL_law_403 ?_
            refine V_lald X.1 ar_135 dL_law_404 hf (fun hf => ?_)
            refine V_iload X.1 dL_law_405 rfl ?_
            refine V_i2l X.1 dL_law_407 ?_
            refine V_lcmp_eq X.1 (tgt := 414) (pc2 := 409) dL_law_408 rfl dL_law_409 (by decide) hf (fun hf => ?_) (fun hf => ?_)
            · refine V_goto X.1 (tgt := 2066) dL_law_414 (by decide) ?_
              refine V_iinc X.1 dL_law_2066 rfl (by decide) ?_
              refine V_goto X.1 (tgt := 28) dL_law_2069 (by decide) ?_
              exact V_cut [0, 1, 2, 3, 4, 5] rfl (ih r _ _ _ _ (by omega) hf)
            · cases hf
          · refine V_goto X.1 (tgt := 2066) dL_law_414 (by decide) ?_
            refine V_iinc X.1 dL_law_2066 rfl (by decide) ?_
            refine V_goto X.1 (tgt := 28) dL_law_2069 (by decide) ?_
            exact V_cut [0, 1, 2, 3, 4, 5] rfl (ih r _ _ _ _ (by omega) hf)
        · cases hf
      refine ite_c hf (fun h5 hf => ?_) (fun h5 hf => ?_)
      · refine V_tin X.1 (off := 372) (tgt := 417) dL_law_45 5 h5 (by decide) rfl (by decide) ?_
        unfold f_law_c5 at hf
        refine V_gload_n X.1 dL_law_417 rfl rfl ?_
        refine V_aload_n X.1 dL_law_418 rfl rfl ?_
        refine V_iload X.1 dL_law_419 rfl ?_
        refine V_iconst X.1 dL_law_421 ?_
        refine V_iadd X.1 dL_law_422 ?_
        refine V_sld X dL_law_423 hf (fun hf => ?_)
        refine V_aload_n X.1 dL_law_424 rfl rfl ?_
        refine V_iload X.1 dL_law_425 rfl ?_
        refine V_iconst X.1 dL_law_427 ?_
        refine V_iadd X.1 dL_law_428 ?_
        refine V_sld X dL_law_429 hf (fun hf => ?_)
        refine V_gload_n X.1 dL_law_430 rfl rfl ?_
        refine V_lSW X hf [gr G 0, vi (xs (wr (a5 + 1)).toNat), vi (xs (wr (a5 + 2)).toNat), gr G 135] _ 4 (fun _ h => m_L_at h) tw_701 tw_85 tw_699 tw_700 dL_law_431 ⟨by decide +kernel, by decide +kernel, by decide +kernel⟩ ⟨Nat.le_of_ble_eq_true rfl, Nat.le_of_ble_eq_true rfl⟩ rfl (Nat.le_of_ble_eq_true rfl) ⟨Nat.le_trans (Nat.add_le_add_left (m := 5) (Nat.le_of_ble_eq_true rfl) _) (by omega), Nat.le_trans (Nat.add_le_add_left (m := 30) (Nat.le_of_ble_eq_true rfl) _) (by omega)⟩ (fun r15 w15 hf => ?_)
        refine V_widen (k + 5) (nn + 30) ⟨Nat.add_le_add_left (Nat.le_of_ble_eq_true rfl) _, Nat.add_le_add_left (Nat.le_of_ble_eq_true rfl) _⟩ ?_
        refine V_istore X.1 dL_law_434 (by decide) ?_
        refine V_gload_n X.1 dL_law_436 rfl rfl ?_
        refine V_aload_n X.1 dL_law_437 rfl rfl ?_
        refine V_iload X.1 dL_law_438 rfl ?_
        refine V_iconst X.1 dL_law_440 ?_
        refine V_iadd X.1 dL_law_441 ?_
        refine V_sld X dL_law_442 hf (fun hf => ?_)
        refine V_aload_n X.1 dL_law_443 rfl rfl ?_
        refine V_iload X.1 dL_law_444 rfl ?_
        refine V_iconst X.1 dL_law_446 ?_
        refine V_iadd X.1 dL_law_447 ?_
        refine V_sld X dL_law_448 hf (fun hf => ?_)
        refine V_cVI X.1 hf [vi (xs (wr (a5 + 1)).toNat), vi (xs (wr (a5 + 2)).toNat)] _ 2 (fun _ h => m_X9_at h) ob_85 rfl tw_1604 tw_95 tw_1601 tw_1602 tw_1603 dL_law_449 ⟨by decide +kernel, by decide +kernel, by decide +kernel⟩ ⟨rfl, rfl⟩ ⟨Nat.le_of_ble_eq_true rfl, Nat.le_of_ble_eq_true rfl⟩ rfl (Nat.le_of_ble_eq_true rfl) ⟨by show _ ≤ room_1.cells; omega, by show _ ≤ room_1.slots; omega⟩ (fun r16 w16 hf => ?_)
        refine V_istore X.1 dL_law_452 (by decide) ?_
        refine V_gload_n X.1 dL_law_454 rfl rfl ?_
        refine V_cVI X.1 hf [] _ 0 (fun _ h => m_X9_thrown h) ob_85 rfl tw_1565 tw_95 tw_1562 tw_1563 tw_1564 dL_law_455 ⟨by decide +kernel, by decide +kernel, by decide +kernel⟩ ⟨rfl, rfl⟩ ⟨Nat.le_of_ble_eq_true rfl, Nat.le_of_ble_eq_true rfl⟩ rfl (Nat.le_of_ble_eq_true rfl) ⟨by show _ ≤ room_1.cells; omega, by show _ ≤ room_1.slots; omega⟩ (fun r17 w17 hf => ?_)
        refine V_iload X.1 dL_law_458 rfl ?_
        refine V_icmp_eq X.1 (tgt := 465) dL_law_460 (by decide) hf (fun hf => ?_) (fun hf => ?_)
        · refine V_iload X.1 dL_law_465 rfl ?_
          refine V_if_ne X.1 (tgt := 482) dL_law_467 (by decide) hf (fun hf => ?_) (fun hf => ?_)
          · refine V_gload_n X.1 dL_law_470 rfl rfl ?_
            refine V_iconst X.1 dL_law_471 ?_
            refine V_lald X.1 ar_135 dL_law_472 hf (fun hf => ?_)
            refine V_iload X.1 dL_law_473 rfl ?_
            refine V_i2l X.1 dL_law_475 ?_
            refine V_lcmp_eq X.1 (tgt := 482) (pc2 := 477) dL_law_476 rfl dL_law_477 (by decide) hf (fun hf => ?_) (fun hf => ?_)
            · refine V_goto X.1 (tgt := 2066) dL_law_482 (by decide) ?_
              refine V_iinc X.1 dL_law_2066 rfl (by decide) ?_
              refine V_goto X.1 (tgt := 28) dL_law_2069 (by decide) ?_
              exact V_cut [0, 1, 2, 3, 4, 5] rfl (ih r _ _ _ _ (by omega) hf)
            · cases hf
          · refine V_goto X.1 (tgt := 2066) dL_law_482 (by decide) ?_
            refine V_iinc X.1 dL_law_2066 rfl (by decide) ?_
            refine V_goto X.1 (tgt := 28) dL_law_2069 (by decide) ?_
            exact V_cut [0, 1, 2, 3, 4, 5] rfl (ih r _ _ _ _ (by omega) hf)
        · cases hf
      refine ite_c hf (fun h6 hf => ?_) (fun h6 hf => ?_)
      · refine V_tin X.1 (off := 440) (tgt := 485) dL_law_45 6 h6 (by decide) rfl (by decide) ?_
        unfold f_law_c6 at hf
        refine V_gload_n X.1 dL_law_485 rfl rfl ?_
        refine V_aload_n X.1 dL_law_486 rfl rfl ?_
        refine V_iload X.1 dL_law_487 rfl ?_
        refine V_iconst X.1 dL_law_489 ?_
        refine V_iadd X.1 dL_law_490 ?_
        refine V_sld X dL_law_491 hf (fun hf => ?_)
        refine V_i2c X.1 dL_law_492 ?_
        refine V_aload_n X.1 dL_law_493 rfl rfl ?_
        refine V_iload X.1 dL_law_494 rfl ?_
        refine V_iconst X.1 dL_law_496 ?_
        refine V_iadd X.1 dL_law_497 ?_
        refine V_sld X dL_law_498 hf (fun hf => ?_)
        refine V_aload_n X.1 dL_law_499 rfl rfl ?_
        refine V_iload X.1 dL_law_500 rfl ?_
        refine V_iconst X.1 dL_law_502 ?_
        refine V_iadd X.1 dL_law_503 ?_
        refine V_sld X dL_law_504 hf (fun hf => ?_)
        refine V_gload_n X.1 dL_law_505 rfl rfl ?_
        refine V_lSW X hf [gr G 0, vi (nC (xs (wr (a5 + 1)).toNat)), vi (xs (wr (a5 + 2)).toNat), vi (xs (wr (a5 + 3)).toNat), gr G 135] _ 5 (fun _ h => m_L_pattern (nC_rg _) h) tw_729 tw_85 tw_727 tw_728 dL_law_506 ⟨by decide +kernel, by decide +kernel, by decide +kernel⟩ ⟨Nat.le_of_ble_eq_true rfl, Nat.le_of_ble_eq_true rfl⟩ rfl (Nat.le_of_ble_eq_true rfl) ⟨Nat.le_trans (Nat.add_le_add_left (m := 5) (Nat.le_of_ble_eq_true rfl) _) (by omega), Nat.le_trans (Nat.add_le_add_left (m := 30) (Nat.le_of_ble_eq_true rfl) _) (by omega)⟩ (fun r18 w18 hf => ?_)
        refine V_widen (k + 5) (nn + 30) ⟨Nat.add_le_add_left (Nat.le_of_ble_eq_true rfl) _, Nat.add_le_add_left (Nat.le_of_ble_eq_true rfl) _⟩ ?_
        refine V_istore X.1 dL_law_509 (by decide) ?_
        refine V_gload_n X.1 dL_law_511 rfl rfl ?_
        refine V_aload_n X.1 dL_law_512 rfl rfl ?_
        refine V_iload X.1 dL_law_513 rfl ?_
        refine V_iconst X.1 dL_law_515 ?_
        refine V_iadd X.1 dL_law_516 ?_
        refine V_sld X dL_law_517 hf (fun hf => ?_)
        refine V_i2c X.1 dL_law_518 ?_
        refine V_aload_n X.1 dL_law_519 rfl rfl ?_
        refine V_iload X.1 dL_law_520 rfl ?_
        refine V_iconst X.1 dL_law_522 ?_
        refine V_iadd X.1 dL_law_523 ?_
        refine V_sld X dL_law_524 hf (fun hf => ?_)
        refine V_aload_n X.1 dL_law_525 rfl rfl ?_
        refine V_iload X.1 dL_law_526 rfl ?_
        refine V_iconst X.1 dL_law_528 ?_
        refine V_iadd X.1 dL_law_529 ?_
        refine V_sld X dL_law_530 hf (fun hf => ?_)
        refine V_cVI X.1 hf [vi (nC (xs (wr (a5 + 1)).toNat)), vi (xs (wr (a5 + 2)).toNat), vi (xs (wr (a5 + 3)).toNat)] _ 3 (fun _ h => m_X9_pattern h) ob_85 rfl tw_1608 tw_95 tw_1605 tw_1606 tw_1607 dL_law_531 ⟨by decide +kernel, by decide +kernel, by decide +kernel⟩ ⟨rfl, rfl⟩ ⟨Nat.le_of_ble_eq_true rfl, Nat.le_of_ble_eq_true rfl⟩ rfl (Nat.le_of_ble_eq_true rfl) ⟨by show _ ≤ room_1.cells; omega, by show _ ≤ room_1.slots; omega⟩ (fun r19 w19 hf => ?_)
        refine V_istore X.1 dL_law_534 (by decide) ?_
        refine V_gload_n X.1 dL_law_536 rfl rfl ?_
        refine V_cVI X.1 hf [] _ 0 (fun _ h => m_X9_thrown h) ob_85 rfl tw_1565 tw_95 tw_1562 tw_1563 tw_1564 dL_law_537 ⟨by decide +kernel, by decide +kernel, by decide +kernel⟩ ⟨rfl, rfl⟩ ⟨Nat.le_of_ble_eq_true rfl, Nat.le_of_ble_eq_true rfl⟩ rfl (Nat.le_of_ble_eq_true rfl) ⟨by show _ ≤ room_1.cells; omega, by show _ ≤ room_1.slots; omega⟩ (fun r20 w20 hf => ?_)
        refine V_iload X.1 dL_law_540 rfl ?_
        refine V_icmp_eq X.1 (tgt := 547) dL_law_542 (by decide) hf (fun hf => ?_) (fun hf => ?_)
        · refine V_iload X.1 dL_law_547 rfl ?_
          refine V_if_ne X.1 (tgt := 564) dL_law_549 (by decide) hf (fun hf => ?_) (fun hf => ?_)
          · refine V_gload_n X.1 dL_law_552 rfl rfl ?_
            refine V_iconst X.1 dL_law_553 ?_
            refine V_lald X.1 ar_135 dL_law_554 hf (fun hf => ?_)
            refine V_iload X.1 dL_law_555 rfl ?_
            refine V_i2l X.1 dL_law_557 ?_
            refine V_lcmp_eq X.1 (tgt := 564) (pc2 := 559) dL_law_558 rfl dL_law_559 (by decide) hf (fun hf => ?_) (fun hf => ?_)
            · refine V_goto X.1 (tgt := 2066) dL_law_564 (by decide) ?_
              refine V_iinc X.1 dL_law_2066 rfl (by decide) ?_
              refine V_goto X.1 (tgt := 28) dL_law_2069 (by decide) ?_
              exact V_cut [0, 1, 2, 3, 4, 5] rfl (ih r _ _ _ _ (by omega) hf)
            · cases hf
          · refine V_goto X.1 (tgt := 2066) dL_law_564 (by decide) ?_
            refine V_iinc X.1 dL_law_2066 rfl (by decide) ?_
            refine V_goto X.1 (tgt := 28) dL_law_2069 (by decide) ?_
            exact V_cut [0, 1, 2, 3, 4, 5] rfl (ih r _ _ _ _ (by omega) hf)
        · cases hf
      refine ite_c hf (fun h7 hf => ?_) (fun h7 hf => ?_)
      · refine V_tin X.1 (off := 522) (tgt := 567) dL_law_45 7 h7 (by decide) rfl (by decide) ?_
        unfold f_law_c7 at hf
        refine V_gload_n X.1 dL_law_567 rfl rfl ?_
        refine V_aload_n X.1 dL_law_568 rfl rfl ?_
        refine V_iload X.1 dL_law_569 rfl ?_
        refine V_iconst X.1 dL_law_571 ?_
        refine V_iadd X.1 dL_law_572 ?_
        refine V_sld X dL_law_573 hf (fun hf => ?_)
        refine V_i2c X.1 dL_law_574 ?_
        refine V_aload_n X.1 dL_law_575 rfl rfl ?_
        refine V_iload X.1 dL_law_576 rfl ?_
        refine V_iconst X.1 dL_law_578 ?_
        refine V_iadd X.1 dL_law_579 ?_
        refine V_sld X dL_law_580 hf (fun hf => ?_)
        refine V_aload_n X.1 dL_law_581 rfl rfl ?_
        refine V_iload X.1 dL_law_582 rfl ?_
        refine V_iconst X.1 dL_law_584 ?_
        refine V_iadd X.1 dL_law_585 ?_
        refine V_sld X dL_law_586 hf (fun hf => ?_)
        refine V_gload_n X.1 dL_law_587 rfl rfl ?_
        refine V_lSW X hf [gr G 0, vi (nC (xs (wr (a5 + 1)).toNat)), vi (xs (wr (a5 + 2)).toNat), vi (xs (wr (a5 + 3)).toNat), gr G 135] _ 5 (fun _ h => m_L_term (nC_rg _) h) tw_842 tw_85 tw_840 tw_841 dL_law_588 ⟨by decide +kernel, by decide +kernel, by decide +kernel⟩ ⟨Nat.le_of_ble_eq_true rfl, Nat.le_of_ble_eq_true rfl⟩ rfl (Nat.le_of_ble_eq_true rfl) ⟨Nat.le_trans (Nat.add_le_add_left (m := 5) (Nat.le_of_ble_eq_true rfl) _) (by omega), Nat.le_trans (Nat.add_le_add_left (m := 30) (Nat.le_of_ble_eq_true rfl) _) (by omega)⟩ (fun r21 w21 hf => ?_)
        refine V_widen (k + 5) (nn + 30) ⟨Nat.add_le_add_left (Nat.le_of_ble_eq_true rfl) _, Nat.add_le_add_left (Nat.le_of_ble_eq_true rfl) _⟩ ?_
        refine V_istore X.1 dL_law_591 (by decide) ?_
        refine V_gload_n X.1 dL_law_593 rfl rfl ?_
        refine V_aload_n X.1 dL_law_594 rfl rfl ?_
        refine V_iload X.1 dL_law_595 rfl ?_
        refine V_iconst X.1 dL_law_597 ?_
        refine V_iadd X.1 dL_law_598 ?_
        refine V_sld X dL_law_599 hf (fun hf => ?_)
        refine V_i2c X.1 dL_law_600 ?_
        refine V_aload_n X.1 dL_law_601 rfl rfl ?_
        refine V_iload X.1 dL_law_602 rfl ?_
        refine V_iconst X.1 dL_law_604 ?_
        refine V_iadd X.1 dL_law_605 ?_
        refine V_sld X dL_law_606 hf (fun hf => ?_)
        refine V_aload_n X.1 dL_law_607 rfl rfl ?_
        refine V_iload X.1 dL_law_608 rfl ?_
        refine V_iconst X.1 dL_law_610 ?_
        refine V_iadd X.1 dL_law_611 ?_
        refine V_sld X dL_law_612 hf (fun hf => ?_)
        refine V_cVI X.1 hf [vi (nC (xs (wr (a5 + 1)).toNat)), vi (xs (wr (a5 + 2)).toNat), vi (xs (wr (a5 + 3)).toNat)] _ 3 (fun _ h => m_X9_term h) ob_85 rfl tw_1624 tw_95 tw_1621 tw_1622 tw_1623 dL_law_613 ⟨by decide +kernel, by decide +kernel, by decide +kernel⟩ ⟨rfl, rfl⟩ ⟨Nat.le_of_ble_eq_true rfl, Nat.le_of_ble_eq_true rfl⟩ rfl (Nat.le_of_ble_eq_true rfl) ⟨by show _ ≤ room_1.cells; omega, by show _ ≤ room_1.slots; omega⟩ (fun r22 w22 hf => ?_)
        refine V_istore X.1 dL_law_616 (by decide) ?_
        refine V_gload_n X.1 dL_law_618 rfl rfl ?_
        refine V_cVI X.1 hf [] _ 0 (fun _ h => m_X9_thrown h) ob_85 rfl tw_1565 tw_95 tw_1562 tw_1563 tw_1564 dL_law_619 ⟨by decide +kernel, by decide +kernel, by decide +kernel⟩ ⟨rfl, rfl⟩ ⟨Nat.le_of_ble_eq_true rfl, Nat.le_of_ble_eq_true rfl⟩ rfl (Nat.le_of_ble_eq_true rfl) ⟨by show _ ≤ room_1.cells; omega, by show _ ≤ room_1.slots; omega⟩ (fun r23 w23 hf => ?_)
        refine V_iload X.1 dL_law_622 rfl ?_
        refine V_icmp_eq X.1 (tgt := 629) dL_law_624 (by decide) hf (fun hf => ?_) (fun hf => ?_)
        · refine V_iload X.1 dL_law_629 rfl ?_
          refine V_if_ne X.1 (tgt := 646) dL_law_631 (by decide) hf (fun hf => ?_) (fun hf => ?_)
          · refine V_gload_n X.1 dL_law_634 rfl rfl ?_
            refine V_iconst X.1 dL_law_635 ?_
            refine V_lald X.1 ar_135 dL_law_636 hf (fun hf => ?_)
            refine V_iload X.1 dL_law_637 rfl ?_
            refine V_i2l X.1 dL_law_639 ?_
            refine V_lcmp_eq X.1 (tgt := 646) (pc2 := 641) dL_law_640 rfl dL_law_641 (by decide) hf (fun hf => ?_) (fun hf => ?_)
            · refine V_goto X.1 (tgt := 2066) dL_law_646 (by decide) ?_
              refine V_iinc X.1 dL_law_2066 rfl (by decide) ?_
              refine V_goto X.1 (tgt := 28) dL_law_2069 (by decide) ?_
              exact V_cut [0, 1, 2, 3, 4, 5] rfl (ih r _ _ _ _ (by omega) hf)
            · cases hf
          · refine V_goto X.1 (tgt := 2066) dL_law_646 (by decide) ?_
            refine V_iinc X.1 dL_law_2066 rfl (by decide) ?_
            refine V_goto X.1 (tgt := 28) dL_law_2069 (by decide) ?_
            exact V_cut [0, 1, 2, 3, 4, 5] rfl (ih r _ _ _ _ (by omega) hf)
        · cases hf
      refine ite_c hf (fun h8 hf => ?_) (fun h8 hf => ?_)
      · refine V_tin X.1 (off := 604) (tgt := 649) dL_law_45 8 h8 (by decide) rfl (by decide) ?_
        unfold f_law_c8 at hf
        refine V_gload_n X.1 dL_law_649 rfl rfl ?_
        refine V_aload_n X.1 dL_law_650 rfl rfl ?_
        refine V_iload X.1 dL_law_651 rfl ?_
        refine V_iconst X.1 dL_law_653 ?_
        refine V_iadd X.1 dL_law_654 ?_
        refine V_sld X dL_law_655 hf (fun hf => ?_)
        refine V_aload_n X.1 dL_law_656 rfl rfl ?_
        refine V_iload X.1 dL_law_657 rfl ?_
        refine V_iconst X.1 dL_law_659 ?_
        refine V_iadd X.1 dL_law_660 ?_
        refine V_sld X dL_law_661 hf (fun hf => ?_)
        refine V_aload_n X.1 dL_law_662 rfl rfl ?_
        refine V_iload X.1 dL_law_663 rfl ?_
        refine V_iconst X.1 dL_law_665 ?_
        refine V_iadd X.1 dL_law_666 ?_
        refine V_sld X dL_law_667 hf (fun hf => ?_)
        refine V_aload_n X.1 dL_law_668 rfl rfl ?_
        refine V_iload X.1 dL_law_669 rfl ?_
        refine V_iconst X.1 dL_law_671 ?_
        refine V_iadd X.1 dL_law_672 ?_
        refine V_sld X dL_law_673 hf (fun hf => ?_)
        refine V_gload_n X.1 dL_law_674 rfl rfl ?_
        refine V_lSW X hf [gr G 0, vi (xs (wr (a5 + 1)).toNat), vi (xs (wr (a5 + 2)).toNat), vi (xs (wr (a5 + 3)).toNat), vi (xs (wr (a5 + 4)).toNat), gr G 135] _ 6 (fun _ h => m_L_assign h) tw_857 tw_85 tw_855 tw_856 dL_law_675 ⟨by decide +kernel, by decide +kernel, by decide +kernel⟩ ⟨Nat.le_of_ble_eq_true rfl, Nat.le_of_ble_eq_true rfl⟩ rfl (Nat.le_of_ble_eq_true rfl) ⟨Nat.le_trans (Nat.add_le_add_left (m := 5) (Nat.le_of_ble_eq_true rfl) _) (by omega), Nat.le_trans (Nat.add_le_add_left (m := 30) (Nat.le_of_ble_eq_true rfl) _) (by omega)⟩ (fun r24 w24 hf => ?_)
        refine V_widen (k + 5) (nn + 30) ⟨Nat.add_le_add_left (Nat.le_of_ble_eq_true rfl) _, Nat.add_le_add_left (Nat.le_of_ble_eq_true rfl) _⟩ ?_
        refine V_istore X.1 dL_law_678 (by decide) ?_
        refine V_gload_n X.1 dL_law_680 rfl rfl ?_
        refine V_aload_n X.1 dL_law_681 rfl rfl ?_
        refine V_iload X.1 dL_law_682 rfl ?_
        refine V_iconst X.1 dL_law_684 ?_
        refine V_iadd X.1 dL_law_685 ?_
        refine V_sld X dL_law_686 hf (fun hf => ?_)
        refine V_aload_n X.1 dL_law_687 rfl rfl ?_
        refine V_iload X.1 dL_law_688 rfl ?_
        refine V_iconst X.1 dL_law_690 ?_
        refine V_iadd X.1 dL_law_691 ?_
        refine V_sld X dL_law_692 hf (fun hf => ?_)
        refine V_aload_n X.1 dL_law_693 rfl rfl ?_
        refine V_iload X.1 dL_law_694 rfl ?_
        refine V_iconst X.1 dL_law_696 ?_
        refine V_iadd X.1 dL_law_697 ?_
        refine V_sld X dL_law_698 hf (fun hf => ?_)
        refine V_aload_n X.1 dL_law_699 rfl rfl ?_
        refine V_iload X.1 dL_law_700 rfl ?_
        refine V_iconst X.1 dL_law_702 ?_
        refine V_iadd X.1 dL_law_703 ?_
        refine V_sld X dL_law_704 hf (fun hf => ?_)
        refine V_cVI X.1 hf [vi (xs (wr (a5 + 1)).toNat), vi (xs (wr (a5 + 2)).toNat), vi (xs (wr (a5 + 3)).toNat), vi (xs (wr (a5 + 4)).toNat)] _ 4 (fun _ h => m_X9_assign_ h) ob_85 rfl tw_1635 tw_95 tw_1632 tw_1633 tw_1634 dL_law_705 ⟨by decide +kernel, by decide +kernel, by decide +kernel⟩ ⟨rfl, rfl⟩ ⟨Nat.le_of_ble_eq_true rfl, Nat.le_of_ble_eq_true rfl⟩ rfl (Nat.le_of_ble_eq_true rfl) ⟨by show _ ≤ room_1.cells; omega, by show _ ≤ room_1.slots; omega⟩ (fun r25 w25 hf => ?_)
        refine V_istore X.1 dL_law_708 (by decide) ?_
        refine V_gload_n X.1 dL_law_710 rfl rfl ?_
        refine V_cVI X.1 hf [] _ 0 (fun _ h => m_X9_thrown h) ob_85 rfl tw_1565 tw_95 tw_1562 tw_1563 tw_1564 dL_law_711 ⟨by decide +kernel, by decide +kernel, by decide +kernel⟩ ⟨rfl, rfl⟩ ⟨Nat.le_of_ble_eq_true rfl, Nat.le_of_ble_eq_true rfl⟩ rfl (Nat.le_of_ble_eq_true rfl) ⟨by show _ ≤ room_1.cells; omega, by show _ ≤ room_1.slots; omega⟩ (fun r26 w26 hf => ?_)
        refine V_iload X.1 dL_law_714 rfl ?_
        refine V_icmp_eq X.1 (tgt := 721) dL_law_716 (by decide) hf (fun hf => ?_) (fun hf => ?_)
        · refine V_iload X.1 dL_law_721 rfl ?_
          refine V_if_ne X.1 (tgt := 738) dL_law_723 (by decide) hf (fun hf => ?_) (fun hf => ?_)
          · refine V_gload_n X.1 dL_law_726 rfl rfl ?_
            refine V_iconst X.1 dL_law_727 ?_
            refine V_lald X.1 ar_135 dL_law_728 hf (fun hf => ?_)
            refine V_iload X.1 dL_law_729 rfl ?_
            refine V_i2l X.1 dL_law_731 ?_
            refine V_lcmp_eq X.1 (tgt := 738) (pc2 := 733) dL_law_732 rfl dL_law_733 (by decide) hf (fun hf => ?_) (fun hf => ?_)
            · refine V_goto X.1 (tgt := 2066) dL_law_738 (by decide) ?_
              refine V_iinc X.1 dL_law_2066 rfl (by decide) ?_
              refine V_goto X.1 (tgt := 28) dL_law_2069 (by decide) ?_
              exact V_cut [0, 1, 2, 3, 4, 5] rfl (ih r _ _ _ _ (by omega) hf)
            · cases hf
          · refine V_goto X.1 (tgt := 2066) dL_law_738 (by decide) ?_
            refine V_iinc X.1 dL_law_2066 rfl (by decide) ?_
            refine V_goto X.1 (tgt := 28) dL_law_2069 (by decide) ?_
            exact V_cut [0, 1, 2, 3, 4, 5] rfl (ih r _ _ _ _ (by omega) hf)
        · cases hf
      refine ite_c hf (fun h9 hf => ?_) (fun h9 hf => ?_)
      · refine V_tin X.1 (off := 696) (tgt := 741) dL_law_45 9 h9 (by decide) rfl (by decide) ?_
        unfold f_law_c9 at hf
        refine V_gload_n X.1 dL_law_741 rfl rfl ?_
        refine V_aload_n X.1 dL_law_742 rfl rfl ?_
        refine V_iload X.1 dL_law_743 rfl ?_
        refine V_iconst X.1 dL_law_745 ?_
        refine V_iadd X.1 dL_law_746 ?_
        refine V_sld X dL_law_747 hf (fun hf => ?_)
        refine V_aload_n X.1 dL_law_748 rfl rfl ?_
        refine V_iload X.1 dL_law_749 rfl ?_
        refine V_iconst X.1 dL_law_751 ?_
        refine V_iadd X.1 dL_law_752 ?_
        refine V_sld X dL_law_753 hf (fun hf => ?_)
        refine V_aload_n X.1 dL_law_754 rfl rfl ?_
        refine V_iload X.1 dL_law_755 rfl ?_
        refine V_iconst X.1 dL_law_757 ?_
        refine V_iadd X.1 dL_law_758 ?_
        refine V_sld X dL_law_759 hf (fun hf => ?_)
        refine V_aload_n X.1 dL_law_760 rfl rfl ?_
        refine V_iload X.1 dL_law_761 rfl ?_
        refine V_iconst X.1 dL_law_763 ?_
        refine V_iadd X.1 dL_law_764 ?_
        refine V_sld X dL_law_765 hf (fun hf => ?_)
        refine V_aload_n X.1 dL_law_766 rfl rfl ?_
        refine V_iload X.1 dL_law_767 rfl ?_
        refine V_iconst X.1 dL_law_769 ?_
        refine V_iadd X.1 dL_law_770 ?_
        refine V_sld X dL_law_771 hf (fun hf => ?_)
        refine V_gload_n X.1 dL_law_772 rfl rfl ?_
        refine V_lSW X hf [gr G 0, vi (xs (wr (a5 + 1)).toNat), vi (xs (wr (a5 + 2)).toNat), vi (xs (wr (a5 + 3)).toNat), vi (xs (wr (a5 + 4)).toNat), vi (xs (wr (a5 + 5)).toNat), gr G 135] _ 7 (fun _ h => m_L_scan h) tw_886 tw_85 tw_884 tw_885 dL_law_773 ⟨by decide +kernel, by decide +kernel, by decide +kernel⟩ ⟨Nat.le_of_ble_eq_true rfl, Nat.le_of_ble_eq_true rfl⟩ rfl (Nat.le_of_ble_eq_true rfl) ⟨Nat.le_trans (Nat.add_le_add_left (m := 5) (Nat.le_of_ble_eq_true rfl) _) (by omega), Nat.le_trans (Nat.add_le_add_left (m := 30) (Nat.le_of_ble_eq_true rfl) _) (by omega)⟩ (fun r27 w27 hf => ?_)
        refine V_widen (k + 5) (nn + 30) ⟨Nat.add_le_add_left (Nat.le_of_ble_eq_true rfl) _, Nat.add_le_add_left (Nat.le_of_ble_eq_true rfl) _⟩ ?_
        refine V_istore X.1 dL_law_776 (by decide) ?_
        refine V_gload_n X.1 dL_law_778 rfl rfl ?_
        refine V_aload_n X.1 dL_law_779 rfl rfl ?_
        refine V_iload X.1 dL_law_780 rfl ?_
        refine V_iconst X.1 dL_law_782 ?_
        refine V_iadd X.1 dL_law_783 ?_
        refine V_sld X dL_law_784 hf (fun hf => ?_)
        refine V_aload_n X.1 dL_law_785 rfl rfl ?_
        refine V_iload X.1 dL_law_786 rfl ?_
        refine V_iconst X.1 dL_law_788 ?_
        refine V_iadd X.1 dL_law_789 ?_
        refine V_sld X dL_law_790 hf (fun hf => ?_)
        refine V_aload_n X.1 dL_law_791 rfl rfl ?_
        refine V_iload X.1 dL_law_792 rfl ?_
        refine V_iconst X.1 dL_law_794 ?_
        refine V_iadd X.1 dL_law_795 ?_
        refine V_sld X dL_law_796 hf (fun hf => ?_)
        refine V_aload_n X.1 dL_law_797 rfl rfl ?_
        refine V_iload X.1 dL_law_798 rfl ?_
        refine V_iconst X.1 dL_law_800 ?_
        refine V_iadd X.1 dL_law_801 ?_
        refine V_sld X dL_law_802 hf (fun hf => ?_)
        refine V_aload_n X.1 dL_law_803 rfl rfl ?_
        refine V_iload X.1 dL_law_804 rfl ?_
        refine V_iconst X.1 dL_law_806 ?_
        refine V_iadd X.1 dL_law_807 ?_
        refine V_sld X dL_law_808 hf (fun hf => ?_)
        refine V_cVI X.1 hf [vi (xs (wr (a5 + 1)).toNat), vi (xs (wr (a5 + 2)).toNat), vi (xs (wr (a5 + 3)).toNat), vi (xs (wr (a5 + 4)).toNat), vi (xs (wr (a5 + 5)).toNat)] _ 5 (fun _ h => m_X9_scan h) ob_85 rfl tw_1648 tw_95 tw_1645 tw_1646 tw_1647 dL_law_809 ⟨by decide +kernel, by decide +kernel, by decide +kernel⟩ ⟨rfl, rfl⟩ ⟨Nat.le_of_ble_eq_true rfl, Nat.le_of_ble_eq_true rfl⟩ rfl (Nat.le_of_ble_eq_true rfl) ⟨by show _ ≤ room_1.cells; omega, by show _ ≤ room_1.slots; omega⟩ (fun r28 w28 hf => ?_)
        refine V_istore X.1 dL_law_812 (by decide) ?_
        refine V_gload_n X.1 dL_law_814 rfl rfl ?_
        refine V_cVI X.1 hf [] _ 0 (fun _ h => m_X9_thrown h) ob_85 rfl tw_1565 tw_95 tw_1562 tw_1563 tw_1564 dL_law_815 ⟨by decide +kernel, by decide +kernel, by decide +kernel⟩ ⟨rfl, rfl⟩ ⟨Nat.le_of_ble_eq_true rfl, Nat.le_of_ble_eq_true rfl⟩ rfl (Nat.le_of_ble_eq_true rfl) ⟨by show _ ≤ room_1.cells; omega, by show _ ≤ room_1.slots; omega⟩ (fun r29 w29 hf => ?_)
        refine V_iload X.1 dL_law_818 rfl ?_
        refine V_icmp_eq X.1 (tgt := 825) dL_law_820 (by decide) hf (fun hf => ?_) (fun hf => ?_)
        · refine V_iload X.1 dL_law_825 rfl ?_
          refine V_if_ne X.1 (tgt := 842) dL_law_827 (by decide) hf (fun hf => ?_) (fun hf => ?_)
          · refine V_gload_n X.1 dL_law_830 rfl rfl ?_
            refine V_iconst X.1 dL_law_831 ?_
            refine V_lald X.1 ar_135 dL_law_832 hf (fun hf => ?_)
            refine V_iload X.1 dL_law_833 rfl ?_
            refine V_i2l X.1 dL_law_835 ?_
            refine V_lcmp_eq X.1 (tgt := 842) (pc2 := 837) dL_law_836 rfl dL_law_837 (by decide) hf (fun hf => ?_) (fun hf => ?_)
            · refine V_goto X.1 (tgt := 2066) dL_law_842 (by decide) ?_
              refine V_iinc X.1 dL_law_2066 rfl (by decide) ?_
              refine V_goto X.1 (tgt := 28) dL_law_2069 (by decide) ?_
              exact V_cut [0, 1, 2, 3, 4, 5] rfl (ih r _ _ _ _ (by omega) hf)
            · cases hf
          · refine V_goto X.1 (tgt := 2066) dL_law_842 (by decide) ?_
            refine V_iinc X.1 dL_law_2066 rfl (by decide) ?_
            refine V_goto X.1 (tgt := 28) dL_law_2069 (by decide) ?_
            exact V_cut [0, 1, 2, 3, 4, 5] rfl (ih r _ _ _ _ (by omega) hf)
        · cases hf
      refine ite_c hf (fun h10 hf => ?_) (fun h10 hf => ?_)
      · refine V_tin X.1 (off := 800) (tgt := 845) dL_law_45 10 h10 (by decide) rfl (by decide) ?_
        unfold f_law_c10 at hf
        refine V_gload_n X.1 dL_law_845 rfl rfl ?_
        refine V_aload_n X.1 dL_law_846 rfl rfl ?_
        refine V_iload X.1 dL_law_847 rfl ?_
        refine V_iconst X.1 dL_law_849 ?_
        refine V_iadd X.1 dL_law_850 ?_
        refine V_sld X dL_law_851 hf (fun hf => ?_)
        refine V_aload_n X.1 dL_law_852 rfl rfl ?_
        refine V_iload X.1 dL_law_853 rfl ?_
        refine V_iconst X.1 dL_law_855 ?_
        refine V_iadd X.1 dL_law_856 ?_
        refine V_sld X dL_law_857 hf (fun hf => ?_)
        refine V_aload_n X.1 dL_law_858 rfl rfl ?_
        refine V_iload X.1 dL_law_859 rfl ?_
        refine V_iconst X.1 dL_law_861 ?_
        refine V_iadd X.1 dL_law_862 ?_
        refine V_sld X dL_law_863 hf (fun hf => ?_)
        refine V_aload_n X.1 dL_law_864 rfl rfl ?_
        refine V_iload X.1 dL_law_865 rfl ?_
        refine V_iconst X.1 dL_law_867 ?_
        refine V_iadd X.1 dL_law_868 ?_
        refine V_sld X dL_law_869 hf (fun hf => ?_)
        refine V_aload_n X.1 dL_law_870 rfl rfl ?_
        refine V_iload X.1 dL_law_871 rfl ?_
        refine V_iconst X.1 dL_law_873 ?_
        refine V_iadd X.1 dL_law_874 ?_
        refine V_sld X dL_law_875 hf (fun hf => ?_)
        refine V_gload_n X.1 dL_law_876 rfl rfl ?_
        refine V_lSW X hf [gr G 0, vi (xs (wr (a5 + 1)).toNat), vi (xs (wr (a5 + 2)).toNat), vi (xs (wr (a5 + 3)).toNat), vi (xs (wr (a5 + 4)).toNat), vi (xs (wr (a5 + 5)).toNat), gr G 135] _ 7 (fun _ h => m_L_call h) tw_898 tw_85 tw_896 tw_897 dL_law_877 ⟨by decide +kernel, by decide +kernel, by decide +kernel⟩ ⟨Nat.le_of_ble_eq_true rfl, Nat.le_of_ble_eq_true rfl⟩ rfl (Nat.le_of_ble_eq_true rfl) ⟨Nat.le_trans (Nat.add_le_add_left (m := 5) (Nat.le_of_ble_eq_true rfl) _) (by omega), Nat.le_trans (Nat.add_le_add_left (m := 30) (Nat.le_of_ble_eq_true rfl) _) (by omega)⟩ (fun r30 w30 hf => ?_)
        refine V_widen (k + 5) (nn + 30) ⟨Nat.add_le_add_left (Nat.le_of_ble_eq_true rfl) _, Nat.add_le_add_left (Nat.le_of_ble_eq_true rfl) _⟩ ?_
        refine V_istore X.1 dL_law_880 (by decide) ?_
        refine V_gload_n X.1 dL_law_882 rfl rfl ?_
        refine V_aload_n X.1 dL_law_883 rfl rfl ?_
        refine V_iload X.1 dL_law_884 rfl ?_
        refine V_iconst X.1 dL_law_886 ?_
        refine V_iadd X.1 dL_law_887 ?_
        refine V_sld X dL_law_888 hf (fun hf => ?_)
        refine V_aload_n X.1 dL_law_889 rfl rfl ?_
        refine V_iload X.1 dL_law_890 rfl ?_
        refine V_iconst X.1 dL_law_892 ?_
        refine V_iadd X.1 dL_law_893 ?_
        refine V_sld X dL_law_894 hf (fun hf => ?_)
        refine V_aload_n X.1 dL_law_895 rfl rfl ?_
        refine V_iload X.1 dL_law_896 rfl ?_
        refine V_iconst X.1 dL_law_898 ?_
        refine V_iadd X.1 dL_law_899 ?_
        refine V_sld X dL_law_900 hf (fun hf => ?_)
        refine V_aload_n X.1 dL_law_901 rfl rfl ?_
        refine V_iload X.1 dL_law_902 rfl ?_
        refine V_iconst X.1 dL_law_904 ?_
        refine V_iadd X.1 dL_law_905 ?_
        refine V_sld X dL_law_906 hf (fun hf => ?_)
        refine V_aload_n X.1 dL_law_907 rfl rfl ?_
        refine V_iload X.1 dL_law_908 rfl ?_
        refine V_iconst X.1 dL_law_910 ?_
        refine V_iadd X.1 dL_law_911 ?_
        refine V_sld X dL_law_912 hf (fun hf => ?_)
        refine V_cVI X.1 hf [vi (xs (wr (a5 + 1)).toNat), vi (xs (wr (a5 + 2)).toNat), vi (xs (wr (a5 + 3)).toNat), vi (xs (wr (a5 + 4)).toNat), vi (xs (wr (a5 + 5)).toNat)] _ 5 (fun _ h => m_X9_call h) ob_85 rfl tw_1652 tw_95 tw_1649 tw_1650 tw_1651 dL_law_913 ⟨by decide +kernel, by decide +kernel, by decide +kernel⟩ ⟨rfl, rfl⟩ ⟨Nat.le_of_ble_eq_true rfl, Nat.le_of_ble_eq_true rfl⟩ rfl (Nat.le_of_ble_eq_true rfl) ⟨by show _ ≤ room_1.cells; omega, by show _ ≤ room_1.slots; omega⟩ (fun r31 w31 hf => ?_)
        refine V_istore X.1 dL_law_916 (by decide) ?_
        refine V_gload_n X.1 dL_law_918 rfl rfl ?_
        refine V_cVI X.1 hf [] _ 0 (fun _ h => m_X9_thrown h) ob_85 rfl tw_1565 tw_95 tw_1562 tw_1563 tw_1564 dL_law_919 ⟨by decide +kernel, by decide +kernel, by decide +kernel⟩ ⟨rfl, rfl⟩ ⟨Nat.le_of_ble_eq_true rfl, Nat.le_of_ble_eq_true rfl⟩ rfl (Nat.le_of_ble_eq_true rfl) ⟨by show _ ≤ room_1.cells; omega, by show _ ≤ room_1.slots; omega⟩ (fun r32 w32 hf => ?_)
        refine V_iload X.1 dL_law_922 rfl ?_
        refine V_icmp_eq X.1 (tgt := 929) dL_law_924 (by decide) hf (fun hf => ?_) (fun hf => ?_)
        · refine V_iload X.1 dL_law_929 rfl ?_
          refine V_if_ne X.1 (tgt := 946) dL_law_931 (by decide) hf (fun hf => ?_) (fun hf => ?_)
          · refine V_gload_n X.1 dL_law_934 rfl rfl ?_
            refine V_iconst X.1 dL_law_935 ?_
            refine V_lald X.1 ar_135 dL_law_936 hf (fun hf => ?_)
            refine V_iload X.1 dL_law_937 rfl ?_
            refine V_i2l X.1 dL_law_939 ?_
            refine V_lcmp_eq X.1 (tgt := 946) (pc2 := 941) dL_law_940 rfl dL_law_941 (by decide) hf (fun hf => ?_) (fun hf => ?_)
            · refine V_goto X.1 (tgt := 2066) dL_law_946 (by decide) ?_
              refine V_iinc X.1 dL_law_2066 rfl (by decide) ?_
              refine V_goto X.1 (tgt := 28) dL_law_2069 (by decide) ?_
              exact V_cut [0, 1, 2, 3, 4, 5] rfl (ih r _ _ _ _ (by omega) hf)
            · cases hf
          · refine V_goto X.1 (tgt := 2066) dL_law_946 (by decide) ?_
            refine V_iinc X.1 dL_law_2066 rfl (by decide) ?_
            refine V_goto X.1 (tgt := 28) dL_law_2069 (by decide) ?_
            exact V_cut [0, 1, 2, 3, 4, 5] rfl (ih r _ _ _ _ (by omega) hf)
        · cases hf
      refine ite_c hf (fun h11 hf => ?_) (fun h11 hf => ?_)
      · refine V_tin X.1 (off := 904) (tgt := 949) dL_law_45 11 h11 (by decide) rfl (by decide) ?_
        unfold f_law_c11 at hf
        refine V_gload_n X.1 dL_law_949 rfl rfl ?_
        refine V_aload_n X.1 dL_law_950 rfl rfl ?_
        refine V_iload X.1 dL_law_951 rfl ?_
        refine V_iconst X.1 dL_law_953 ?_
        refine V_iadd X.1 dL_law_954 ?_
        refine V_sld X dL_law_955 hf (fun hf => ?_)
        refine V_aload_n X.1 dL_law_956 rfl rfl ?_
        refine V_iload X.1 dL_law_957 rfl ?_
        refine V_iconst X.1 dL_law_959 ?_
        refine V_iadd X.1 dL_law_960 ?_
        refine V_sld X dL_law_961 hf (fun hf => ?_)
        refine V_aload_n X.1 dL_law_962 rfl rfl ?_
        refine V_iload X.1 dL_law_963 rfl ?_
        refine V_iconst X.1 dL_law_965 ?_
        refine V_iadd X.1 dL_law_966 ?_
        refine V_sld X dL_law_967 hf (fun hf => ?_)
        refine V_aload_n X.1 dL_law_968 rfl rfl ?_
        refine V_iload X.1 dL_law_969 rfl ?_
        refine V_iconst X.1 dL_law_971 ?_
        refine V_iadd X.1 dL_law_972 ?_
        refine V_sld X dL_law_973 hf (fun hf => ?_)
        refine V_aload_n X.1 dL_law_974 rfl rfl ?_
        refine V_iload X.1 dL_law_975 rfl ?_
        refine V_iconst X.1 dL_law_977 ?_
        refine V_iadd X.1 dL_law_978 ?_
        refine V_sld X dL_law_979 hf (fun hf => ?_)
        refine V_gload_n X.1 dL_law_980 rfl rfl ?_
        refine V_lSW X hf [gr G 0, vi (xs (wr (a5 + 1)).toNat), vi (xs (wr (a5 + 2)).toNat), vi (xs (wr (a5 + 3)).toNat), vi (xs (wr (a5 + 4)).toNat), vi (xs (wr (a5 + 5)).toNat), gr G 135] _ 7 (fun _ h => m_L_define h) tw_906 tw_85 tw_904 tw_905 dL_law_981 ⟨by decide +kernel, by decide +kernel, by decide +kernel⟩ ⟨Nat.le_of_ble_eq_true rfl, Nat.le_of_ble_eq_true rfl⟩ rfl (Nat.le_of_ble_eq_true rfl) ⟨Nat.le_trans (Nat.add_le_add_left (m := 5) (Nat.le_of_ble_eq_true rfl) _) (by omega), Nat.le_trans (Nat.add_le_add_left (m := 30) (Nat.le_of_ble_eq_true rfl) _) (by omega)⟩ (fun r33 w33 hf => ?_)
        refine V_widen (k + 5) (nn + 30) ⟨Nat.add_le_add_left (Nat.le_of_ble_eq_true rfl) _, Nat.add_le_add_left (Nat.le_of_ble_eq_true rfl) _⟩ ?_
        refine V_istore X.1 dL_law_984 (by decide) ?_
        refine V_gload_n X.1 dL_law_986 rfl rfl ?_
        refine V_aload_n X.1 dL_law_987 rfl rfl ?_
        refine V_iload X.1 dL_law_988 rfl ?_
        refine V_iconst X.1 dL_law_990 ?_
        refine V_iadd X.1 dL_law_991 ?_
        refine V_sld X dL_law_992 hf (fun hf => ?_)
        refine V_aload_n X.1 dL_law_993 rfl rfl ?_
        refine V_iload X.1 dL_law_994 rfl ?_
        refine V_iconst X.1 dL_law_996 ?_
        refine V_iadd X.1 dL_law_997 ?_
        refine V_sld X dL_law_998 hf (fun hf => ?_)
        refine V_aload_n X.1 dL_law_999 rfl rfl ?_
        refine V_iload X.1 dL_law_1000 rfl ?_
        refine V_iconst X.1 dL_law_1002 ?_
        refine V_iadd X.1 dL_law_1003 ?_
        refine V_sld X dL_law_1004 hf (fun hf => ?_)
        refine V_aload_n X.1 dL_law_1005 rfl rfl ?_
        refine V_iload X.1 dL_law_1006 rfl ?_
        refine V_iconst X.1 dL_law_1008 ?_
        refine V_iadd X.1 dL_law_1009 ?_
        refine V_sld X dL_law_1010 hf (fun hf => ?_)
        refine V_aload_n X.1 dL_law_1011 rfl rfl ?_
        refine V_iload X.1 dL_law_1012 rfl ?_
        refine V_iconst X.1 dL_law_1014 ?_
        refine V_iadd X.1 dL_law_1015 ?_
        refine V_sld X dL_law_1016 hf (fun hf => ?_)
        refine V_cVI X.1 hf [vi (xs (wr (a5 + 1)).toNat), vi (xs (wr (a5 + 2)).toNat), vi (xs (wr (a5 + 3)).toNat), vi (xs (wr (a5 + 4)).toNat), vi (xs (wr (a5 + 5)).toNat)] _ 5 (fun _ h => m_X9_define h) ob_85 rfl tw_1657 tw_95 tw_1654 tw_1655 tw_1656 dL_law_1017 ⟨by decide +kernel, by decide +kernel, by decide +kernel⟩ ⟨rfl, rfl⟩ ⟨Nat.le_of_ble_eq_true rfl, Nat.le_of_ble_eq_true rfl⟩ rfl (Nat.le_of_ble_eq_true rfl) ⟨by show _ ≤ room_1.cells; omega, by show _ ≤ room_1.slots; omega⟩ (fun r34 w34 hf => ?_)
        refine V_istore X.1 dL_law_1020 (by decide) ?_
        refine V_gload_n X.1 dL_law_1022 rfl rfl ?_
        refine V_cVI X.1 hf [] _ 0 (fun _ h => m_X9_thrown h) ob_85 rfl tw_1565 tw_95 tw_1562 tw_1563 tw_1564 dL_law_1023 ⟨by decide +kernel, by decide +kernel, by decide +kernel⟩ ⟨rfl, rfl⟩ ⟨Nat.le_of_ble_eq_true rfl, Nat.le_of_ble_eq_true rfl⟩ rfl (Nat.le_of_ble_eq_true rfl) ⟨by show _ ≤ room_1.cells; omega, by show _ ≤ room_1.slots; omega⟩ (fun r35 w35 hf => ?_)
        refine V_iload X.1 dL_law_1026 rfl ?_
        refine V_icmp_eq X.1 (tgt := 1033) dL_law_1028 (by decide) hf (fun hf => ?_) (fun hf => ?_)
        · refine V_iload X.1 dL_law_1033 rfl ?_
          refine V_if_ne X.1 (tgt := 1057) dL_law_1035 (by decide) hf (fun hf => ?_) (fun hf => ?_)
          · refine V_gload_n X.1 dL_law_1038 rfl rfl ?_
            refine V_iconst X.1 dL_law_1039 ?_
            refine V_lald X.1 ar_135 dL_law_1040 hf (fun hf => ?_)
            refine V_iload X.1 dL_law_1041 rfl ?_
            refine V_if_eq X.1 (tgt := 1050) dL_law_1043 (by decide) hf (fun hf => ?_) (fun hf => ?_)
            · refine V_lconst (a := 0) X.1 dL_law_1050 (by decide) ?_
              refine V_lcmp_eq X.1 (tgt := 1057) (pc2 := 1052) dL_law_1051 rfl dL_law_1052 (by decide) hf (fun hf => ?_) (fun hf => ?_)
              · refine V_goto X.1 (tgt := 2066) dL_law_1057 (by decide) ?_
                refine V_iinc X.1 dL_law_2066 rfl (by decide) ?_
                refine V_goto X.1 (tgt := 28) dL_law_2069 (by decide) ?_
                exact V_cut [0, 1, 2, 3, 4, 5] rfl (ih r _ _ _ _ (by omega) hf)
              · cases hf
            · refine V_lconst (a := 1) X.1 dL_law_1046 (by decide) ?_
              refine V_goto X.1 (tgt := 1051) dL_law_1047 (by decide) ?_
              refine V_lcmp_eq X.1 (tgt := 1057) (pc2 := 1052) dL_law_1051 rfl dL_law_1052 (by decide) hf (fun hf => ?_) (fun hf => ?_)
              · refine V_goto X.1 (tgt := 2066) dL_law_1057 (by decide) ?_
                refine V_iinc X.1 dL_law_2066 rfl (by decide) ?_
                refine V_goto X.1 (tgt := 28) dL_law_2069 (by decide) ?_
                exact V_cut [0, 1, 2, 3, 4, 5] rfl (ih r _ _ _ _ (by omega) hf)
              · cases hf
          · refine V_goto X.1 (tgt := 2066) dL_law_1057 (by decide) ?_
            refine V_iinc X.1 dL_law_2066 rfl (by decide) ?_
            refine V_goto X.1 (tgt := 28) dL_law_2069 (by decide) ?_
            exact V_cut [0, 1, 2, 3, 4, 5] rfl (ih r _ _ _ _ (by omega) hf)
        · cases hf
      refine ite_c hf (fun h12 hf => ?_) (fun h12 hf => ?_)
      · refine V_tin X.1 (off := 1015) (tgt := 1060) dL_law_45 12 h12 (by decide) rfl (by decide) ?_
        unfold f_law_c12 at hf
        refine V_widen (k + 5) (nn + 30) ⟨Nat.le_add_right _ _, Nat.le_add_right _ _⟩ ?_
        refine V_gload_n X.1 dL_law_1060 rfl rfl ?_
        refine V_aload_n X.1 dL_law_1061 rfl rfl ?_
        refine V_iload X.1 dL_law_1062 rfl ?_
        refine V_iconst X.1 dL_law_1064 ?_
        refine V_iadd X.1 dL_law_1065 ?_
        refine V_sld X dL_law_1066 hf (fun hf => ?_)
        refine V_if_eq X.1 (tgt := 1074) dL_law_1067 (by decide) hf (fun hf => ?_) (fun hf => ?_)
        · refine V_iconst X.1 dL_law_1074 ?_
          refine V_cVI X.1 hf [vi 0] _ 1 (fun _ h => m_X8_anchor h) ob_0 rfl tw_474 tw_86 tw_471 tw_472 tw_473 dL_law_1075 ⟨by decide +kernel, by decide +kernel, by decide +kernel⟩ ⟨rfl, rfl⟩ ⟨Nat.le_of_ble_eq_true rfl, Nat.le_of_ble_eq_true rfl⟩ rfl (Nat.le_of_ble_eq_true rfl) ⟨by show _ ≤ room_1.cells; omega, by show _ ≤ room_1.slots; omega⟩ (fun r36 w36 hf => ?_)
          refine V_gload_n X.1 dL_law_1078 rfl rfl ?_
          refine V_aload_n X.1 dL_law_1079 rfl rfl ?_
          refine V_iload X.1 dL_law_1080 rfl ?_
          refine V_iconst X.1 dL_law_1082 ?_
          refine V_iadd X.1 dL_law_1083 ?_
          refine V_sld X dL_law_1084 hf (fun hf => ?_)
          refine V_if_eq X.1 (tgt := 1092) dL_law_1085 (by decide) hf (fun hf => ?_) (fun hf => ?_)
          · refine V_iconst X.1 dL_law_1092 ?_
            refine V_cVI X.1 hf [vi 0] _ 1 (fun _ h => m_X9_anchor h) ob_85 rfl tw_1661 tw_95 tw_1658 tw_1659 tw_1660 dL_law_1093 ⟨by decide +kernel, by decide +kernel, by decide +kernel⟩ ⟨rfl, rfl⟩ ⟨Nat.le_of_ble_eq_true rfl, Nat.le_of_ble_eq_true rfl⟩ rfl (Nat.le_of_ble_eq_true rfl) ⟨by show _ ≤ room_1.cells; omega, by show _ ≤ room_1.slots; omega⟩ (fun r37 w37 hf => ?_)
            refine V_icmp_eq X.1 (tgt := 2066) dL_law_1096 (by decide) hf (fun hf => ?_) (fun hf => ?_)
            · refine V_iinc X.1 dL_law_2066 rfl (by decide) ?_
              refine V_goto X.1 (tgt := 28) dL_law_2069 (by decide) ?_
              exact V_cut [0, 1, 2, 3, 4, 5] rfl (ih r _ _ _ _ (by omega) hf)
            · cases hf
          · refine V_iconst X.1 dL_law_1088 ?_
            refine V_goto X.1 (tgt := 1093) dL_law_1089 (by decide) ?_
            refine V_cVI X.1 hf [vi 1] _ 1 (fun _ h => m_X9_anchor h) ob_85 rfl tw_1661 tw_95 tw_1658 tw_1659 tw_1660 dL_law_1093 ⟨by decide +kernel, by decide +kernel, by decide +kernel⟩ ⟨rfl, rfl⟩ ⟨Nat.le_of_ble_eq_true rfl, Nat.le_of_ble_eq_true rfl⟩ rfl (Nat.le_of_ble_eq_true rfl) ⟨by show _ ≤ room_1.cells; omega, by show _ ≤ room_1.slots; omega⟩ (fun r38 w38 hf => ?_)
            refine V_icmp_eq X.1 (tgt := 2066) dL_law_1096 (by decide) hf (fun hf => ?_) (fun hf => ?_)
            · refine V_iinc X.1 dL_law_2066 rfl (by decide) ?_
              refine V_goto X.1 (tgt := 28) dL_law_2069 (by decide) ?_
              exact V_cut [0, 1, 2, 3, 4, 5] rfl (ih r _ _ _ _ (by omega) hf)
            · cases hf
        · refine V_iconst X.1 dL_law_1070 ?_
          refine V_goto X.1 (tgt := 1075) dL_law_1071 (by decide) ?_
          refine V_cVI X.1 hf [vi 1] _ 1 (fun _ h => m_X8_anchor h) ob_0 rfl tw_474 tw_86 tw_471 tw_472 tw_473 dL_law_1075 ⟨by decide +kernel, by decide +kernel, by decide +kernel⟩ ⟨rfl, rfl⟩ ⟨Nat.le_of_ble_eq_true rfl, Nat.le_of_ble_eq_true rfl⟩ rfl (Nat.le_of_ble_eq_true rfl) ⟨by show _ ≤ room_1.cells; omega, by show _ ≤ room_1.slots; omega⟩ (fun r39 w39 hf => ?_)
          refine V_gload_n X.1 dL_law_1078 rfl rfl ?_
          refine V_aload_n X.1 dL_law_1079 rfl rfl ?_
          refine V_iload X.1 dL_law_1080 rfl ?_
          refine V_iconst X.1 dL_law_1082 ?_
          refine V_iadd X.1 dL_law_1083 ?_
          refine V_sld X dL_law_1084 hf (fun hf => ?_)
          refine V_if_eq X.1 (tgt := 1092) dL_law_1085 (by decide) hf (fun hf => ?_) (fun hf => ?_)
          · refine V_iconst X.1 dL_law_1092 ?_
            refine V_cVI X.1 hf [vi 0] _ 1 (fun _ h => m_X9_anchor h) ob_85 rfl tw_1661 tw_95 tw_1658 tw_1659 tw_1660 dL_law_1093 ⟨by decide +kernel, by decide +kernel, by decide +kernel⟩ ⟨rfl, rfl⟩ ⟨Nat.le_of_ble_eq_true rfl, Nat.le_of_ble_eq_true rfl⟩ rfl (Nat.le_of_ble_eq_true rfl) ⟨by show _ ≤ room_1.cells; omega, by show _ ≤ room_1.slots; omega⟩ (fun r40 w40 hf => ?_)
            refine V_icmp_eq X.1 (tgt := 2066) dL_law_1096 (by decide) hf (fun hf => ?_) (fun hf => ?_)
            · refine V_iinc X.1 dL_law_2066 rfl (by decide) ?_
              refine V_goto X.1 (tgt := 28) dL_law_2069 (by decide) ?_
              exact V_cut [0, 1, 2, 3, 4, 5] rfl (ih r _ _ _ _ (by omega) hf)
            · cases hf
          · refine V_iconst X.1 dL_law_1088 ?_
            refine V_goto X.1 (tgt := 1093) dL_law_1089 (by decide) ?_
            refine V_cVI X.1 hf [vi 1] _ 1 (fun _ h => m_X9_anchor h) ob_85 rfl tw_1661 tw_95 tw_1658 tw_1659 tw_1660 dL_law_1093 ⟨by decide +kernel, by decide +kernel, by decide +kernel⟩ ⟨rfl, rfl⟩ ⟨Nat.le_of_ble_eq_true rfl, Nat.le_of_ble_eq_true rfl⟩ rfl (Nat.le_of_ble_eq_true rfl) ⟨by show _ ≤ room_1.cells; omega, by show _ ≤ room_1.slots; omega⟩ (fun r41 w41 hf => ?_)
            refine V_icmp_eq X.1 (tgt := 2066) dL_law_1096 (by decide) hf (fun hf => ?_) (fun hf => ?_)
            · refine V_iinc X.1 dL_law_2066 rfl (by decide) ?_
              refine V_goto X.1 (tgt := 28) dL_law_2069 (by decide) ?_
              exact V_cut [0, 1, 2, 3, 4, 5] rfl (ih r _ _ _ _ (by omega) hf)
            · cases hf
      refine ite_c hf (fun h13 hf => ?_) (fun h13 hf => ?_)
      · refine V_tin X.1 (off := 1056) (tgt := 1101) dL_law_45 13 h13 (by decide) rfl (by decide) ?_
        unfold f_law_c13 at hf
        refine V_gload_n X.1 dL_law_1101 rfl rfl ?_
        refine V_aload_n X.1 dL_law_1102 rfl rfl ?_
        refine V_iload X.1 dL_law_1103 rfl ?_
        refine V_iconst X.1 dL_law_1105 ?_
        refine V_iadd X.1 dL_law_1106 ?_
        refine V_sld X dL_law_1107 hf (fun hf => ?_)
        refine V_aload_n X.1 dL_law_1108 rfl rfl ?_
        refine V_iload X.1 dL_law_1109 rfl ?_
        refine V_iconst X.1 dL_law_1111 ?_
        refine V_iadd X.1 dL_law_1112 ?_
        refine V_sld X dL_law_1113 hf (fun hf => ?_)
        refine V_gload_n X.1 dL_law_1114 rfl rfl ?_
        refine V_lSW X hf [gr G 0, vi (xs (wr (a5 + 1)).toNat), vi (xs (wr (a5 + 2)).toNat), gr G 135] _ 4 (fun _ h => m_L_run h) tw_920 tw_85 tw_918 tw_919 dL_law_1115 ⟨by decide +kernel, by decide +kernel, by decide +kernel⟩ ⟨Nat.le_of_ble_eq_true rfl, Nat.le_of_ble_eq_true rfl⟩ rfl (Nat.le_of_ble_eq_true rfl) ⟨Nat.le_trans (Nat.add_le_add_left (m := 5) (Nat.le_of_ble_eq_true rfl) _) (by omega), Nat.le_trans (Nat.add_le_add_left (m := 30) (Nat.le_of_ble_eq_true rfl) _) (by omega)⟩ (fun r42 w42 hf => ?_)
        refine V_widen (k + 5) (nn + 30) ⟨Nat.add_le_add_left (Nat.le_of_ble_eq_true rfl) _, Nat.add_le_add_left (Nat.le_of_ble_eq_true rfl) _⟩ ?_
        refine V_istore X.1 dL_law_1118 (by decide) ?_
        refine V_gload_n X.1 dL_law_1120 rfl rfl ?_
        refine V_aload_n X.1 dL_law_1121 rfl rfl ?_
        refine V_iload X.1 dL_law_1122 rfl ?_
        refine V_iconst X.1 dL_law_1124 ?_
        refine V_iadd X.1 dL_law_1125 ?_
        refine V_sld X dL_law_1126 hf (fun hf => ?_)
        refine V_aload_n X.1 dL_law_1127 rfl rfl ?_
        refine V_iload X.1 dL_law_1128 rfl ?_
        refine V_iconst X.1 dL_law_1130 ?_
        refine V_iadd X.1 dL_law_1131 ?_
        refine V_sld X dL_law_1132 hf (fun hf => ?_)
        refine V_cVI X.1 hf [vi (xs (wr (a5 + 1)).toNat), vi (xs (wr (a5 + 2)).toNat)] _ 2 (fun _ h => m_X9_run h) ob_85 rfl tw_1665 tw_95 tw_1662 tw_1663 tw_1664 dL_law_1133 ⟨by decide +kernel, by decide +kernel, by decide +kernel⟩ ⟨rfl, rfl⟩ ⟨Nat.le_of_ble_eq_true rfl, Nat.le_of_ble_eq_true rfl⟩ rfl (Nat.le_of_ble_eq_true rfl) ⟨by show _ ≤ room_1.cells; omega, by show _ ≤ room_1.slots; omega⟩ (fun r43 w43 hf => ?_)
        refine V_istore X.1 dL_law_1136 (by decide) ?_
        refine V_gload_n X.1 dL_law_1138 rfl rfl ?_
        refine V_cVI X.1 hf [] _ 0 (fun _ h => m_X9_thrown h) ob_85 rfl tw_1565 tw_95 tw_1562 tw_1563 tw_1564 dL_law_1139 ⟨by decide +kernel, by decide +kernel, by decide +kernel⟩ ⟨rfl, rfl⟩ ⟨Nat.le_of_ble_eq_true rfl, Nat.le_of_ble_eq_true rfl⟩ rfl (Nat.le_of_ble_eq_true rfl) ⟨by show _ ≤ room_1.cells; omega, by show _ ≤ room_1.slots; omega⟩ (fun r44 w44 hf => ?_)
        refine V_iload X.1 dL_law_1142 rfl ?_
        refine V_icmp_eq X.1 (tgt := 1149) dL_law_1144 (by decide) hf (fun hf => ?_) (fun hf => ?_)
        · refine V_iload X.1 dL_law_1149 rfl ?_
          refine V_if_ne X.1 (tgt := 1166) dL_law_1151 (by decide) hf (fun hf => ?_) (fun hf => ?_)
          · refine V_gload_n X.1 dL_law_1154 rfl rfl ?_
            refine V_iconst X.1 dL_law_1155 ?_
            refine V_lald X.1 ar_135 dL_law_1156 hf (fun hf => ?_)
            refine V_iload X.1 dL_law_1157 rfl ?_
            refine V_i2l X.1 dL_law_1159 ?_
            refine V_lcmp_eq X.1 (tgt := 1166) (pc2 := 1161) dL_law_1160 rfl dL_law_1161 (by decide) hf (fun hf => ?_) (fun hf => ?_)
            · refine V_goto X.1 (tgt := 2066) dL_law_1166 (by decide) ?_
              refine V_iinc X.1 dL_law_2066 rfl (by decide) ?_
              refine V_goto X.1 (tgt := 28) dL_law_2069 (by decide) ?_
              exact V_cut [0, 1, 2, 3, 4, 5] rfl (ih r _ _ _ _ (by omega) hf)
            · cases hf
          · refine V_goto X.1 (tgt := 2066) dL_law_1166 (by decide) ?_
            refine V_iinc X.1 dL_law_2066 rfl (by decide) ?_
            refine V_goto X.1 (tgt := 28) dL_law_2069 (by decide) ?_
            exact V_cut [0, 1, 2, 3, 4, 5] rfl (ih r _ _ _ _ (by omega) hf)
        · cases hf
      refine ite_c hf (fun h14 hf => ?_) (fun h14 hf => ?_)
      · refine V_tin X.1 (off := 1124) (tgt := 1169) dL_law_45 14 h14 (by decide) rfl (by decide) ?_
        unfold f_law_c14 at hf
        refine V_gload_n X.1 dL_law_1169 rfl rfl ?_
        refine V_gload_n X.1 dL_law_1170 rfl rfl ?_
        refine V_lSW X hf [gr G 0, gr G 135] _ 2 (fun _ h => m_L_error h) tw_1148 tw_85 tw_1146 tw_1147 dL_law_1171 ⟨by decide +kernel, by decide +kernel, by decide +kernel⟩ ⟨Nat.le_of_ble_eq_true rfl, Nat.le_of_ble_eq_true rfl⟩ rfl (Nat.le_of_ble_eq_true rfl) ⟨Nat.le_trans (Nat.add_le_add_left (m := 5) (Nat.le_of_ble_eq_true rfl) _) (by omega), Nat.le_trans (Nat.add_le_add_left (m := 30) (Nat.le_of_ble_eq_true rfl) _) (by omega)⟩ (fun r45 w45 hf => ?_)
        refine V_widen (k + 5) (nn + 30) ⟨Nat.add_le_add_left (Nat.le_of_ble_eq_true rfl) _, Nat.add_le_add_left (Nat.le_of_ble_eq_true rfl) _⟩ ?_
        refine V_istore X.1 dL_law_1174 (by decide) ?_
        refine V_gload_n X.1 dL_law_1176 rfl rfl ?_
        refine V_cVI X.1 hf [] _ 0 (fun _ h => m_X9_error h) ob_85 rfl tw_1825 tw_95 tw_1822 tw_1823 tw_1824 dL_law_1177 ⟨by decide +kernel, by decide +kernel, by decide +kernel⟩ ⟨rfl, rfl⟩ ⟨Nat.le_of_ble_eq_true rfl, Nat.le_of_ble_eq_true rfl⟩ rfl (Nat.le_of_ble_eq_true rfl) ⟨by show _ ≤ room_1.cells; omega, by show _ ≤ room_1.slots; omega⟩ (fun r46 w46 hf => ?_)
        refine V_istore X.1 dL_law_1180 (by decide) ?_
        refine V_gload_n X.1 dL_law_1182 rfl rfl ?_
        refine V_cVI X.1 hf [] _ 0 (fun _ h => m_X9_thrown h) ob_85 rfl tw_1565 tw_95 tw_1562 tw_1563 tw_1564 dL_law_1183 ⟨by decide +kernel, by decide +kernel, by decide +kernel⟩ ⟨rfl, rfl⟩ ⟨Nat.le_of_ble_eq_true rfl, Nat.le_of_ble_eq_true rfl⟩ rfl (Nat.le_of_ble_eq_true rfl) ⟨by show _ ≤ room_1.cells; omega, by show _ ≤ room_1.slots; omega⟩ (fun r47 w47 hf => ?_)
        refine V_iload X.1 dL_law_1186 rfl ?_
        refine V_icmp_eq X.1 (tgt := 1193) dL_law_1188 (by decide) hf (fun hf => ?_) (fun hf => ?_)
        · refine V_iload X.1 dL_law_1193 rfl ?_
          refine V_if_ne X.1 (tgt := 1210) dL_law_1195 (by decide) hf (fun hf => ?_) (fun hf => ?_)
          · refine V_gload_n X.1 dL_law_1198 rfl rfl ?_
            refine V_iconst X.1 dL_law_1199 ?_
            refine V_lald X.1 ar_135 dL_law_1200 hf (fun hf => ?_)
            refine V_iload X.1 dL_law_1201 rfl ?_
            refine V_i2l X.1 dL_law_1203 ?_
            refine V_lcmp_eq X.1 (tgt := 1210) (pc2 := 1205) dL_law_1204 rfl dL_law_1205 (by decide) hf (fun hf => ?_) (fun hf => ?_)
            · refine V_goto X.1 (tgt := 2066) dL_law_1210 (by decide) ?_
              refine V_iinc X.1 dL_law_2066 rfl (by decide) ?_
              refine V_goto X.1 (tgt := 28) dL_law_2069 (by decide) ?_
              exact V_cut [0, 1, 2, 3, 4, 5] rfl (ih r _ _ _ _ (by omega) hf)
            · cases hf
          · refine V_goto X.1 (tgt := 2066) dL_law_1210 (by decide) ?_
            refine V_iinc X.1 dL_law_2066 rfl (by decide) ?_
            refine V_goto X.1 (tgt := 28) dL_law_2069 (by decide) ?_
            exact V_cut [0, 1, 2, 3, 4, 5] rfl (ih r _ _ _ _ (by omega) hf)
        · cases hf
      refine ite_c hf (fun h15 hf => ?_) (fun h15 hf => ?_)
      · refine V_tin X.1 (off := 1168) (tgt := 1213) dL_law_45 15 h15 (by decide) rfl (by decide) ?_
        unfold f_law_c15 at hf
        refine V_gload_n X.1 dL_law_1213 rfl rfl ?_
        refine V_gload_n X.1 dL_law_1214 rfl rfl ?_
        refine V_lSW X hf [gr G 0, gr G 135] _ 2 (fun _ h => m_L_last h) tw_1161 tw_85 tw_1159 tw_1160 dL_law_1215 ⟨by decide +kernel, by decide +kernel, by decide +kernel⟩ ⟨Nat.le_of_ble_eq_true rfl, Nat.le_of_ble_eq_true rfl⟩ rfl (Nat.le_of_ble_eq_true rfl) ⟨Nat.le_trans (Nat.add_le_add_left (m := 5) (Nat.le_of_ble_eq_true rfl) _) (by omega), Nat.le_trans (Nat.add_le_add_left (m := 30) (Nat.le_of_ble_eq_true rfl) _) (by omega)⟩ (fun r48 w48 hf => ?_)
        refine V_widen (k + 5) (nn + 30) ⟨Nat.add_le_add_left (Nat.le_of_ble_eq_true rfl) _, Nat.add_le_add_left (Nat.le_of_ble_eq_true rfl) _⟩ ?_
        refine V_istore X.1 dL_law_1218 (by decide) ?_
        refine V_gload_n X.1 dL_law_1220 rfl rfl ?_
        refine V_cVI X.1 hf [] _ 0 (fun _ h => m_X9_last h) ob_85 rfl tw_1833 tw_95 tw_1830 tw_1831 tw_1832 dL_law_1221 ⟨by decide +kernel, by decide +kernel, by decide +kernel⟩ ⟨rfl, rfl⟩ ⟨Nat.le_of_ble_eq_true rfl, Nat.le_of_ble_eq_true rfl⟩ rfl (Nat.le_of_ble_eq_true rfl) ⟨by show _ ≤ room_1.cells; omega, by show _ ≤ room_1.slots; omega⟩ (fun r49 w49 hf => ?_)
        refine V_istore X.1 dL_law_1224 (by decide) ?_
        refine V_gload_n X.1 dL_law_1226 rfl rfl ?_
        refine V_cVI X.1 hf [] _ 0 (fun _ h => m_X9_thrown h) ob_85 rfl tw_1565 tw_95 tw_1562 tw_1563 tw_1564 dL_law_1227 ⟨by decide +kernel, by decide +kernel, by decide +kernel⟩ ⟨rfl, rfl⟩ ⟨Nat.le_of_ble_eq_true rfl, Nat.le_of_ble_eq_true rfl⟩ rfl (Nat.le_of_ble_eq_true rfl) ⟨by show _ ≤ room_1.cells; omega, by show _ ≤ room_1.slots; omega⟩ (fun r50 w50 hf => ?_)
        refine V_iload X.1 dL_law_1230 rfl ?_
        refine V_icmp_eq X.1 (tgt := 1237) dL_law_1232 (by decide) hf (fun hf => ?_) (fun hf => ?_)
        · refine V_iload X.1 dL_law_1237 rfl ?_
          refine V_if_ne X.1 (tgt := 1254) dL_law_1239 (by decide) hf (fun hf => ?_) (fun hf => ?_)
          · refine V_gload_n X.1 dL_law_1242 rfl rfl ?_
            refine V_iconst X.1 dL_law_1243 ?_
            refine V_lald X.1 ar_135 dL_law_1244 hf (fun hf => ?_)
            refine V_iload X.1 dL_law_1245 rfl ?_
            refine V_i2l X.1 dL_law_1247 ?_
            refine V_lcmp_eq X.1 (tgt := 1254) (pc2 := 1249) dL_law_1248 rfl dL_law_1249 (by decide) hf (fun hf => ?_) (fun hf => ?_)
            · refine V_goto X.1 (tgt := 2066) dL_law_1254 (by decide) ?_
              refine V_iinc X.1 dL_law_2066 rfl (by decide) ?_
              refine V_goto X.1 (tgt := 28) dL_law_2069 (by decide) ?_
              exact V_cut [0, 1, 2, 3, 4, 5] rfl (ih r _ _ _ _ (by omega) hf)
            · cases hf
          · refine V_goto X.1 (tgt := 2066) dL_law_1254 (by decide) ?_
            refine V_iinc X.1 dL_law_2066 rfl (by decide) ?_
            refine V_goto X.1 (tgt := 28) dL_law_2069 (by decide) ?_
            exact V_cut [0, 1, 2, 3, 4, 5] rfl (ih r _ _ _ _ (by omega) hf)
        · cases hf
      refine ite_c hf (fun h16 hf => ?_) (fun h16 hf => ?_)
      · refine V_tin X.1 (off := 1212) (tgt := 1257) dL_law_45 16 h16 (by decide) rfl (by decide) ?_
        unfold f_law_c16 at hf
        refine V_gload_n X.1 dL_law_1257 rfl rfl ?_
        refine V_gload_n X.1 dL_law_1258 rfl rfl ?_
        refine V_lSW X hf [gr G 0, gr G 135] _ 2 (fun _ h => m_L_steps h) tw_1168 tw_85 tw_1166 tw_1167 dL_law_1259 ⟨by decide +kernel, by decide +kernel, by decide +kernel⟩ ⟨Nat.le_of_ble_eq_true rfl, Nat.le_of_ble_eq_true rfl⟩ rfl (Nat.le_of_ble_eq_true rfl) ⟨Nat.le_trans (Nat.add_le_add_left (m := 5) (Nat.le_of_ble_eq_true rfl) _) (by omega), Nat.le_trans (Nat.add_le_add_left (m := 30) (Nat.le_of_ble_eq_true rfl) _) (by omega)⟩ (fun r51 w51 hf => ?_)
        refine V_widen (k + 5) (nn + 30) ⟨Nat.add_le_add_left (Nat.le_of_ble_eq_true rfl) _, Nat.add_le_add_left (Nat.le_of_ble_eq_true rfl) _⟩ ?_
        refine V_istore X.1 dL_law_1262 (by decide) ?_
        refine V_gload_n X.1 dL_law_1264 rfl rfl ?_
        refine V_cVI X.1 hf [] _ 0 (fun _ h => m_X9_steps h) ob_85 rfl tw_1837 tw_95 tw_1834 tw_1835 tw_1836 dL_law_1265 ⟨by decide +kernel, by decide +kernel, by decide +kernel⟩ ⟨rfl, rfl⟩ ⟨Nat.le_of_ble_eq_true rfl, Nat.le_of_ble_eq_true rfl⟩ rfl (Nat.le_of_ble_eq_true rfl) ⟨by show _ ≤ room_1.cells; omega, by show _ ≤ room_1.slots; omega⟩ (fun r52 w52 hf => ?_)
        refine V_istore X.1 dL_law_1268 (by decide) ?_
        refine V_gload_n X.1 dL_law_1270 rfl rfl ?_
        refine V_cVI X.1 hf [] _ 0 (fun _ h => m_X9_thrown h) ob_85 rfl tw_1565 tw_95 tw_1562 tw_1563 tw_1564 dL_law_1271 ⟨by decide +kernel, by decide +kernel, by decide +kernel⟩ ⟨rfl, rfl⟩ ⟨Nat.le_of_ble_eq_true rfl, Nat.le_of_ble_eq_true rfl⟩ rfl (Nat.le_of_ble_eq_true rfl) ⟨by show _ ≤ room_1.cells; omega, by show _ ≤ room_1.slots; omega⟩ (fun r53 w53 hf => ?_)
        refine V_iload X.1 dL_law_1274 rfl ?_
        refine V_icmp_eq X.1 (tgt := 1281) dL_law_1276 (by decide) hf (fun hf => ?_) (fun hf => ?_)
        · refine V_iload X.1 dL_law_1281 rfl ?_
          refine V_if_ne X.1 (tgt := 1298) dL_law_1283 (by decide) hf (fun hf => ?_) (fun hf => ?_)
          · refine V_gload_n X.1 dL_law_1286 rfl rfl ?_
            refine V_iconst X.1 dL_law_1287 ?_
            refine V_lald X.1 ar_135 dL_law_1288 hf (fun hf => ?_)
            refine V_iload X.1 dL_law_1289 rfl ?_
            refine V_i2l X.1 dL_law_1291 ?_
            refine V_lcmp_eq X.1 (tgt := 1298) (pc2 := 1293) dL_law_1292 rfl dL_law_1293 (by decide) hf (fun hf => ?_) (fun hf => ?_)
            · refine V_goto X.1 (tgt := 2066) dL_law_1298 (by decide) ?_
              refine V_iinc X.1 dL_law_2066 rfl (by decide) ?_
              refine V_goto X.1 (tgt := 28) dL_law_2069 (by decide) ?_
              exact V_cut [0, 1, 2, 3, 4, 5] rfl (ih r _ _ _ _ (by omega) hf)
            · cases hf
          · refine V_goto X.1 (tgt := 2066) dL_law_1298 (by decide) ?_
            refine V_iinc X.1 dL_law_2066 rfl (by decide) ?_
            refine V_goto X.1 (tgt := 28) dL_law_2069 (by decide) ?_
            exact V_cut [0, 1, 2, 3, 4, 5] rfl (ih r _ _ _ _ (by omega) hf)
        · cases hf
      refine ite_c hf (fun h17 hf => ?_) (fun h17 hf => ?_)
      · refine V_tin X.1 (off := 1256) (tgt := 1301) dL_law_45 17 h17 (by decide) rfl (by decide) ?_
        unfold f_law_c17 at hf
        refine V_gload_n X.1 dL_law_1301 rfl rfl ?_
        refine V_aload_n X.1 dL_law_1302 rfl rfl ?_
        refine V_iload X.1 dL_law_1303 rfl ?_
        refine V_iconst X.1 dL_law_1305 ?_
        refine V_iadd X.1 dL_law_1306 ?_
        refine V_sld X dL_law_1307 hf (fun hf => ?_)
        refine V_gload_n X.1 dL_law_1308 rfl rfl ?_
        refine V_lSW X hf [gr G 0, vi (xs (wr (a5 + 1)).toNat), gr G 135] _ 3 (fun _ h => m_L_done h) tw_1175 tw_85 tw_1173 tw_1174 dL_law_1309 ⟨by decide +kernel, by decide +kernel, by decide +kernel⟩ ⟨Nat.le_of_ble_eq_true rfl, Nat.le_of_ble_eq_true rfl⟩ rfl (Nat.le_of_ble_eq_true rfl) ⟨Nat.le_trans (Nat.add_le_add_left (m := 5) (Nat.le_of_ble_eq_true rfl) _) (by omega), Nat.le_trans (Nat.add_le_add_left (m := 30) (Nat.le_of_ble_eq_true rfl) _) (by omega)⟩ (fun r54 w54 hf => ?_)
        refine V_widen (k + 5) (nn + 30) ⟨Nat.add_le_add_left (Nat.le_of_ble_eq_true rfl) _, Nat.add_le_add_left (Nat.le_of_ble_eq_true rfl) _⟩ ?_
        refine V_istore X.1 dL_law_1312 (by decide) ?_
        refine V_gload_n X.1 dL_law_1314 rfl rfl ?_
        refine V_aload_n X.1 dL_law_1315 rfl rfl ?_
        refine V_iload X.1 dL_law_1316 rfl ?_
        refine V_iconst X.1 dL_law_1318 ?_
        refine V_iadd X.1 dL_law_1319 ?_
        refine V_sld X dL_law_1320 hf (fun hf => ?_)
        refine V_cVI X.1 hf [vi (xs (wr (a5 + 1)).toNat)] _ 1 (fun _ h => m_X9_done h) ob_85 rfl tw_1841 tw_95 tw_1838 tw_1839 tw_1840 dL_law_1321 ⟨by decide +kernel, by decide +kernel, by decide +kernel⟩ ⟨rfl, rfl⟩ ⟨Nat.le_of_ble_eq_true rfl, Nat.le_of_ble_eq_true rfl⟩ rfl (Nat.le_of_ble_eq_true rfl) ⟨by show _ ≤ room_1.cells; omega, by show _ ≤ room_1.slots; omega⟩ (fun r55 w55 hf => ?_)
        refine V_istore X.1 dL_law_1324 (by decide) ?_
        refine V_gload_n X.1 dL_law_1326 rfl rfl ?_
        refine V_cVI X.1 hf [] _ 0 (fun _ h => m_X9_thrown h) ob_85 rfl tw_1565 tw_95 tw_1562 tw_1563 tw_1564 dL_law_1327 ⟨by decide +kernel, by decide +kernel, by decide +kernel⟩ ⟨rfl, rfl⟩ ⟨Nat.le_of_ble_eq_true rfl, Nat.le_of_ble_eq_true rfl⟩ rfl (Nat.le_of_ble_eq_true rfl) ⟨by show _ ≤ room_1.cells; omega, by show _ ≤ room_1.slots; omega⟩ (fun r56 w56 hf => ?_)
        refine V_iload X.1 dL_law_1330 rfl ?_
        refine V_icmp_eq X.1 (tgt := 1337) dL_law_1332 (by decide) hf (fun hf => ?_) (fun hf => ?_)
        · refine V_iload X.1 dL_law_1337 rfl ?_
          refine V_if_ne X.1 (tgt := 1354) dL_law_1339 (by decide) hf (fun hf => ?_) (fun hf => ?_)
          · refine V_gload_n X.1 dL_law_1342 rfl rfl ?_
            refine V_iconst X.1 dL_law_1343 ?_
            refine V_lald X.1 ar_135 dL_law_1344 hf (fun hf => ?_)
            refine V_iload X.1 dL_law_1345 rfl ?_
            refine V_i2l X.1 dL_law_1347 ?_
            refine V_lcmp_eq X.1 (tgt := 1354) (pc2 := 1349) dL_law_1348 rfl dL_law_1349 (by decide) hf (fun hf => ?_) (fun hf => ?_)
            · refine V_goto X.1 (tgt := 2066) dL_law_1354 (by decide) ?_
              refine V_iinc X.1 dL_law_2066 rfl (by decide) ?_
              refine V_goto X.1 (tgt := 28) dL_law_2069 (by decide) ?_
              exact V_cut [0, 1, 2, 3, 4, 5] rfl (ih r _ _ _ _ (by omega) hf)
            · cases hf
          · refine V_goto X.1 (tgt := 2066) dL_law_1354 (by decide) ?_
            refine V_iinc X.1 dL_law_2066 rfl (by decide) ?_
            refine V_goto X.1 (tgt := 28) dL_law_2069 (by decide) ?_
            exact V_cut [0, 1, 2, 3, 4, 5] rfl (ih r _ _ _ _ (by omega) hf)
        · cases hf
      refine ite_c hf (fun h18 hf => ?_) (fun h18 hf => ?_)
      · refine V_tin X.1 (off := 1312) (tgt := 1357) dL_law_45 18 h18 (by decide) rfl (by decide) ?_
        unfold f_law_c18 at hf
        refine V_gload_n X.1 dL_law_1357 rfl rfl ?_
        refine V_aload_n X.1 dL_law_1358 rfl rfl ?_
        refine V_iload X.1 dL_law_1359 rfl ?_
        refine V_iconst X.1 dL_law_1361 ?_
        refine V_iadd X.1 dL_law_1362 ?_
        refine V_sld X dL_law_1363 hf (fun hf => ?_)
        refine V_gload_n X.1 dL_law_1364 rfl rfl ?_
        refine V_lSW X hf [gr G 0, vi (xs (wr (a5 + 1)).toNat), gr G 135] _ 3 (fun _ h => m_L_failed h) tw_1183 tw_85 tw_1181 tw_1182 dL_law_1365 ⟨by decide +kernel, by decide +kernel, by decide +kernel⟩ ⟨Nat.le_of_ble_eq_true rfl, Nat.le_of_ble_eq_true rfl⟩ rfl (Nat.le_of_ble_eq_true rfl) ⟨Nat.le_trans (Nat.add_le_add_left (m := 5) (Nat.le_of_ble_eq_true rfl) _) (by omega), Nat.le_trans (Nat.add_le_add_left (m := 30) (Nat.le_of_ble_eq_true rfl) _) (by omega)⟩ (fun r57 w57 hf => ?_)
        refine V_widen (k + 5) (nn + 30) ⟨Nat.add_le_add_left (Nat.le_of_ble_eq_true rfl) _, Nat.add_le_add_left (Nat.le_of_ble_eq_true rfl) _⟩ ?_
        refine V_istore X.1 dL_law_1368 (by decide) ?_
        refine V_gload_n X.1 dL_law_1370 rfl rfl ?_
        refine V_aload_n X.1 dL_law_1371 rfl rfl ?_
        refine V_iload X.1 dL_law_1372 rfl ?_
        refine V_iconst X.1 dL_law_1374 ?_
        refine V_iadd X.1 dL_law_1375 ?_
        refine V_sld X dL_law_1376 hf (fun hf => ?_)
        refine V_cVI X.1 hf [vi (xs (wr (a5 + 1)).toNat)] _ 1 (fun _ h => m_X9_failed h) ob_85 rfl tw_1845 tw_95 tw_1842 tw_1843 tw_1844 dL_law_1377 ⟨by decide +kernel, by decide +kernel, by decide +kernel⟩ ⟨rfl, rfl⟩ ⟨Nat.le_of_ble_eq_true rfl, Nat.le_of_ble_eq_true rfl⟩ rfl (Nat.le_of_ble_eq_true rfl) ⟨by show _ ≤ room_1.cells; omega, by show _ ≤ room_1.slots; omega⟩ (fun r58 w58 hf => ?_)
        refine V_istore X.1 dL_law_1380 (by decide) ?_
        refine V_gload_n X.1 dL_law_1382 rfl rfl ?_
        refine V_cVI X.1 hf [] _ 0 (fun _ h => m_X9_thrown h) ob_85 rfl tw_1565 tw_95 tw_1562 tw_1563 tw_1564 dL_law_1383 ⟨by decide +kernel, by decide +kernel, by decide +kernel⟩ ⟨rfl, rfl⟩ ⟨Nat.le_of_ble_eq_true rfl, Nat.le_of_ble_eq_true rfl⟩ rfl (Nat.le_of_ble_eq_true rfl) ⟨by show _ ≤ room_1.cells; omega, by show _ ≤ room_1.slots; omega⟩ (fun r59 w59 hf => ?_)
        refine V_iload X.1 dL_law_1386 rfl ?_
        refine V_icmp_eq X.1 (tgt := 1393) dL_law_1388 (by decide) hf (fun hf => ?_) (fun hf => ?_)
        · refine V_iload X.1 dL_law_1393 rfl ?_
          refine V_if_ne X.1 (tgt := 1410) dL_law_1395 (by decide) hf (fun hf => ?_) (fun hf => ?_)
          · refine V_gload_n X.1 dL_law_1398 rfl rfl ?_
            refine V_iconst X.1 dL_law_1399 ?_
            refine V_lald X.1 ar_135 dL_law_1400 hf (fun hf => ?_)
            refine V_iload X.1 dL_law_1401 rfl ?_
            refine V_i2l X.1 dL_law_1403 ?_
            refine V_lcmp_eq X.1 (tgt := 1410) (pc2 := 1405) dL_law_1404 rfl dL_law_1405 (by decide) hf (fun hf => ?_) (fun hf => ?_)
            · refine V_goto X.1 (tgt := 2066) dL_law_1410 (by decide) ?_
              refine V_iinc X.1 dL_law_2066 rfl (by decide) ?_
              refine V_goto X.1 (tgt := 28) dL_law_2069 (by decide) ?_
              exact V_cut [0, 1, 2, 3, 4, 5] rfl (ih r _ _ _ _ (by omega) hf)
            · cases hf
          · refine V_goto X.1 (tgt := 2066) dL_law_1410 (by decide) ?_
            refine V_iinc X.1 dL_law_2066 rfl (by decide) ?_
            refine V_goto X.1 (tgt := 28) dL_law_2069 (by decide) ?_
            exact V_cut [0, 1, 2, 3, 4, 5] rfl (ih r _ _ _ _ (by omega) hf)
        · cases hf
      refine ite_c hf (fun h19 hf => ?_) (fun h19 hf => ?_)
      · refine V_tin X.1 (off := 1368) (tgt := 1413) dL_law_45 19 h19 (by decide) rfl (by decide) ?_
        unfold f_law_c19 at hf
        refine V_gload_n X.1 dL_law_1413 rfl rfl ?_
        refine V_gload_n X.1 dL_law_1414 rfl rfl ?_
        refine V_lSW X hf [gr G 0, gr G 135] _ 2 (fun _ h => m_L_depth h) tw_1190 tw_85 tw_1188 tw_1189 dL_law_1415 ⟨by decide +kernel, by decide +kernel, by decide +kernel⟩ ⟨Nat.le_of_ble_eq_true rfl, Nat.le_of_ble_eq_true rfl⟩ rfl (Nat.le_of_ble_eq_true rfl) ⟨Nat.le_trans (Nat.add_le_add_left (m := 5) (Nat.le_of_ble_eq_true rfl) _) (by omega), Nat.le_trans (Nat.add_le_add_left (m := 30) (Nat.le_of_ble_eq_true rfl) _) (by omega)⟩ (fun r60 w60 hf => ?_)
        refine V_widen (k + 5) (nn + 30) ⟨Nat.add_le_add_left (Nat.le_of_ble_eq_true rfl) _, Nat.add_le_add_left (Nat.le_of_ble_eq_true rfl) _⟩ ?_
        refine V_istore X.1 dL_law_1418 (by decide) ?_
        refine V_gload_n X.1 dL_law_1420 rfl rfl ?_
        refine V_cVI X.1 hf [] _ 0 (fun _ h => m_X9_depth h) ob_85 rfl tw_1849 tw_95 tw_1846 tw_1847 tw_1848 dL_law_1421 ⟨by decide +kernel, by decide +kernel, by decide +kernel⟩ ⟨rfl, rfl⟩ ⟨Nat.le_of_ble_eq_true rfl, Nat.le_of_ble_eq_true rfl⟩ rfl (Nat.le_of_ble_eq_true rfl) ⟨by show _ ≤ room_1.cells; omega, by show _ ≤ room_1.slots; omega⟩ (fun r61 w61 hf => ?_)
        refine V_istore X.1 dL_law_1424 (by decide) ?_
        refine V_gload_n X.1 dL_law_1426 rfl rfl ?_
        refine V_cVI X.1 hf [] _ 0 (fun _ h => m_X9_thrown h) ob_85 rfl tw_1565 tw_95 tw_1562 tw_1563 tw_1564 dL_law_1427 ⟨by decide +kernel, by decide +kernel, by decide +kernel⟩ ⟨rfl, rfl⟩ ⟨Nat.le_of_ble_eq_true rfl, Nat.le_of_ble_eq_true rfl⟩ rfl (Nat.le_of_ble_eq_true rfl) ⟨by show _ ≤ room_1.cells; omega, by show _ ≤ room_1.slots; omega⟩ (fun r62 w62 hf => ?_)
        refine V_iload X.1 dL_law_1430 rfl ?_
        refine V_icmp_eq X.1 (tgt := 1437) dL_law_1432 (by decide) hf (fun hf => ?_) (fun hf => ?_)
        · refine V_iload X.1 dL_law_1437 rfl ?_
          refine V_if_ne X.1 (tgt := 1454) dL_law_1439 (by decide) hf (fun hf => ?_) (fun hf => ?_)
          · refine V_gload_n X.1 dL_law_1442 rfl rfl ?_
            refine V_iconst X.1 dL_law_1443 ?_
            refine V_lald X.1 ar_135 dL_law_1444 hf (fun hf => ?_)
            refine V_iload X.1 dL_law_1445 rfl ?_
            refine V_i2l X.1 dL_law_1447 ?_
            refine V_lcmp_eq X.1 (tgt := 1454) (pc2 := 1449) dL_law_1448 rfl dL_law_1449 (by decide) hf (fun hf => ?_) (fun hf => ?_)
            · refine V_goto X.1 (tgt := 2066) dL_law_1454 (by decide) ?_
              refine V_iinc X.1 dL_law_2066 rfl (by decide) ?_
              refine V_goto X.1 (tgt := 28) dL_law_2069 (by decide) ?_
              exact V_cut [0, 1, 2, 3, 4, 5] rfl (ih r _ _ _ _ (by omega) hf)
            · cases hf
          · refine V_goto X.1 (tgt := 2066) dL_law_1454 (by decide) ?_
            refine V_iinc X.1 dL_law_2066 rfl (by decide) ?_
            refine V_goto X.1 (tgt := 28) dL_law_2069 (by decide) ?_
            exact V_cut [0, 1, 2, 3, 4, 5] rfl (ih r _ _ _ _ (by omega) hf)
        · cases hf
      refine ite_c hf (fun h20 hf => ?_) (fun h20 hf => ?_)
      · refine V_tin X.1 (off := 1412) (tgt := 1457) dL_law_45 20 h20 (by decide) rfl (by decide) ?_
        unfold f_law_c20 at hf
        refine V_gload_n X.1 dL_law_1457 rfl rfl ?_
        refine V_aload_n X.1 dL_law_1458 rfl rfl ?_
        refine V_iload X.1 dL_law_1459 rfl ?_
        refine V_iconst X.1 dL_law_1461 ?_
        refine V_iadd X.1 dL_law_1462 ?_
        refine V_sld X dL_law_1463 hf (fun hf => ?_)
        refine V_gload_n X.1 dL_law_1464 rfl rfl ?_
        refine V_lSW X hf [gr G 0, vi (xs (wr (a5 + 1)).toNat), gr G 135] _ 3 (fun _ h => m_L_match h) tw_1197 tw_85 tw_1195 tw_1196 dL_law_1465 ⟨by decide +kernel, by decide +kernel, by decide +kernel⟩ ⟨Nat.le_of_ble_eq_true rfl, Nat.le_of_ble_eq_true rfl⟩ rfl (Nat.le_of_ble_eq_true rfl) ⟨Nat.le_trans (Nat.add_le_add_left (m := 5) (Nat.le_of_ble_eq_true rfl) _) (by omega), Nat.le_trans (Nat.add_le_add_left (m := 30) (Nat.le_of_ble_eq_true rfl) _) (by omega)⟩ (fun r63 w63 hf => ?_)
        refine V_widen (k + 5) (nn + 30) ⟨Nat.add_le_add_left (Nat.le_of_ble_eq_true rfl) _, Nat.add_le_add_left (Nat.le_of_ble_eq_true rfl) _⟩ ?_
        refine V_istore X.1 dL_law_1468 (by decide) ?_
        refine V_gload_n X.1 dL_law_1470 rfl rfl ?_
        refine V_aload_n X.1 dL_law_1471 rfl rfl ?_
        refine V_iload X.1 dL_law_1472 rfl ?_
        refine V_iconst X.1 dL_law_1474 ?_
        refine V_iadd X.1 dL_law_1475 ?_
        refine V_sld X dL_law_1476 hf (fun hf => ?_)
        refine V_cVI X.1 hf [vi (xs (wr (a5 + 1)).toNat)] _ 1 (fun _ h => m_X9_match h) ob_85 rfl tw_1853 tw_95 tw_1850 tw_1851 tw_1852 dL_law_1477 ⟨by decide +kernel, by decide +kernel, by decide +kernel⟩ ⟨rfl, rfl⟩ ⟨Nat.le_of_ble_eq_true rfl, Nat.le_of_ble_eq_true rfl⟩ rfl (Nat.le_of_ble_eq_true rfl) ⟨by show _ ≤ room_1.cells; omega, by show _ ≤ room_1.slots; omega⟩ (fun r64 w64 hf => ?_)
        refine V_istore X.1 dL_law_1480 (by decide) ?_
        refine V_gload_n X.1 dL_law_1482 rfl rfl ?_
        refine V_cVI X.1 hf [] _ 0 (fun _ h => m_X9_thrown h) ob_85 rfl tw_1565 tw_95 tw_1562 tw_1563 tw_1564 dL_law_1483 ⟨by decide +kernel, by decide +kernel, by decide +kernel⟩ ⟨rfl, rfl⟩ ⟨Nat.le_of_ble_eq_true rfl, Nat.le_of_ble_eq_true rfl⟩ rfl (Nat.le_of_ble_eq_true rfl) ⟨by show _ ≤ room_1.cells; omega, by show _ ≤ room_1.slots; omega⟩ (fun r65 w65 hf => ?_)
        refine V_iload X.1 dL_law_1486 rfl ?_
        refine V_icmp_eq X.1 (tgt := 1493) dL_law_1488 (by decide) hf (fun hf => ?_) (fun hf => ?_)
        · refine V_iload X.1 dL_law_1493 rfl ?_
          refine V_if_ne X.1 (tgt := 1517) dL_law_1495 (by decide) hf (fun hf => ?_) (fun hf => ?_)
          · refine V_gload_n X.1 dL_law_1498 rfl rfl ?_
            refine V_iconst X.1 dL_law_1499 ?_
            refine V_lald X.1 ar_135 dL_law_1500 hf (fun hf => ?_)
            refine V_iload X.1 dL_law_1501 rfl ?_
            refine V_if_eq X.1 (tgt := 1510) dL_law_1503 (by decide) hf (fun hf => ?_) (fun hf => ?_)
            · refine V_lconst (a := 0) X.1 dL_law_1510 (by decide) ?_
              refine V_lcmp_eq X.1 (tgt := 1517) (pc2 := 1512) dL_law_1511 rfl dL_law_1512 (by decide) hf (fun hf => ?_) (fun hf => ?_)
              · refine V_goto X.1 (tgt := 2066) dL_law_1517 (by decide) ?_
                refine V_iinc X.1 dL_law_2066 rfl (by decide) ?_
                refine V_goto X.1 (tgt := 28) dL_law_2069 (by decide) ?_
                exact V_cut [0, 1, 2, 3, 4, 5] rfl (ih r _ _ _ _ (by omega) hf)
              · cases hf
            · refine V_lconst (a := 1) X.1 dL_law_1506 (by decide) ?_
              refine V_goto X.1 (tgt := 1511) dL_law_1507 (by decide) ?_
              refine V_lcmp_eq X.1 (tgt := 1517) (pc2 := 1512) dL_law_1511 rfl dL_law_1512 (by decide) hf (fun hf => ?_) (fun hf => ?_)
              · refine V_goto X.1 (tgt := 2066) dL_law_1517 (by decide) ?_
                refine V_iinc X.1 dL_law_2066 rfl (by decide) ?_
                refine V_goto X.1 (tgt := 28) dL_law_2069 (by decide) ?_
                exact V_cut [0, 1, 2, 3, 4, 5] rfl (ih r _ _ _ _ (by omega) hf)
              · cases hf
          · refine V_goto X.1 (tgt := 2066) dL_law_1517 (by decide) ?_
            refine V_iinc X.1 dL_law_2066 rfl (by decide) ?_
            refine V_goto X.1 (tgt := 28) dL_law_2069 (by decide) ?_
            exact V_cut [0, 1, 2, 3, 4, 5] rfl (ih r _ _ _ _ (by omega) hf)
        · cases hf
      refine ite_c hf (fun h21 hf => ?_) (fun h21 hf => ?_)
      · refine V_tin X.1 (off := 1475) (tgt := 1520) dL_law_45 21 h21 (by decide) rfl (by decide) ?_
        unfold f_law_c21 at hf
        refine V_gload_n X.1 dL_law_1520 rfl rfl ?_
        refine V_gload_n X.1 dL_law_1521 rfl rfl ?_
        refine V_lSW X hf [gr G 0, gr G 135] _ 2 (fun _ h => m_L_from h) tw_1229 tw_85 tw_1227 tw_1228 dL_law_1522 ⟨by decide +kernel, by decide +kernel, by decide +kernel⟩ ⟨Nat.le_of_ble_eq_true rfl, Nat.le_of_ble_eq_true rfl⟩ rfl (Nat.le_of_ble_eq_true rfl) ⟨Nat.le_trans (Nat.add_le_add_left (m := 5) (Nat.le_of_ble_eq_true rfl) _) (by omega), Nat.le_trans (Nat.add_le_add_left (m := 30) (Nat.le_of_ble_eq_true rfl) _) (by omega)⟩ (fun r66 w66 hf => ?_)
        refine V_widen (k + 5) (nn + 30) ⟨Nat.add_le_add_left (Nat.le_of_ble_eq_true rfl) _, Nat.add_le_add_left (Nat.le_of_ble_eq_true rfl) _⟩ ?_
        refine V_istore X.1 dL_law_1525 (by decide) ?_
        refine V_gload_n X.1 dL_law_1527 rfl rfl ?_
        refine V_cVI X.1 hf [] _ 0 (fun _ h => m_X9_from h) ob_85 rfl tw_1869 tw_95 tw_1866 tw_1867 tw_1868 dL_law_1528 ⟨by decide +kernel, by decide +kernel, by decide +kernel⟩ ⟨rfl, rfl⟩ ⟨Nat.le_of_ble_eq_true rfl, Nat.le_of_ble_eq_true rfl⟩ rfl (Nat.le_of_ble_eq_true rfl) ⟨by show _ ≤ room_1.cells; omega, by show _ ≤ room_1.slots; omega⟩ (fun r67 w67 hf => ?_)
        refine V_istore X.1 dL_law_1531 (by decide) ?_
        refine V_gload_n X.1 dL_law_1533 rfl rfl ?_
        refine V_cVI X.1 hf [] _ 0 (fun _ h => m_X9_thrown h) ob_85 rfl tw_1565 tw_95 tw_1562 tw_1563 tw_1564 dL_law_1534 ⟨by decide +kernel, by decide +kernel, by decide +kernel⟩ ⟨rfl, rfl⟩ ⟨Nat.le_of_ble_eq_true rfl, Nat.le_of_ble_eq_true rfl⟩ rfl (Nat.le_of_ble_eq_true rfl) ⟨by show _ ≤ room_1.cells; omega, by show _ ≤ room_1.slots; omega⟩ (fun r68 w68 hf => ?_)
        refine V_iload X.1 dL_law_1537 rfl ?_
        refine V_icmp_eq X.1 (tgt := 1544) dL_law_1539 (by decide) hf (fun hf => ?_) (fun hf => ?_)
        · refine V_iload X.1 dL_law_1544 rfl ?_
          refine V_if_ne X.1 (tgt := 1561) dL_law_1546 (by decide) hf (fun hf => ?_) (fun hf => ?_)
          · refine V_gload_n X.1 dL_law_1549 rfl rfl ?_
            refine V_iconst X.1 dL_law_1550 ?_
            refine V_lald X.1 ar_135 dL_law_1551 hf (fun hf => ?_)
            refine V_iload X.1 dL_law_1552 rfl ?_
            refine V_i2l X.1 dL_law_1554 ?_
            refine V_lcmp_eq X.1 (tgt := 1561) (pc2 := 1556) dL_law_1555 rfl dL_law_1556 (by decide) hf (fun hf => ?_) (fun hf => ?_)
            · refine V_goto X.1 (tgt := 2066) dL_law_1561 (by decide) ?_
              refine V_iinc X.1 dL_law_2066 rfl (by decide) ?_
              refine V_goto X.1 (tgt := 28) dL_law_2069 (by decide) ?_
              exact V_cut [0, 1, 2, 3, 4, 5] rfl (ih r _ _ _ _ (by omega) hf)
            · cases hf
          · refine V_goto X.1 (tgt := 2066) dL_law_1561 (by decide) ?_
            refine V_iinc X.1 dL_law_2066 rfl (by decide) ?_
            refine V_goto X.1 (tgt := 28) dL_law_2069 (by decide) ?_
            exact V_cut [0, 1, 2, 3, 4, 5] rfl (ih r _ _ _ _ (by omega) hf)
        · cases hf
      refine ite_c hf (fun h22 hf => ?_) (fun h22 hf => ?_)
      · refine V_tin X.1 (off := 1519) (tgt := 1564) dL_law_45 22 h22 (by decide) rfl (by decide) ?_
        unfold f_law_c22 at hf
        refine V_gload_n X.1 dL_law_1564 rfl rfl ?_
        refine V_gload_n X.1 dL_law_1565 rfl rfl ?_
        refine V_lSW X hf [gr G 0, gr G 135] _ 2 (fun _ h => m_L_to h) tw_1246 tw_85 tw_1244 tw_1245 dL_law_1566 ⟨by decide +kernel, by decide +kernel, by decide +kernel⟩ ⟨Nat.le_of_ble_eq_true rfl, Nat.le_of_ble_eq_true rfl⟩ rfl (Nat.le_of_ble_eq_true rfl) ⟨Nat.le_trans (Nat.add_le_add_left (m := 5) (Nat.le_of_ble_eq_true rfl) _) (by omega), Nat.le_trans (Nat.add_le_add_left (m := 30) (Nat.le_of_ble_eq_true rfl) _) (by omega)⟩ (fun r69 w69 hf => ?_)
        refine V_widen (k + 5) (nn + 30) ⟨Nat.add_le_add_left (Nat.le_of_ble_eq_true rfl) _, Nat.add_le_add_left (Nat.le_of_ble_eq_true rfl) _⟩ ?_
        refine V_istore X.1 dL_law_1569 (by decide) ?_
        refine V_gload_n X.1 dL_law_1571 rfl rfl ?_
        refine V_cVI X.1 hf [] _ 0 (fun _ h => m_X9_to h) ob_85 rfl tw_1873 tw_95 tw_1870 tw_1871 tw_1872 dL_law_1572 ⟨by decide +kernel, by decide +kernel, by decide +kernel⟩ ⟨rfl, rfl⟩ ⟨Nat.le_of_ble_eq_true rfl, Nat.le_of_ble_eq_true rfl⟩ rfl (Nat.le_of_ble_eq_true rfl) ⟨by show _ ≤ room_1.cells; omega, by show _ ≤ room_1.slots; omega⟩ (fun r70 w70 hf => ?_)
        refine V_istore X.1 dL_law_1575 (by decide) ?_
        refine V_gload_n X.1 dL_law_1577 rfl rfl ?_
        refine V_cVI X.1 hf [] _ 0 (fun _ h => m_X9_thrown h) ob_85 rfl tw_1565 tw_95 tw_1562 tw_1563 tw_1564 dL_law_1578 ⟨by decide +kernel, by decide +kernel, by decide +kernel⟩ ⟨rfl, rfl⟩ ⟨Nat.le_of_ble_eq_true rfl, Nat.le_of_ble_eq_true rfl⟩ rfl (Nat.le_of_ble_eq_true rfl) ⟨by show _ ≤ room_1.cells; omega, by show _ ≤ room_1.slots; omega⟩ (fun r71 w71 hf => ?_)
        refine V_iload X.1 dL_law_1581 rfl ?_
        refine V_icmp_eq X.1 (tgt := 1588) dL_law_1583 (by decide) hf (fun hf => ?_) (fun hf => ?_)
        · refine V_iload X.1 dL_law_1588 rfl ?_
          refine V_if_ne X.1 (tgt := 1605) dL_law_1590 (by decide) hf (fun hf => ?_) (fun hf => ?_)
          · refine V_gload_n X.1 dL_law_1593 rfl rfl ?_
            refine V_iconst X.1 dL_law_1594 ?_
            refine V_lald X.1 ar_135 dL_law_1595 hf (fun hf => ?_)
            refine V_iload X.1 dL_law_1596 rfl ?_
            refine V_i2l X.1 dL_law_1598 ?_
            refine V_lcmp_eq X.1 (tgt := 1605) (pc2 := 1600) dL_law_1599 rfl dL_law_1600 (by decide) hf (fun hf => ?_) (fun hf => ?_)
            · refine V_goto X.1 (tgt := 2066) dL_law_1605 (by decide) ?_
              refine V_iinc X.1 dL_law_2066 rfl (by decide) ?_
              refine V_goto X.1 (tgt := 28) dL_law_2069 (by decide) ?_
              exact V_cut [0, 1, 2, 3, 4, 5] rfl (ih r _ _ _ _ (by omega) hf)
            · cases hf
          · refine V_goto X.1 (tgt := 2066) dL_law_1605 (by decide) ?_
            refine V_iinc X.1 dL_law_2066 rfl (by decide) ?_
            refine V_goto X.1 (tgt := 28) dL_law_2069 (by decide) ?_
            exact V_cut [0, 1, 2, 3, 4, 5] rfl (ih r _ _ _ _ (by omega) hf)
        · cases hf
      refine ite_c hf (fun h23 hf => ?_) (fun h23 hf => ?_)
      · refine V_tin X.1 (off := 1563) (tgt := 1608) dL_law_45 23 h23 (by decide) rfl (by decide) ?_
        unfold f_law_c23 at hf
        refine V_gload_n X.1 dL_law_1608 rfl rfl ?_
        refine V_gload_n X.1 dL_law_1609 rfl rfl ?_
        refine V_lSW X hf [gr G 0, gr G 135] _ 2 (fun _ h => m_L_begun h) tw_1253 tw_85 tw_1251 tw_1252 dL_law_1610 ⟨by decide +kernel, by decide +kernel, by decide +kernel⟩ ⟨Nat.le_of_ble_eq_true rfl, Nat.le_of_ble_eq_true rfl⟩ rfl (Nat.le_of_ble_eq_true rfl) ⟨Nat.le_trans (Nat.add_le_add_left (m := 5) (Nat.le_of_ble_eq_true rfl) _) (by omega), Nat.le_trans (Nat.add_le_add_left (m := 30) (Nat.le_of_ble_eq_true rfl) _) (by omega)⟩ (fun r72 w72 hf => ?_)
        refine V_widen (k + 5) (nn + 30) ⟨Nat.add_le_add_left (Nat.le_of_ble_eq_true rfl) _, Nat.add_le_add_left (Nat.le_of_ble_eq_true rfl) _⟩ ?_
        refine V_istore X.1 dL_law_1613 (by decide) ?_
        refine V_gload_n X.1 dL_law_1615 rfl rfl ?_
        refine V_cVI X.1 hf [] _ 0 (fun _ h => m_X9_begun h) ob_85 rfl tw_1877 tw_95 tw_1874 tw_1875 tw_1876 dL_law_1616 ⟨by decide +kernel, by decide +kernel, by decide +kernel⟩ ⟨rfl, rfl⟩ ⟨Nat.le_of_ble_eq_true rfl, Nat.le_of_ble_eq_true rfl⟩ rfl (Nat.le_of_ble_eq_true rfl) ⟨by show _ ≤ room_1.cells; omega, by show _ ≤ room_1.slots; omega⟩ (fun r73 w73 hf => ?_)
        refine V_istore X.1 dL_law_1619 (by decide) ?_
        refine V_gload_n X.1 dL_law_1621 rfl rfl ?_
        refine V_cVI X.1 hf [] _ 0 (fun _ h => m_X9_thrown h) ob_85 rfl tw_1565 tw_95 tw_1562 tw_1563 tw_1564 dL_law_1622 ⟨by decide +kernel, by decide +kernel, by decide +kernel⟩ ⟨rfl, rfl⟩ ⟨Nat.le_of_ble_eq_true rfl, Nat.le_of_ble_eq_true rfl⟩ rfl (Nat.le_of_ble_eq_true rfl) ⟨by show _ ≤ room_1.cells; omega, by show _ ≤ room_1.slots; omega⟩ (fun r74 w74 hf => ?_)
        refine V_iload X.1 dL_law_1625 rfl ?_
        refine V_icmp_eq X.1 (tgt := 1632) dL_law_1627 (by decide) hf (fun hf => ?_) (fun hf => ?_)
        · refine V_iload X.1 dL_law_1632 rfl ?_
          refine V_if_ne X.1 (tgt := 1649) dL_law_1634 (by decide) hf (fun hf => ?_) (fun hf => ?_)
          · refine V_gload_n X.1 dL_law_1637 rfl rfl ?_
            refine V_iconst X.1 dL_law_1638 ?_
            refine V_lald X.1 ar_135 dL_law_1639 hf (fun hf => ?_)
            refine V_iload X.1 dL_law_1640 rfl ?_
            refine V_i2l X.1 dL_law_1642 ?_
            refine V_lcmp_eq X.1 (tgt := 1649) (pc2 := 1644) dL_law_1643 rfl dL_law_1644 (by decide) hf (fun hf => ?_) (fun hf => ?_)
            · refine V_goto X.1 (tgt := 2066) dL_law_1649 (by decide) ?_
              refine V_iinc X.1 dL_law_2066 rfl (by decide) ?_
              refine V_goto X.1 (tgt := 28) dL_law_2069 (by decide) ?_
              exact V_cut [0, 1, 2, 3, 4, 5] rfl (ih r _ _ _ _ (by omega) hf)
            · cases hf
          · refine V_goto X.1 (tgt := 2066) dL_law_1649 (by decide) ?_
            refine V_iinc X.1 dL_law_2066 rfl (by decide) ?_
            refine V_goto X.1 (tgt := 28) dL_law_2069 (by decide) ?_
            exact V_cut [0, 1, 2, 3, 4, 5] rfl (ih r _ _ _ _ (by omega) hf)
        · cases hf
      refine ite_c hf (fun h24 hf => ?_) (fun h24 hf => ?_)
      · refine V_tin X.1 (off := 1607) (tgt := 1652) dL_law_45 24 h24 (by decide) rfl (by decide) ?_
        unfold f_law_c24 at hf
        refine V_gload_n X.1 dL_law_1652 rfl rfl ?_
        refine V_aload_n X.1 dL_law_1653 rfl rfl ?_
        refine V_iload X.1 dL_law_1654 rfl ?_
        refine V_iconst X.1 dL_law_1656 ?_
        refine V_iadd X.1 dL_law_1657 ?_
        refine V_sld X dL_law_1658 hf (fun hf => ?_)
        refine V_gload_n X.1 dL_law_1659 rfl rfl ?_
        refine V_lSW X hf [gr G 0, vi (xs (wr (a5 + 1)).toNat), gr G 135] _ 3 (fun _ h => m_L_ways h) tw_1260 tw_85 tw_1258 tw_1259 dL_law_1660 ⟨by decide +kernel, by decide +kernel, by decide +kernel⟩ ⟨Nat.le_of_ble_eq_true rfl, Nat.le_of_ble_eq_true rfl⟩ rfl (Nat.le_of_ble_eq_true rfl) ⟨Nat.le_trans (Nat.add_le_add_left (m := 5) (Nat.le_of_ble_eq_true rfl) _) (by omega), Nat.le_trans (Nat.add_le_add_left (m := 30) (Nat.le_of_ble_eq_true rfl) _) (by omega)⟩ (fun r75 w75 hf => ?_)
        refine V_widen (k + 5) (nn + 30) ⟨Nat.add_le_add_left (Nat.le_of_ble_eq_true rfl) _, Nat.add_le_add_left (Nat.le_of_ble_eq_true rfl) _⟩ ?_
        refine V_istore X.1 dL_law_1663 (by decide) ?_
        refine V_gload_n X.1 dL_law_1665 rfl rfl ?_
        refine V_aload_n X.1 dL_law_1666 rfl rfl ?_
        refine V_iload X.1 dL_law_1667 rfl ?_
        refine V_iconst X.1 dL_law_1669 ?_
        refine V_iadd X.1 dL_law_1670 ?_
        refine V_sld X dL_law_1671 hf (fun hf => ?_)
        refine V_cVI X.1 hf [vi (xs (wr (a5 + 1)).toNat)] _ 1 (fun _ h => m_X9_ways h) ob_85 rfl tw_1881 tw_95 tw_1878 tw_1879 tw_1880 dL_law_1672 ⟨by decide +kernel, by decide +kernel, by decide +kernel⟩ ⟨rfl, rfl⟩ ⟨Nat.le_of_ble_eq_true rfl, Nat.le_of_ble_eq_true rfl⟩ rfl (Nat.le_of_ble_eq_true rfl) ⟨by show _ ≤ room_1.cells; omega, by show _ ≤ room_1.slots; omega⟩ (fun r76 w76 hf => ?_)
        refine V_istore X.1 dL_law_1675 (by decide) ?_
        refine V_gload_n X.1 dL_law_1677 rfl rfl ?_
        refine V_cVI X.1 hf [] _ 0 (fun _ h => m_X9_thrown h) ob_85 rfl tw_1565 tw_95 tw_1562 tw_1563 tw_1564 dL_law_1678 ⟨by decide +kernel, by decide +kernel, by decide +kernel⟩ ⟨rfl, rfl⟩ ⟨Nat.le_of_ble_eq_true rfl, Nat.le_of_ble_eq_true rfl⟩ rfl (Nat.le_of_ble_eq_true rfl) ⟨by show _ ≤ room_1.cells; omega, by show _ ≤ room_1.slots; omega⟩ (fun r77 w77 hf => ?_)
        refine V_iload X.1 dL_law_1681 rfl ?_
        refine V_icmp_eq X.1 (tgt := 1688) dL_law_1683 (by decide) hf (fun hf => ?_) (fun hf => ?_)
        · refine V_iload X.1 dL_law_1688 rfl ?_
          refine V_if_ne X.1 (tgt := 1705) dL_law_1690 (by decide) hf (fun hf => ?_) (fun hf => ?_)
          · refine V_gload_n X.1 dL_law_1693 rfl rfl ?_
            refine V_iconst X.1 dL_law_1694 ?_
            refine V_lald X.1 ar_135 dL_law_1695 hf (fun hf => ?_)
            refine V_iload X.1 dL_law_1696 rfl ?_
            refine V_i2l X.1 dL_law_1698 ?_
            refine V_lcmp_eq X.1 (tgt := 1705) (pc2 := 1700) dL_law_1699 rfl dL_law_1700 (by decide) hf (fun hf => ?_) (fun hf => ?_)
            · refine V_goto X.1 (tgt := 2066) dL_law_1705 (by decide) ?_
              refine V_iinc X.1 dL_law_2066 rfl (by decide) ?_
              refine V_goto X.1 (tgt := 28) dL_law_2069 (by decide) ?_
              exact V_cut [0, 1, 2, 3, 4, 5] rfl (ih r _ _ _ _ (by omega) hf)
            · cases hf
          · refine V_goto X.1 (tgt := 2066) dL_law_1705 (by decide) ?_
            refine V_iinc X.1 dL_law_2066 rfl (by decide) ?_
            refine V_goto X.1 (tgt := 28) dL_law_2069 (by decide) ?_
            exact V_cut [0, 1, 2, 3, 4, 5] rfl (ih r _ _ _ _ (by omega) hf)
        · cases hf
      refine ite_c hf (fun h25 hf => ?_) (fun h25 hf => ?_)
      · refine V_tin X.1 (off := 1663) (tgt := 1708) dL_law_45 25 h25 (by decide) rfl (by decide) ?_
        unfold f_law_c25 at hf
        refine V_gload_n X.1 dL_law_1708 rfl rfl ?_
        refine V_aload_n X.1 dL_law_1709 rfl rfl ?_
        refine V_iload X.1 dL_law_1710 rfl ?_
        refine V_iconst X.1 dL_law_1712 ?_
        refine V_iadd X.1 dL_law_1713 ?_
        refine V_sld X dL_law_1714 hf (fun hf => ?_)
        refine V_aload_n X.1 dL_law_1715 rfl rfl ?_
        refine V_iload X.1 dL_law_1716 rfl ?_
        refine V_iconst X.1 dL_law_1718 ?_
        refine V_iadd X.1 dL_law_1719 ?_
        refine V_sld X dL_law_1720 hf (fun hf => ?_)
        refine V_gload_n X.1 dL_law_1721 rfl rfl ?_
        refine V_lSW X hf [gr G 0, vi (xs (wr (a5 + 1)).toNat), vi (xs (wr (a5 + 2)).toNat), gr G 135] _ 4 (fun _ h => m_L_way h) tw_1272 tw_85 tw_1270 tw_1271 dL_law_1722 ⟨by decide +kernel, by decide +kernel, by decide +kernel⟩ ⟨Nat.le_of_ble_eq_true rfl, Nat.le_of_ble_eq_true rfl⟩ rfl (Nat.le_of_ble_eq_true rfl) ⟨Nat.le_trans (Nat.add_le_add_left (m := 5) (Nat.le_of_ble_eq_true rfl) _) (by omega), Nat.le_trans (Nat.add_le_add_left (m := 30) (Nat.le_of_ble_eq_true rfl) _) (by omega)⟩ (fun r78 w78 hf => ?_)
        refine V_widen (k + 5) (nn + 30) ⟨Nat.add_le_add_left (Nat.le_of_ble_eq_true rfl) _, Nat.add_le_add_left (Nat.le_of_ble_eq_true rfl) _⟩ ?_
        refine V_istore X.1 dL_law_1725 (by decide) ?_
        refine V_gload_n X.1 dL_law_1727 rfl rfl ?_
        refine V_aload_n X.1 dL_law_1728 rfl rfl ?_
        refine V_iload X.1 dL_law_1729 rfl ?_
        refine V_iconst X.1 dL_law_1731 ?_
        refine V_iadd X.1 dL_law_1732 ?_
        refine V_sld X dL_law_1733 hf (fun hf => ?_)
        refine V_aload_n X.1 dL_law_1734 rfl rfl ?_
        refine V_iload X.1 dL_law_1735 rfl ?_
        refine V_iconst X.1 dL_law_1737 ?_
        refine V_iadd X.1 dL_law_1738 ?_
        refine V_sld X dL_law_1739 hf (fun hf => ?_)
        refine V_cVI X.1 hf [vi (xs (wr (a5 + 1)).toNat), vi (xs (wr (a5 + 2)).toNat)] _ 2 (fun _ h => m_X9_way h) ob_85 rfl tw_1889 tw_95 tw_1886 tw_1887 tw_1888 dL_law_1740 ⟨by decide +kernel, by decide +kernel, by decide +kernel⟩ ⟨rfl, rfl⟩ ⟨Nat.le_of_ble_eq_true rfl, Nat.le_of_ble_eq_true rfl⟩ rfl (Nat.le_of_ble_eq_true rfl) ⟨by show _ ≤ room_1.cells; omega, by show _ ≤ room_1.slots; omega⟩ (fun r79 w79 hf => ?_)
        refine V_istore X.1 dL_law_1743 (by decide) ?_
        refine V_gload_n X.1 dL_law_1745 rfl rfl ?_
        refine V_cVI X.1 hf [] _ 0 (fun _ h => m_X9_thrown h) ob_85 rfl tw_1565 tw_95 tw_1562 tw_1563 tw_1564 dL_law_1746 ⟨by decide +kernel, by decide +kernel, by decide +kernel⟩ ⟨rfl, rfl⟩ ⟨Nat.le_of_ble_eq_true rfl, Nat.le_of_ble_eq_true rfl⟩ rfl (Nat.le_of_ble_eq_true rfl) ⟨by show _ ≤ room_1.cells; omega, by show _ ≤ room_1.slots; omega⟩ (fun r80 w80 hf => ?_)
        refine V_iload X.1 dL_law_1749 rfl ?_
        refine V_icmp_eq X.1 (tgt := 1756) dL_law_1751 (by decide) hf (fun hf => ?_) (fun hf => ?_)
        · refine V_iload X.1 dL_law_1756 rfl ?_
          refine V_if_ne X.1 (tgt := 1773) dL_law_1758 (by decide) hf (fun hf => ?_) (fun hf => ?_)
          · refine V_gload_n X.1 dL_law_1761 rfl rfl ?_
            refine V_iconst X.1 dL_law_1762 ?_
            refine V_lald X.1 ar_135 dL_law_1763 hf (fun hf => ?_)
            refine V_iload X.1 dL_law_1764 rfl ?_
            refine V_i2l X.1 dL_law_1766 ?_
            refine V_lcmp_eq X.1 (tgt := 1773) (pc2 := 1768) dL_law_1767 rfl dL_law_1768 (by decide) hf (fun hf => ?_) (fun hf => ?_)
            · refine V_goto X.1 (tgt := 2066) dL_law_1773 (by decide) ?_
              refine V_iinc X.1 dL_law_2066 rfl (by decide) ?_
              refine V_goto X.1 (tgt := 28) dL_law_2069 (by decide) ?_
              exact V_cut [0, 1, 2, 3, 4, 5] rfl (ih r _ _ _ _ (by omega) hf)
            · cases hf
          · refine V_goto X.1 (tgt := 2066) dL_law_1773 (by decide) ?_
            refine V_iinc X.1 dL_law_2066 rfl (by decide) ?_
            refine V_goto X.1 (tgt := 28) dL_law_2069 (by decide) ?_
            exact V_cut [0, 1, 2, 3, 4, 5] rfl (ih r _ _ _ _ (by omega) hf)
        · cases hf
      refine ite_c hf (fun h26 hf => ?_) (fun h26 hf => ?_)
      · refine V_tin X.1 (off := 1731) (tgt := 1776) dL_law_45 26 h26 (by decide) rfl (by decide) ?_
        unfold f_law_c26 at hf
        refine V_gload_n X.1 dL_law_1776 rfl rfl ?_
        refine V_aload_n X.1 dL_law_1777 rfl rfl ?_
        refine V_iload X.1 dL_law_1778 rfl ?_
        refine V_iconst X.1 dL_law_1780 ?_
        refine V_iadd X.1 dL_law_1781 ?_
        refine V_sld X dL_law_1782 hf (fun hf => ?_)
        refine V_gload_n X.1 dL_law_1783 rfl rfl ?_
        refine V_lSW X hf [gr G 0, vi (xs (wr (a5 + 1)).toNat), gr G 135] _ 3 (fun _ h => m_L_work h) tw_1280 tw_85 tw_1278 tw_1279 dL_law_1784 ⟨by decide +kernel, by decide +kernel, by decide +kernel⟩ ⟨Nat.le_of_ble_eq_true rfl, Nat.le_of_ble_eq_true rfl⟩ rfl (Nat.le_of_ble_eq_true rfl) ⟨Nat.le_trans (Nat.add_le_add_left (m := 5) (Nat.le_of_ble_eq_true rfl) _) (by omega), Nat.le_trans (Nat.add_le_add_left (m := 30) (Nat.le_of_ble_eq_true rfl) _) (by omega)⟩ (fun r81 w81 hf => ?_)
        refine V_widen (k + 5) (nn + 30) ⟨Nat.add_le_add_left (Nat.le_of_ble_eq_true rfl) _, Nat.add_le_add_left (Nat.le_of_ble_eq_true rfl) _⟩ ?_
        refine V_istore X.1 dL_law_1787 (by decide) ?_
        refine V_gload_n X.1 dL_law_1789 rfl rfl ?_
        refine V_aload_n X.1 dL_law_1790 rfl rfl ?_
        refine V_iload X.1 dL_law_1791 rfl ?_
        refine V_iconst X.1 dL_law_1793 ?_
        refine V_iadd X.1 dL_law_1794 ?_
        refine V_sld X dL_law_1795 hf (fun hf => ?_)
        refine V_cVI X.1 hf [vi (xs (wr (a5 + 1)).toNat)] _ 1 (fun _ h => m_X9_work h) ob_85 rfl tw_1893 tw_95 tw_1890 tw_1891 tw_1892 dL_law_1796 ⟨by decide +kernel, by decide +kernel, by decide +kernel⟩ ⟨rfl, rfl⟩ ⟨Nat.le_of_ble_eq_true rfl, Nat.le_of_ble_eq_true rfl⟩ rfl (Nat.le_of_ble_eq_true rfl) ⟨by show _ ≤ room_1.cells; omega, by show _ ≤ room_1.slots; omega⟩ (fun r82 w82 hf => ?_)
        refine V_istore X.1 dL_law_1799 (by decide) ?_
        refine V_gload_n X.1 dL_law_1801 rfl rfl ?_
        refine V_cVI X.1 hf [] _ 0 (fun _ h => m_X9_thrown h) ob_85 rfl tw_1565 tw_95 tw_1562 tw_1563 tw_1564 dL_law_1802 ⟨by decide +kernel, by decide +kernel, by decide +kernel⟩ ⟨rfl, rfl⟩ ⟨Nat.le_of_ble_eq_true rfl, Nat.le_of_ble_eq_true rfl⟩ rfl (Nat.le_of_ble_eq_true rfl) ⟨by show _ ≤ room_1.cells; omega, by show _ ≤ room_1.slots; omega⟩ (fun r83 w83 hf => ?_)
        refine V_iload X.1 dL_law_1805 rfl ?_
        refine V_icmp_eq X.1 (tgt := 1812) dL_law_1807 (by decide) hf (fun hf => ?_) (fun hf => ?_)
        · refine V_iload X.1 dL_law_1812 rfl ?_
          refine V_if_ne X.1 (tgt := 1836) dL_law_1814 (by decide) hf (fun hf => ?_) (fun hf => ?_)
          · refine V_gload_n X.1 dL_law_1817 rfl rfl ?_
            refine V_iconst X.1 dL_law_1818 ?_
            refine V_lald X.1 ar_135 dL_law_1819 hf (fun hf => ?_)
            refine V_iload X.1 dL_law_1820 rfl ?_
            refine V_if_eq X.1 (tgt := 1829) dL_law_1822 (by decide) hf (fun hf => ?_) (fun hf => ?_)
            · refine V_lconst (a := 0) X.1 dL_law_1829 (by decide) ?_
              refine V_lcmp_eq X.1 (tgt := 1836) (pc2 := 1831) dL_law_1830 rfl dL_law_1831 (by decide) hf (fun hf => ?_) (fun hf => ?_)
              · refine V_goto X.1 (tgt := 2066) dL_law_1836 (by decide) ?_
                refine V_iinc X.1 dL_law_2066 rfl (by decide) ?_
                refine V_goto X.1 (tgt := 28) dL_law_2069 (by decide) ?_
                exact V_cut [0, 1, 2, 3, 4, 5] rfl (ih r _ _ _ _ (by omega) hf)
              · cases hf
            · refine V_lconst (a := 1) X.1 dL_law_1825 (by decide) ?_
              refine V_goto X.1 (tgt := 1830) dL_law_1826 (by decide) ?_
              refine V_lcmp_eq X.1 (tgt := 1836) (pc2 := 1831) dL_law_1830 rfl dL_law_1831 (by decide) hf (fun hf => ?_) (fun hf => ?_)
              · refine V_goto X.1 (tgt := 2066) dL_law_1836 (by decide) ?_
                refine V_iinc X.1 dL_law_2066 rfl (by decide) ?_
                refine V_goto X.1 (tgt := 28) dL_law_2069 (by decide) ?_
                exact V_cut [0, 1, 2, 3, 4, 5] rfl (ih r _ _ _ _ (by omega) hf)
              · cases hf
          · refine V_goto X.1 (tgt := 2066) dL_law_1836 (by decide) ?_
            refine V_iinc X.1 dL_law_2066 rfl (by decide) ?_
            refine V_goto X.1 (tgt := 28) dL_law_2069 (by decide) ?_
            exact V_cut [0, 1, 2, 3, 4, 5] rfl (ih r _ _ _ _ (by omega) hf)
        · cases hf
      refine ite_c hf (fun h27 hf => ?_) (fun h27 hf => ?_)
      · refine V_tin X.1 (off := 1794) (tgt := 1839) dL_law_45 27 h27 (by decide) rfl (by decide) ?_
        unfold f_law_c27 at hf
        refine V_gload_n X.1 dL_law_1839 rfl rfl ?_
        refine V_aload_n X.1 dL_law_1840 rfl rfl ?_
        refine V_iload X.1 dL_law_1841 rfl ?_
        refine V_iconst X.1 dL_law_1843 ?_
        refine V_iadd X.1 dL_law_1844 ?_
        refine V_sld X dL_law_1845 hf (fun hf => ?_)
        refine V_gload_n X.1 dL_law_1846 rfl rfl ?_
        refine V_lSW X hf [gr G 0, vi (xs (wr (a5 + 1)).toNat), gr G 135] _ 3 (fun _ h => m_L_typed h) tw_1289 tw_85 tw_1287 tw_1288 dL_law_1847 ⟨by decide +kernel, by decide +kernel, by decide +kernel⟩ ⟨Nat.le_of_ble_eq_true rfl, Nat.le_of_ble_eq_true rfl⟩ rfl (Nat.le_of_ble_eq_true rfl) ⟨Nat.le_trans (Nat.add_le_add_left (m := 5) (Nat.le_of_ble_eq_true rfl) _) (by omega), Nat.le_trans (Nat.add_le_add_left (m := 30) (Nat.le_of_ble_eq_true rfl) _) (by omega)⟩ (fun r84 w84 hf => ?_)
        refine V_widen (k + 5) (nn + 30) ⟨Nat.add_le_add_left (Nat.le_of_ble_eq_true rfl) _, Nat.add_le_add_left (Nat.le_of_ble_eq_true rfl) _⟩ ?_
        refine V_istore X.1 dL_law_1850 (by decide) ?_
        refine V_gload_n X.1 dL_law_1852 rfl rfl ?_
        refine V_aload_n X.1 dL_law_1853 rfl rfl ?_
        refine V_iload X.1 dL_law_1854 rfl ?_
        refine V_iconst X.1 dL_law_1856 ?_
        refine V_iadd X.1 dL_law_1857 ?_
        refine V_sld X dL_law_1858 hf (fun hf => ?_)
        refine V_cVI X.1 hf [vi (xs (wr (a5 + 1)).toNat)] _ 1 (fun _ h => m_X9_typed h) ob_85 rfl tw_1897 tw_95 tw_1894 tw_1895 tw_1896 dL_law_1859 ⟨by decide +kernel, by decide +kernel, by decide +kernel⟩ ⟨rfl, rfl⟩ ⟨Nat.le_of_ble_eq_true rfl, Nat.le_of_ble_eq_true rfl⟩ rfl (Nat.le_of_ble_eq_true rfl) ⟨by show _ ≤ room_1.cells; omega, by show _ ≤ room_1.slots; omega⟩ (fun r85 w85 hf => ?_)
        refine V_istore X.1 dL_law_1862 (by decide) ?_
        refine V_gload_n X.1 dL_law_1864 rfl rfl ?_
        refine V_cVI X.1 hf [] _ 0 (fun _ h => m_X9_thrown h) ob_85 rfl tw_1565 tw_95 tw_1562 tw_1563 tw_1564 dL_law_1865 ⟨by decide +kernel, by decide +kernel, by decide +kernel⟩ ⟨rfl, rfl⟩ ⟨Nat.le_of_ble_eq_true rfl, Nat.le_of_ble_eq_true rfl⟩ rfl (Nat.le_of_ble_eq_true rfl) ⟨by show _ ≤ room_1.cells; omega, by show _ ≤ room_1.slots; omega⟩ (fun r86 w86 hf => ?_)
        refine V_iload X.1 dL_law_1868 rfl ?_
        refine V_icmp_eq X.1 (tgt := 1875) dL_law_1870 (by decide) hf (fun hf => ?_) (fun hf => ?_)
        · refine V_iload X.1 dL_law_1875 rfl ?_
          refine V_if_ne X.1 (tgt := 1892) dL_law_1877 (by decide) hf (fun hf => ?_) (fun hf => ?_)
          · refine V_gload_n X.1 dL_law_1880 rfl rfl ?_
            refine V_iconst X.1 dL_law_1881 ?_
            refine V_lald X.1 ar_135 dL_law_1882 hf (fun hf => ?_)
            refine V_iload X.1 dL_law_1883 rfl ?_
            refine V_i2l X.1 dL_law_1885 ?_
            refine V_lcmp_eq X.1 (tgt := 1892) (pc2 := 1887) dL_law_1886 rfl dL_law_1887 (by decide) hf (fun hf => ?_) (fun hf => ?_)
            · refine V_goto X.1 (tgt := 2066) dL_law_1892 (by decide) ?_
              refine V_iinc X.1 dL_law_2066 rfl (by decide) ?_
              refine V_goto X.1 (tgt := 28) dL_law_2069 (by decide) ?_
              exact V_cut [0, 1, 2, 3, 4, 5] rfl (ih r _ _ _ _ (by omega) hf)
            · cases hf
          · refine V_goto X.1 (tgt := 2066) dL_law_1892 (by decide) ?_
            refine V_iinc X.1 dL_law_2066 rfl (by decide) ?_
            refine V_goto X.1 (tgt := 28) dL_law_2069 (by decide) ?_
            exact V_cut [0, 1, 2, 3, 4, 5] rfl (ih r _ _ _ _ (by omega) hf)
        · cases hf
      refine ite_c hf (fun h28 hf => ?_) (fun h28 hf => ?_)
      · refine V_tin X.1 (off := 1850) (tgt := 1895) dL_law_45 28 h28 (by decide) rfl (by decide) ?_
        unfold f_law_c28 at hf
        refine V_widen (k + 5) (nn + 30) ⟨Nat.le_add_right _ _, Nat.le_add_right _ _⟩ ?_
        refine V_gload_n X.1 dL_law_1895 rfl rfl ?_
        refine V_cVI X.1 hf [] _ 0 (fun _ h => m_X8_statements h) ob_0 rfl tw_478 tw_86 tw_475 tw_476 tw_477 dL_law_1896 ⟨by decide +kernel, by decide +kernel, by decide +kernel⟩ ⟨rfl, rfl⟩ ⟨Nat.le_of_ble_eq_true rfl, Nat.le_of_ble_eq_true rfl⟩ rfl (Nat.le_of_ble_eq_true rfl) ⟨by show _ ≤ room_1.cells; omega, by show _ ≤ room_1.slots; omega⟩ (fun r87 w87 hf => ?_)
        refine V_gload_n X.1 dL_law_1899 rfl rfl ?_
        refine V_cVI X.1 hf [] _ 0 (fun _ h => m_X9_statements h) ob_85 rfl tw_1901 tw_95 tw_1898 tw_1899 tw_1900 dL_law_1900 ⟨by decide +kernel, by decide +kernel, by decide +kernel⟩ ⟨rfl, rfl⟩ ⟨Nat.le_of_ble_eq_true rfl, Nat.le_of_ble_eq_true rfl⟩ rfl (Nat.le_of_ble_eq_true rfl) ⟨by show _ ≤ room_1.cells; omega, by show _ ≤ room_1.slots; omega⟩ (fun r88 w88 hf => ?_)
        refine V_icmp_eq X.1 (tgt := 2066) dL_law_1903 (by decide) hf (fun hf => ?_) (fun hf => ?_)
        · refine V_iinc X.1 dL_law_2066 rfl (by decide) ?_
          refine V_goto X.1 (tgt := 28) dL_law_2069 (by decide) ?_
          exact V_cut [0, 1, 2, 3, 4, 5] rfl (ih r _ _ _ _ (by omega) hf)
        · cases hf
      refine ite_c hf (fun h29 hf => ?_) (fun h29 hf => ?_)
      · refine V_tin X.1 (off := 1863) (tgt := 1908) dL_law_45 29 h29 (by decide) rfl (by decide) ?_
        unfold f_law_c29 at hf
        refine V_gload_n X.1 dL_law_1908 rfl rfl ?_
        refine V_gload X.1 dL_law_1909 rfl ?_
        refine V_lSW X hf [gr G 0, gr G 136] _ 2 (fun _ h => m_L_failShare h) tw_1297 tw_85 tw_1295 tw_1296 dL_law_1911 ⟨by decide +kernel, by decide +kernel, by decide +kernel⟩ ⟨Nat.le_of_ble_eq_true rfl, Nat.le_of_ble_eq_true rfl⟩ rfl (Nat.le_of_ble_eq_true rfl) ⟨Nat.le_trans (Nat.add_le_add_left (m := 5) (Nat.le_of_ble_eq_true rfl) _) (by omega), Nat.le_trans (Nat.add_le_add_left (m := 30) (Nat.le_of_ble_eq_true rfl) _) (by omega)⟩ (fun r89 w89 hf => ?_)
        refine V_widen (k + 5) (nn + 30) ⟨Nat.add_le_add_left (Nat.le_of_ble_eq_true rfl) _, Nat.add_le_add_left (Nat.le_of_ble_eq_true rfl) _⟩ ?_
        refine V_istore X.1 dL_law_1914 (by decide) ?_
        refine V_gload_n X.1 dL_law_1916 rfl rfl ?_
        refine V_cVF X.1 hf [] _ 0 (fun _ h => m_X9_failShare h) ob_85 rfl tw_1905 tw_95 tw_1902 tw_1903 tw_1904 dL_law_1917 ⟨by decide +kernel, by decide +kernel, by decide +kernel⟩ ⟨rfl, rfl⟩ ⟨Nat.le_of_ble_eq_true rfl, Nat.le_of_ble_eq_true rfl⟩ rfl (Nat.le_of_ble_eq_true rfl) ⟨by show _ ≤ room_1.cells; omega, by show _ ≤ room_1.slots; omega⟩ (fun r90 w90 hf => ?_)
        refine V_fstore X.1 dL_law_1920 (by decide) ?_
        refine V_gload_n X.1 dL_law_1922 rfl rfl ?_
        refine V_cVI X.1 hf [] _ 0 (fun _ h => m_X9_thrown h) ob_85 rfl tw_1565 tw_95 tw_1562 tw_1563 tw_1564 dL_law_1923 ⟨by decide +kernel, by decide +kernel, by decide +kernel⟩ ⟨rfl, rfl⟩ ⟨Nat.le_of_ble_eq_true rfl, Nat.le_of_ble_eq_true rfl⟩ rfl (Nat.le_of_ble_eq_true rfl) ⟨by show _ ≤ room_1.cells; omega, by show _ ≤ room_1.slots; omega⟩ (fun r91 w91 hf => ?_)
        refine V_iload X.1 dL_law_1926 rfl ?_
        refine V_icmp_eq X.1 (tgt := 1933) dL_law_1928 (by decide) hf (fun hf => ?_) (fun hf => ?_)
        · refine V_iload X.1 dL_law_1933 rfl ?_
          refine V_if_ne X.1 (tgt := 1971) dL_law_1935 (by decide) hf (fun hf => ?_) (fun hf => ?_)
          · refine V_gload X.1 dL_law_1938 rfl ?_
            refine V_iconst X.1 dL_law_1940 ?_
            refine V_dald X.1 ar_136 dL_law_1941 hf (fun hf => ?_)
            refine V_fload X.1 dL_law_1942 rfl ?_
            obtain ⟨hne, hf⟩ := ite_n hf
            refine V_f2d X.1 dL_law_1944 hne ?_
            obtain ⟨hne, hf⟩ := ite_n hf
            refine V_dcmpS X.1 (tgt := 1971) (pc2 := 1946) dL_law_1945 rfl dL_law_1946 (by decide) hne.1 hne.2 ?_
            refine V_goto X.1 (tgt := 2066) dL_law_1971 (by decide) ?_
            refine V_iinc X.1 dL_law_2066 rfl (by decide) ?_
            refine V_goto X.1 (tgt := 28) dL_law_2069 (by decide) ?_
            exact V_cut [0, 1, 2, 3, 4, 5] rfl (ih r _ _ _ _ (by omega) hf)
          · refine V_goto X.1 (tgt := 2066) dL_law_1971 (by decide) ?_
            refine V_iinc X.1 dL_law_2066 rfl (by decide) ?_
            refine V_goto X.1 (tgt := 28) dL_law_2069 (by decide) ?_
            exact V_cut [0, 1, 2, 3, 4, 5] rfl (ih r _ _ _ _ (by omega) hf)
        · cases hf
      refine ite_c hf (fun h30 hf => ?_) (fun h30 hf => ?_)
      · refine V_tin X.1 (off := 1929) (tgt := 1974) dL_law_45 30 h30 (by decide) rfl (by decide) ?_
        unfold f_law_c30 at hf
        refine V_gload_n X.1 dL_law_1974 rfl rfl ?_
        refine V_gload X.1 dL_law_1975 rfl ?_
        refine V_lSW X hf [gr G 0, gr G 136] _ 2 (fun _ h => m_L_meanSize h) tw_1304 tw_85 tw_1302 tw_1303 dL_law_1977 ⟨by decide +kernel, by decide +kernel, by decide +kernel⟩ ⟨Nat.le_of_ble_eq_true rfl, Nat.le_of_ble_eq_true rfl⟩ rfl (Nat.le_of_ble_eq_true rfl) ⟨Nat.le_trans (Nat.add_le_add_left (m := 5) (Nat.le_of_ble_eq_true rfl) _) (by omega), Nat.le_trans (Nat.add_le_add_left (m := 30) (Nat.le_of_ble_eq_true rfl) _) (by omega)⟩ (fun r92 w92 hf => ?_)
        refine V_widen (k + 5) (nn + 30) ⟨Nat.add_le_add_left (Nat.le_of_ble_eq_true rfl) _, Nat.add_le_add_left (Nat.le_of_ble_eq_true rfl) _⟩ ?_
        refine V_istore X.1 dL_law_1980 (by decide) ?_
        refine V_gload_n X.1 dL_law_1982 rfl rfl ?_
        refine V_cVD X.1 hf [] _ 0 (fun _ h => m_X9_meanSize h) ob_85 rfl tw_1909 tw_95 tw_1906 tw_1907 tw_1908 dL_law_1983 ⟨by decide +kernel, by decide +kernel, by decide +kernel⟩ ⟨rfl, rfl⟩ ⟨Nat.le_of_ble_eq_true rfl, Nat.le_of_ble_eq_true rfl⟩ rfl (Nat.le_of_ble_eq_true rfl) ⟨by show _ ≤ room_1.cells; omega, by show _ ≤ room_1.slots; omega⟩ (fun r93 w93 hf => ?_)
        refine V_dstore X.1 dL_law_1986 (by decide) ?_
        refine V_gload_n X.1 dL_law_1988 rfl rfl ?_
        refine V_cVI X.1 hf [] _ 0 (fun _ h => m_X9_thrown h) ob_85 rfl tw_1565 tw_95 tw_1562 tw_1563 tw_1564 dL_law_1989 ⟨by decide +kernel, by decide +kernel, by decide +kernel⟩ ⟨rfl, rfl⟩ ⟨Nat.le_of_ble_eq_true rfl, Nat.le_of_ble_eq_true rfl⟩ rfl (Nat.le_of_ble_eq_true rfl) ⟨by show _ ≤ room_1.cells; omega, by show _ ≤ room_1.slots; omega⟩ (fun r94 w94 hf => ?_)
        refine V_iload X.1 dL_law_1992 rfl ?_
        refine V_icmp_eq X.1 (tgt := 1999) dL_law_1994 (by decide) hf (fun hf => ?_) (fun hf => ?_)
        · refine V_iload X.1 dL_law_1999 rfl ?_
          refine V_if_ne X.1 (tgt := 2036) dL_law_2001 (by decide) hf (fun hf => ?_) (fun hf => ?_)
          · refine V_gload X.1 dL_law_2004 rfl ?_
            refine V_iconst X.1 dL_law_2006 ?_
            refine V_dald X.1 ar_136 dL_law_2007 hf (fun hf => ?_)
            refine V_dload X.1 dL_law_2008 rfl ?_
            obtain ⟨hne, hf⟩ := ite_n hf
            refine V_dcmpS X.1 (tgt := 2036) (pc2 := 2011) dL_law_2010 rfl dL_law_2011 (by decide) hne.1 hne.2 ?_
            refine V_goto X.1 (tgt := 2066) dL_law_2036 (by decide) ?_
            refine V_iinc X.1 dL_law_2066 rfl (by decide) ?_
            refine V_goto X.1 (tgt := 28) dL_law_2069 (by decide) ?_
            exact V_cut [0, 1, 2, 3, 4, 5] rfl (ih r _ _ _ _ (by omega) hf)
          · refine V_goto X.1 (tgt := 2066) dL_law_2036 (by decide) ?_
            refine V_iinc X.1 dL_law_2066 rfl (by decide) ?_
            refine V_goto X.1 (tgt := 28) dL_law_2069 (by decide) ?_
            exact V_cut [0, 1, 2, 3, 4, 5] rfl (ih r _ _ _ _ (by omega) hf)
        · cases hf
      refine ite_c hf (fun h31 hf => ?_) (fun h31 hf => ?_)
      · refine V_tin X.1 (off := 1994) (tgt := 2039) dL_law_45 31 h31 (by decide) rfl (by decide) ?_
        unfold f_law_c31 at hf
        refine V_widen (k + 5) (nn + 30) ⟨Nat.le_add_right _ _, Nat.le_add_right _ _⟩ ?_
        refine V_gload_n X.1 dL_law_2039 rfl rfl ?_
        refine V_cVL X.1 hf [] _ 0 (fun _ h => m_X8_checksum h) ob_0 rfl tw_482 tw_86 tw_479 tw_480 tw_481 dL_law_2040 ⟨by decide +kernel, by decide +kernel, by decide +kernel⟩ ⟨rfl, rfl⟩ ⟨Nat.le_of_ble_eq_true rfl, Nat.le_of_ble_eq_true rfl⟩ rfl (Nat.le_of_ble_eq_true rfl) ⟨by show _ ≤ room_1.cells; omega, by show _ ≤ room_1.slots; omega⟩ (fun r95 w95 hf => ?_)
        refine V_gload_n X.1 dL_law_2043 rfl rfl ?_
        refine V_cVL X.1 hf [] _ 0 (fun _ h => m_X9_checksum h) ob_85 rfl tw_1913 tw_95 tw_1910 tw_1911 tw_1912 dL_law_2044 ⟨by decide +kernel, by decide +kernel, by decide +kernel⟩ ⟨rfl, rfl⟩ ⟨Nat.le_of_ble_eq_true rfl, Nat.le_of_ble_eq_true rfl⟩ rfl (Nat.le_of_ble_eq_true rfl) ⟨by show _ ≤ room_1.cells; omega, by show _ ≤ room_1.slots; omega⟩ (fun r96 w96 hf => ?_)
        refine V_lcmp_eq X.1 (tgt := 2066) (pc2 := 2048) dL_law_2047 rfl dL_law_2048 (by decide) hf (fun hf => ?_) (fun hf => ?_)
        · refine V_iinc X.1 dL_law_2066 rfl (by decide) ?_
          refine V_goto X.1 (tgt := 28) dL_law_2069 (by decide) ?_
          exact V_cut [0, 1, 2, 3, 4, 5] rfl (ih r _ _ _ _ (by omega) hf)
        · cases hf
      refine ite_c hf (fun h32 hf => ?_) (fun h32 hf => ?_)
      · refine V_tin X.1 (off := 2008) (tgt := 2053) dL_law_45 32 h32 (by decide) rfl (by decide) ?_
        unfold f_law_c32 at hf
        refine V_widen (k + 5) (nn + 30) ⟨Nat.le_add_right _ _, Nat.le_add_right _ _⟩ ?_
        refine V_gload_n X.1 dL_law_2053 rfl rfl ?_
        refine V_cVI X.1 hf [] _ 0 (fun _ h => m_X8_isSound h) ob_0 rfl tw_492 tw_86 tw_489 tw_490 tw_491 dL_law_2054 ⟨by decide +kernel, by decide +kernel, by decide +kernel⟩ ⟨rfl, rfl⟩ ⟨Nat.le_of_ble_eq_true rfl, Nat.le_of_ble_eq_true rfl⟩ rfl (Nat.le_of_ble_eq_true rfl) ⟨by show _ ≤ room_1.cells; omega, by show _ ≤ room_1.slots; omega⟩ (fun r97 w97 hf => ?_)
        refine V_gload_n X.1 dL_law_2057 rfl rfl ?_
        refine V_cVI X.1 hf [] _ 0 (fun _ h => m_X9_isSound h) ob_85 rfl tw_1919 tw_95 tw_1916 tw_1917 tw_1918 dL_law_2058 ⟨by decide +kernel, by decide +kernel, by decide +kernel⟩ ⟨rfl, rfl⟩ ⟨Nat.le_of_ble_eq_true rfl, Nat.le_of_ble_eq_true rfl⟩ rfl (Nat.le_of_ble_eq_true rfl) ⟨by show _ ≤ room_1.cells; omega, by show _ ≤ room_1.slots; omega⟩ (fun r98 w98 hf => ?_)
        refine V_icmp_eq X.1 (tgt := 2066) dL_law_2061 (by decide) hf (fun hf => ?_) (fun hf => ?_)
        · refine V_iinc X.1 dL_law_2066 rfl (by decide) ?_
          refine V_goto X.1 (tgt := 28) dL_law_2069 (by decide) ?_
          exact V_cut [0, 1, 2, 3, 4, 5] rfl (ih r _ _ _ _ (by omega) hf)
        · cases hf
      refine V_tout X.1 (tgt := 2066) dL_law_45 (by omega) (by decide) ?_
      refine V_widen (k + 5) (nn + 30) ⟨Nat.le_add_right _ _, Nat.le_add_right _ _⟩ ?_
      refine V_iinc X.1 dL_law_2066 rfl (by decide) ?_
      refine V_goto X.1 (tgt := 28) dL_law_2069 (by decide) ?_
      exact V_cut [0, 1, 2, 3, 4, 5] rfl (ih r _ _ _ _ (by omega) hf)
