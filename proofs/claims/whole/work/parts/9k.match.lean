theorem rf_matchq {S : St} {w : WS} (hW : WF S) (h : JM S w) {a : Int} (ha : IR a) : Ev (f_X9_match a w) (RfQ (tq_match a S) w) := by
  have hc := hW.cnt.1
  have hl := hW.1.2
  have z0 : (up w 85 0 0) 85 0 = 0 := up_same _ _ _ _
  have z11 : (up w 85 0 0) 85 11 = pN S.2.2.1 := (up_slot _ _ _ _ (by omega)).trans h.cnt.1
  unfold f_X9_match tq_match f_X9_match_19
  rw [x_isPattern ha z11 hc, ob_some]
  by_cases c : 0 ≤ a ∧ a < pN S.2.2.1
  · rw [if_pos c, if_pos c]
    refine Ev.neg (by decide) ?_
    rw [f_fails0 z0 1 (by omega) 0 (Or.inl rfl), if_pos rfl, ob_some]
    refine Ev.pos rfl ?_
    obtain ⟨hE, hA, h4, h6⟩ := mt_ok hW c
    have J0 := h.z 0
    have F0 : FX [85] [0] w (up w 85 0 0) := FX.rf.put 0 _ (by simp) (by simp)
    generalize up w 85 0 0 = w0 at J0 F0 z0 z11 ⊢
    refine Ev.bd (m_spare w0) ?_
    rintro v w1 ⟨q1, q2, q3⟩
    have hS1 : SP w1 S.2.2.2.1 := ⟨w0, J0.2.2.2.1, q2, q3⟩
    have J1 : JM S w1 := J0.fx (fun c hc1 hc2 hc3 => q1 c (by
      intro q
      have : ∀ c ∈ [86, 89, 90, 99, 130, 125, 126] ++ LPr, c ∉ [132, 133] := by decide
      exact this c (by rw [List.mem_append]; exact hc3) q)) (fun k _ => by rw [q1 85 (by simp)])
    refine Ev.bd (m_takeTyped (w := w1) (by rw [J1.1.1]; omega)) ?_
    rintro v w2 ⟨p1, p2, p3, p4⟩
    have en : (w1 85 2).toNat = S.1.length := by rw [J1.1.1]; exact Int.toNat_natCast _
    rw [J1.1.1] at p3
    rw [en, J1.1.2] at p4
    have J2 : JM S w2 := J1.fx (fun c hc1 hc2 hc3 => p1 c (by
      intro q
      have : ∀ c ∈ [86, 89, 90, 99, 130, 125, 126] ++ LPr, c ∉ [85, 100] := by decide
      exact this c (by rw [List.mem_append]; exact hc3) q)) (fun k hk => p2 k (by intro e; rw [e] at hk; exact absurd hk (by decide)))
    have hS2 : SP w2 S.2.2.2.1 := hS1.fr (p1 132 (by simp)) (p1 133 (by simp))
    have hEM : EM (pE S.2.2.1 S.1 a) w2 := by
      have r := fun i => congrFun (congrArg Prod.fst J2.2.2.1) i
      exact ⟨r 0, r 1, r 2, congrArg Prod.snd J2.2.2.1, J2.2.2.2.2.1.1, p4, p3, congrFun (r 15) 0⟩
    have F2 : FX (85 :: KmL) [0, 20, 43, 22, 27, 34, 38, 39, 40, 41, 42, 44] w w2 := ((F0.sub (by decide) (by decide)).tr (FX.of q1 (by decide) (by decide))).tr ⟨p1.sub (by decide), fun k hk => p2 k (fun e => hk (by rw [e]; decide))⟩
    have z02 : w2 85 0 = 0 := (p2 0 (by omega)).trans (by rw [q1 85 (by simp)]; exact z0)
    refine Ev.bd (m_matches hE hW.2.2.2.1 hEM J2.2.2.2.1) ?_
    rintro v w3 ⟨s1, s2, rfl⟩
    have em : aEnd (pE S.2.2.1 S.1 a) (aSt0 S.2.2.2.1) = mtE a S := rfl
    rw [em] at s2 ⊢
    generalize mtE a S = R at *
    have F3 : FX (85 :: KmL) [0, 20, 43, 22, 27, 34, 38, 39, 40, 41, 42, 44] w w3 := F2.tr (FX.sub (L := LM) (S := 43 :: SM) s1 (by decide) (by decide))
    have z03 : w3 85 0 = 0 := (s1.2 0 (by decide)).trans z02
    have hS3 : SP w3 S.2.2.2.1 := hS2.fr (s1.1 132 (by decide)) (s1.1 133 (by decide))
    have o99 : RM w3 99 60 50 := RM_fr (s1.1 99 (by decide)) J2.2.2.2.2.1.2.1
    have o130 : RM w3 130 60 30 := RM_fr (s1.1 130 (by decide)) J2.2.2.2.2.1.2.2
    have sl : ∀ {x : WS}, FX (85 :: KmL) [0, 20, 43, 22, 27, 34, 38, 39, 40, 41, 42, 44] w x → ∀ k, k ∈ LPs → x 85 k = w 85 k := fun F k hk => F.2 k (by
      intro q
      have : ∀ k ∈ LPs, k ∉ [0, 20, 43, 22, 27, 34, 38, 39, 40, 41, 42, 44] := by decide
      exact this k hk q)
    have cl : ∀ {x : WS} {S' : List Nat}, FX (85 :: KmL) S' w x → ∀ c, c < 85 ∨ 135 ≤ c → x c = w c := fun F c hc => F.1 c (by
      intro q
      have : ∀ c ∈ (85 :: KmL), 85 ≤ c ∧ c < 135 := by decide
      have := this c q
      omega)
    obtain ⟨x1, x2⟩ := s2.vm (by omega)
    by_cases c6 : R.1 = 6
    · rw [if_pos c6, c6]
      refine Ev.pos rfl ?_
      refine Ev.bd (m_unspareV hS3 x2.2) ?_
      rintro v w4 ⟨t1, t2⟩
      have F4 : FX (85 :: KmL) [0, 20, 43, 22, 27, 34, 38, 39, 40, 41, 42, 44] w w4 := F3.tr (FX.of t1 (by decide) (by decide))
      have J4 : JM S w4 := h.via (F4.1.sub (by decide)) (sl F4) (RM_fr (t1 99 (by simp)) o99) (RM_fr (t1 130 (by simp)) o130) t2
      unfold f_X9_match_51 f_X9_match_62
      refine Ev.pos rfl ?_
      rw [f_fails0 (by rw [t1 85 (by simp)]; exact z03) 2 (by omega) 1 (Or.inr rfl), if_neg (by decide), ob_some]
      refine Ev.neg (by decide) (Ev.ret ⟨up_same _ _ _ _, fun q => absurd (show (2 : Int) = 0 from q) (by decide), J4.z 2, fun c hc => ?_⟩)
      rw [up_row _ _ _ (by omega)]
      exact cl F4 c hc
    rw [if_neg c6]
    have J3 : JM (stV S (vOf R)) w3 := h.via (F3.1.sub (by decide)) (sl F3) o99 o130 x2
    -- what is set down of the match
    have put : ∀ (w4 : WS) (ok : Int), w4 = (up (up (up (up (up w3 85 72 1) 85 73 ok) 85 76 (w3 85 22)) 85 74 (w3 85 43)) 85 75 (w3 85 39)) → JM (S.1, S.2.1, S.2.2.1, vOf R, S.2.2.2.2.1, (1, ok, w3 85 43, w3 85 39, w3 85 22, (S.1.length : Int))) w4 ∧ FX (85 :: KmL) [0, 20, 43, 22, 27, 34, 38, 39, 40, 41, 42, 44, 72, 73, 74, 75, 76] w w4 ∧ (∀ c, c ≠ 85 → w4 c = w3 c) ∧ w4 85 73 = ok ∧ w4 85 0 = 0 ∧ (∀ k, k < 72 → w4 85 k = w3 85 k) := by
      intro w4 ok hw
      have g : ∀ c, c ≠ 85 → w4 c = w3 c := fun c hc => by rw [hw, up_row _ _ _ hc, up_row _ _ _ hc, up_row _ _ _ hc, up_row _ _ _ hc, up_row _ _ _ hc]
      have s72 : w4 85 72 = 1 := by rw [hw, up_slot _ _ _ _ (by omega), up_slot _ _ _ _ (by omega), up_slot _ _ _ _ (by omega), up_slot _ _ _ _ (by omega), up_same]
      have s73 : w4 85 73 = ok := by rw [hw, up_slot _ _ _ _ (by omega), up_slot _ _ _ _ (by omega), up_slot _ _ _ _ (by omega), up_same]
      have s76 : w4 85 76 = w3 85 22 := by rw [hw, up_slot _ _ _ _ (by omega), up_slot _ _ _ _ (by omega), up_same]
      have s74 : w4 85 74 = w3 85 43 := by rw [hw, up_slot _ _ _ _ (by omega), up_same]
      have s75 : w4 85 75 = w3 85 39 := by rw [hw, up_same]
      have so : ∀ k, k < 72 → w4 85 k = w3 85 k := fun k hk => by rw [hw, up_slot _ _ _ _ (by omega), up_slot _ _ _ _ (by omega), up_slot _ _ _ _ (by omega), up_slot _ _ _ _ (by omega), up_slot _ _ _ _ (by omega)]
      have F4 : FX (85 :: KmL) [0, 20, 43, 22, 27, 34, 38, 39, 40, 41, 42, 44, 72, 73, 74, 75, 76] w w4 := by
        rw [hw]
        exact (((((F3.sub (by decide) (by decide)).put 72 _ (by decide) (by decide)).put 73 _ (by decide) (by decide)).put 76 _ (by decide) (by decide)).put 74 _ (by decide) (by decide)).put 75 _ (by decide) (by decide)
      clear hw
      obtain ⟨⟨a1, a2⟩, a3, a4, a5, ⟨b1, b2, b3⟩, a7, a8⟩ := J3
      refine ⟨⟨⟨(so 2 (by omega)).trans a1, by show sg (w4 86) _ _ = _; rw [g 86 (by omega)]; exact a2⟩, (so 5 (by omega)).trans a3, ?_, a5.fr (g 89 (by omega)) (g 90 (by omega)), ⟨RM_fr (g 88 (by omega)) b1, RM_fr (g 99 (by omega)) b2, RM_fr (g 130 (by omega)) b3⟩, ?_, s72, s73, s76, fun _ => ⟨s74, s75⟩⟩, F4, g, s73, (so 0 (by omega)).trans z03, so⟩
      · rw [pvR_eq (w := w3) (fun c hc => g c (by have := LPr_ge c hc; omega)) (fun k hk => so k (by simp at hk; omega))]
        exact a4
      · rw [so 59 (by omega), so 61 (by omega), so 62 (by omega), so 60 (by omega), so 63 (by omega), g 125 (by omega), g 126 (by omega)]
        exact a7
    have sk : ∀ (u : WS) (q k : Nat) (v : Int), q < 72 → 72 ≤ k → (up u 85 k v) 85 q = u 85 q := fun u q k v h1 h2 => up_slot _ _ _ _ (by omega)
    have k22 : ∀ (u : WS) (k : Nat) (v : Int), 72 ≤ k → (up u 85 k v) 85 22 = u 85 22 := fun u k v h2 => sk u 22 k v (by omega) h2
    by_cases c4 : R.1 = 4
    · rw [if_pos c4, c4]
      refine Ev.neg (by decide) ?_
      unfold f_X9_match_51 f_X9_match_62
      refine Ev.neg (by decide) ?_
      show Ev (ob (f_X9_fails 0 2 w3) _) _
      rw [f_fails0 z03 2 (by omega) 0 (Or.inl rfl), if_pos rfl, ob_some]
      refine Ev.pos rfl (Ev.pos rfl ?_)
      obtain ⟨y1, y2, y3, y4, y5, y6⟩ := s2.md4 c4
      obtain ⟨z1, z2, z3, z4, z5⟩ := hA.md4 c4
      unfold f_X9_match_87
      rw [if_pos (Or.inr rfl)]
      simp (disch := omega) only [sk]
      obtain ⟨k1, k2, k3, k4, k5, k6⟩ := put _ 1 rfl
      rw [y4, y5, y6] at k1 k2 k3 k4 k5 k6 ⊢
      generalize up (up (up (up (up w3 85 72 1) 85 73 1) 85 76 (bOf R)) 85 74 (sOf R)) 85 75 (cOf R) = w4 at k1 k2 k3 k4 k5 k6 ⊢
      rw [k4]
      refine Ev.neg (by decide) ?_
      have E4 : EM (pE S.2.2.1 S.1 a) w4 := by
        obtain ⟨u1, u2, u3, u4, u5, u6, u7, u8⟩ := y1
        exact ⟨(k3 91 (by omega)).trans u1, (k3 92 (by omega)).trans u2, (k3 93 (by omega)).trans u3, (rM_fr (k3 87 (by omega)) (k3 88 (by omega))).trans u4, RM_fr (k3 88 (by omega)) u5, by rw [k3 100 (by omega)]; exact u6, (k6 20 (by omega)).trans u7, (k6 21 (by omega)).trans u8⟩
      have T4 : tkR w4 (tOf R) := y3.fr (k6 38 (by omega)) (k3 111 (by omega)) (k3 112 (by omega)) (k3 113 (by omega))
      refine Ev.bd (m_assignKept (E := pE S.2.2.1 S.1 a) hl z1 (by omega) E4 k1.2.2.2.1 T4) ?_
      rintro v w5 ⟨-, t1, t2⟩
      have t2 : VM w5 (asgT S.1 (vOf R) (tOf R)) := t2
      rw [show w5 85 73 = 1 from by rw [t1 85 (by simp)]; exact k4]
      refine Ev.pos (Or.inr rfl) (Ev.ret ⟨by rw [t1 85 (by simp)]; exact k5, fun _ => rfl, ?_, fun c hc => ?_⟩)
      · exact k1.via (t1.sub (by decide)) (fun k _ => by rw [t1 85 (by simp)]) (RM_fr (t1 99 (by simp)) k1.2.2.2.2.1.2.1) (RM_fr (t1 130 (by simp)) k1.2.2.2.2.1.2.2) t2
      · rw [t1 c (by simp; omega)]
        exact cl k2 c hc
    · rw [if_neg c4]
      have m5 : R.1 = 5 := by omega
      rw [m5]
      refine Ev.neg (by decide) ?_
      unfold f_X9_match_51 f_X9_match_62
      refine Ev.neg (by decide) ?_
      show Ev (ob (f_X9_fails 0 2 w3) _) _
      rw [f_fails0 z03 2 (by omega) 0 (Or.inl rfl), if_pos rfl, ob_some]
      refine Ev.pos rfl (Ev.neg (by decide) ?_)
      have y6 : w3 85 22 = bOf R := by
        obtain ⟨md, g, cc, K, C, T, b, V, s⟩ := R
        have m5 : md = 5 := m5
        subst m5
        exact s2.2.1
      unfold f_X9_match_87
      rw [if_pos (Or.inl rfl)]
      simp (disch := omega) only [sk]
      obtain ⟨k1, k2, k3, k4, k5, k6⟩ := put _ 0 rfl
      rw [y6] at k1
      rw [y6]
      rw [y6] at k2 k3 k4 k5 k6
      generalize up (up (up (up (up w3 85 72 1) 85 73 0) 85 76 (bOf R)) 85 74 (w3 85 43)) 85 75 (w3 85 39) = w4 at k1 k2 k3 k4 k5 k6 ⊢
      rw [k4]
      refine Ev.pos rfl (Ev.pos (Or.inl rfl) (Ev.ret ⟨k5, fun _ => rfl, ?_, cl k2⟩))
      obtain ⟨l1, l2, l3, l4, l5, l6, l7⟩ := k1
      exact ⟨l1, l2, l3, l4, l5, l6, l7.1, l7.2.1, l7.2.2.1, fun q => absurd (show (0 : Int) = 1 from q) (by decide)⟩
  · rw [if_neg c, if_neg c]
    refine Ev.pos rfl ?_
    rw [f_fails0 z0 1 (by omega) 1 (Or.inr rfl), if_neg (by decide), ob_some]
    exact Ev.neg (by decide) (Ev.ret (RfQ_no h 1 0 _ (by decide)))
