/-! the reference comes back from a call -/
def LBm : List Nat := [85, 89, 90, 126, 131]
theorem RB.back {P : PV} {w : WS} {V : Nat → List Int} (h : RB P w V) {t v : Int} (ht : 0 ≤ t ∧ t < 26) (hv : 0 ≤ v ∧ v < 30) {L : List Int} (hL : rM w 129 130 60 v.toNat = L) (sL : SO L ∧ L.length ≤ 60) : Ev (f_X9_putBack v t w) (fun _ w' => Fr [89, 90] w w' ∧ RB P w' (vs V t.toNat L)) := by
  refine Ev.mono (m_putBack h.2.2.1.2 h.2.1.2.2 ht hv) ?_
  rintro r w' ⟨-, q1, q2, q3⟩
  rw [h.2.2.1.1, hL] at q3
  have F : FX [89, 90] [] w w' := FX.of q1 (by simp) (by simp)
  exact ⟨q1, h.fr F (by decide) (by simp) (RM_fr (q1 99 (by simp)) h.2.1.2.1) (RM_fr (q1 130 (by simp)) h.2.1.2.2) ⟨q3, q2⟩ (h.2.2.2.vs sL.1 sL.2)⟩
theorem m_comeBack {P : PV} (hP : POK P) {w : WS} {V : Nat → List Int} {x : Frm} {D : List Frm} (h : RRn P w V (x :: D)) {a : Int} (ha : a = 0 ∨ a = 1) : Ev (f_X9_comeBack a w) (fun v w' => v = x.1 ∧ FX LBm [63, 69] w w' ∧ w' 126 = aFl x.1 (decide (a = 1)) (w 126) ∧ RRn P w' (backV P x (decide (a = 1)) V) D) := by
  obtain ⟨hB, h63, hD10, ⟨k1, k0, k2, k3, k4, k5⟩, hDK⟩ := h
  obtain ⟨xp, xk, xt, xa, xb, xc⟩ := hDK x List.mem_cons_self
  have hc40 := hP.2.2.2.2.2.2.1
  obtain ⟨s1, s2, s3, s4, s5, s6, s7⟩ := hP.2.2.2.2.2.2.2.1 x.1 xp.1 xp.2
  have hf := s7 xk
  obtain ⟨n0, n1, n2, n3, n4, n5, n6⟩ := (hP.2.2.2.2.2.2.2.2 (sP P x.1) hf.1 hf.2).2 xt
  rw [List.length_cons] at h63 hD10
  have e63 : w 85 63 - 1 = (D.length : Int) := by omega
  unfold f_X9_comeBack
  rw [up_same, e63]
  have F0 : FX [85] [63] w (up w 85 63 (D.length : Int)) := FX.rf.put 63 _ (by simp) (by simp)
  have B0 := hB.oth F0 (by decide) (by decide) (by decide)
  have d0 : (up w 85 63 (D.length : Int)) 85 63 = D.length := up_same _ _ _ _
  generalize up w 85 63 (D.length : Int) = w1 at F0 B0 d0 ⊢
  rw [ixn (k := D.length) (by omega), Int.toNat_natCast, show w1 127 D.length = x.1 from by rw [F0.1 127 (by simp)]; exact k1, show w1 128 D.length = sP P x.1 from by rw [F0.1 128 (by simp)]; exact k0, wr_eq (a := sP P x.1) (by omega), (B0.nm (sP P x.1)).2.2, wr_eq (a := fN P (sP P x.1) 2) (by omega)]
  refine Ev.pos (by first | (simp (disch := omega) only [wr_eq] <;> omega) | omega) ?_; refine Ev.pos (by first | (simp (disch := omega) only [wr_eq] <;> omega) | omega) ?_; refine Ev.pos (by first | (simp (disch := omega) only [wr_eq] <;> omega) | omega) ?_; refine Ev.pos (by first | (simp (disch := omega) only [wr_eq] <;> omega) | omega) ?_
  obtain ⟨v2, hv2⟩ : ∃ k : Nat, fN P (sP P x.1) 2 = k := ⟨(fN P (sP P x.1) 2).toNat, by omega⟩
  rw [hv2, Int.toNat_natCast]
  have lv := lnM (s := 89) B0.2.2.1.2 v2
  rw [B0.2.2.1.1] at lv
  -- what the third name holds is kept
  have F1 : FX [85] [69] w1 (up w1 85 69 (w1 90 v2)) := FX.rf.put 69 _ (by simp) (by simp)
  have d1 : (up w1 85 69 (w1 90 v2)) 85 69 = (V v2).length := by rw [up_same]; exact lv.1.symm
  have B1 := B0.oth F1 (by decide) (by decide) (by decide)
  generalize up w1 85 69 (w1 90 v2) = w2 at F1 d1 B1 ⊢
  have F2 : FX [131] [] w2 (ww w2 131 0 (fun k => w2 89 (v2 * 60 + k)) (V v2).length) := FX.of (ww_Fr _ _ _ _ _) (by simp) (by simp)
  have hk2 : sg ((ww w2 131 0 (fun k => w2 89 (v2 * 60 + k)) (V v2).length) 131) 0 (V v2).length = V v2 := by
    have e : V v2 = sg (w2 89) (v2 * 60) (V v2).length := by
      have e1 : rM w2 89 90 60 v2 = V v2 := congrFun B1.2.2.1.1 v2
      have e2 := lnM (s := 89) B1.2.2.1.2 v2
      rw [e1] at e2
      have e3 : (w2 90 v2).toNat = (V v2).length := by omega
      rw [← e3]
      exact e1.symm
    generalize (V v2).length = n at *
    rw [e]
    refine sg_congr (fun k hk => ?_)
    exact ww_in _ _ _ _ hk
  have hloop : f_X9_comeBack_52 FU a x.1 (sP P x.1) v2 0 w2 = f_X9_comeBack_52 1 a x.1 (sP P x.1) v2 ((V v2).length : Nat) (ww w2 131 0 (fun k => w2 89 (v2 * 60 + k)) (V v2).length) := by
    refine ww_loop (L := fun m k w => f_X9_comeBack_52 m a x.1 (sP P x.1) v2 k w) (w0 := w2) (c := 131) (o := 0) (g := fun k => w2 89 (v2 * 60 + k)) (n := (V v2).length) (fun m k hk => ?_) (fun m => ?_) FU (by unfold FU; omega)
    · show f_X9_comeBack_52 (m + 1) a x.1 (sP P x.1) v2 k _ = _
      rw [f_X9_comeBack_52_s, ww_c _ _ _ _ (by omega : (85 : Nat) ≠ 131), ww_c _ _ _ _ (by omega : (89 : Nat) ≠ 131), d1]
      simp (disch := omega) only [ixn, ix60, Int.toNat_natCast]
      rw [Nat.zero_add]
      exact (if_pos (by first | (simp (disch := omega) only [wr_eq] <;> omega) | omega)).trans ((if_pos (by first | (simp (disch := omega) only [wr_eq] <;> omega) | omega)).trans ((if_pos (by first | (simp (disch := omega) only [wr_eq] <;> omega) | omega)).trans rfl))
    · show f_X9_comeBack_52 (m + 1) a x.1 (sP P x.1) v2 ((V v2).length : Nat) _ = f_X9_comeBack_52 (0 + 1) a x.1 (sP P x.1) v2 ((V v2).length : Nat) _
      have hn : ¬ wr ((V v2).length : Int) < wr ((ww w2 131 0 (fun k => w2 89 (v2 * 60 + k)) (V v2).length) 85 69) := by rw [ww_c _ _ _ _ (by omega : (85 : Nat) ≠ 131), d1]; exact Int.lt_irrefl _
      rw [f_X9_comeBack_52_s, f_X9_comeBack_52_s, if_neg hn, if_neg hn]
  rw [hloop]
  clear hloop
  have d2 : (ww w2 131 0 (fun k => w2 89 (v2 * 60 + k)) (V v2).length) 85 69 = (V v2).length := by rw [F2.1 85 (by simp)]; exact d1
  have F02 : FX [85, 131] [63, 69] w (ww w2 131 0 (fun k => w2 89 (v2 * 60 + k)) (V v2).length) := ((F0.sub (by simp) (by simp)).tr (F1.sub (by simp) (by simp))).tr (F2.sub (by simp) (by simp))
  have b63 : (ww w2 131 0 (fun k => w2 89 (v2 * 60 + k)) (V v2).length) 85 63 = D.length := by rw [F2.1 85 (by simp), F1.2 63 (by simp)]; exact d0
  have B2 := B1.oth F2 (by decide) (by decide) (by decide)
  generalize ww w2 131 0 (fun k => w2 89 (v2 * 60 + k)) (V v2).length = w3 at F02 F2 hk2 d2 B2 b63 ⊢
  rw [show (1 : Nat) = 0 + 1 from rfl, f_X9_comeBack_52_s, d2, b63, wr_eq (a := sP P x.1) (by omega), (B2.nm (sP P x.1)).1, wr_eq (a := x.1) (by omega)]
  refine Ev.neg (by first | (simp (disch := omega) only [wr_eq] <;> omega) | omega) ?_; refine Ev.pos (by first | (simp (disch := omega) only [wr_eq] <;> omega) | omega) ?_
  have r3 : rM w3 129 130 60 = rM w 129 130 60 := rM_fr (F02.1 129 (by simp)) (F02.1 130 (by simp))
  refine Ev.bd (B2.back (t := fN P (sP P x.1) 0) (v := 3 * (D.length : Int)) n1 (by omega) (L := x.2.1) (by rw [r3, show (3 * (D.length : Int)).toNat = 3 * D.length from by omega]; exact k2) xa) ?_
  rintro v w4 ⟨a1, B4⟩
  have b4 : w4 85 63 = D.length := by rw [a1 85 (by simp)]; exact b63
  rw [b4, (B4.nm (sP P x.1)).2.1]
  refine Ev.pos (by first | (simp (disch := omega) only [wr_eq] <;> omega) | omega) ?_
  refine Ev.bd (B4.back (t := fN P (sP P x.1) 1) (v := 3 * (D.length : Int) + 1) n2 (by omega) (L := x.2.2.1) (by rw [rM_fr (a1 129 (by simp)) (a1 130 (by simp)), r3, show (3 * (D.length : Int) + 1).toNat = 3 * D.length + 1 from by omega]; exact k3) xb) ?_
  rintro v w5 ⟨a2, B5⟩
  have a12 := a1.tr a2
  have b5 : w5 85 63 = D.length := by rw [a12 85 (by simp)]; exact b63
  rw [b5]
  refine Ev.bd (B5.back (t := (v2 : Int)) (v := 3 * (D.length : Int) + 2) (by omega) (by omega) (L := x.2.2.2) (by rw [rM_fr (a12 129 (by simp)) (a12 130 (by simp)), r3, show (3 * (D.length : Int) + 2).toNat = 3 * D.length + 2 from by omega]; exact k4) xc) ?_
  rintro v w6 ⟨a3, B6⟩
  have a13 : Fr [89, 90] w3 w6 := a12.tr a3
  have b6 : w6 85 63 = D.length := by rw [a13 85 (by simp)]; exact b63
  have F6 : FX LBm [63, 69] w w6 := (F02.sub (by decide) (by simp)).tr (FX.of a13 (by decide) (by simp))
  have st6 : stkR P w6 D := k5.mono (fun k _ => by rw [F6.1 127 (by decide)]) (fun k _ => by rw [F6.1 128 (by decide)]) (fun k _ => by rw [rM_fr (F6.1 129 (by decide)) (F6.1 130 (by decide))])
  have DK : DOK P D := fun y hy => hDK y (List.mem_cons_of_mem _ hy)
  refine Ev.pos (by first | (simp (disch := omega) only [wr_eq] <;> omega) | omega) ?_
  unfold backV aFl
  rw [hv2, Int.toNat_natCast]
  rcases ha with rfl | rfl
  · refine Ev.pos rfl ?_
    refine Ev.pos (by first | (simp (disch := omega) only [wr_eq] <;> omega) | omega) ?_; refine Ev.pos (by first | (simp (disch := omega) only [wr_eq] <;> omega) | omega) ?_
    rw [if_neg (by decide), if_neg (by decide)]
    have F7 : FX [126] [] w6 (up w6 126 x.1.toNat (w6 126 x.1.toNat + 1)) := FX.rf.oth 126 _ _ (by simp) (by omega)
    have bu := bump_up w6 126 x.1.toNat
    have e126 : w6 126 = w 126 := by rw [a13 126 (by simp)]; exact F02.1 126 (by simp)
    rw [e126] at bu
    rw [e126]
    rw [e126] at F7
    generalize up w6 126 x.1.toNat (w 126 x.1.toNat + 1) = w7 at F7 bu ⊢
    refine Ev.ret ⟨rfl, F6.tr (F7.sub (by decide) (by simp)), bu, B6.oth F7 (by decide) (by simp) (by decide), by rw [F7.1 85 (by simp)]; exact b6, by omega, ?_, DK⟩
    exact st6.mono (fun k _ => by rw [F7.1 127 (by simp)]) (fun k _ => by rw [F7.1 128 (by simp)]) (fun k _ => by rw [rM_fr (F7.1 129 (by simp)) (F7.1 130 (by simp))])
  · refine Ev.neg (by decide) ?_
    obtain ⟨sv, hsv⟩ : ∃ k : Nat, sV P x.1 = k := ⟨(sV P x.1).toNat, by omega⟩
    have e69 : w6 85 69 = (V v2).length := by rw [a13 85 (by simp)]; exact d2
    rw [show w6 115 x.1.toNat = sV P x.1 from congrFun (B6.row 7) _, hsv, ixn (k := sv) (by omega), Int.toNat_natCast, e69]
    refine Ev.pos (by first | (simp (disch := omega) only [wr_eq] <;> omega) | omega) ?_
    rw [if_pos (by decide), if_pos (by decide)]
    have h7 := rM_ww (w := w6) (s := 89) (z := 90) (st := 60) (n := 26) (a := sv) (c := (V v2).length) (g := fun k => w6 131 (0 + k)) (zc := ((V v2).length : Int)) (by omega) B6.2.2.1.2 (by omega) (by omega) rfl
    have hk6 : (List.range (V v2).length).map (fun k => w6 131 (0 + k)) = V v2 := by
      rw [a13 131 (by simp)]
      exact hk2
    rw [hk6, B6.2.2.1.1] at h7
    refine Ev.eq (v := x.1) (w := ww (up w6 90 sv ((V v2).length : Int)) 89 (sv * 60) (fun k => w6 131 (0 + k)) (V v2).length) ?_ ?_
    · refine ww_loop (L := fun m k w => f_X9_comeBack_161 m x.1 sv k w) (w0 := up w6 90 sv ((V v2).length : Int)) (c := 89) (o := sv * 60) (g := fun k => w6 131 (0 + k)) (n := (V v2).length) (fun m k hk => ?_) (fun m => ?_) FU (by unfold FU; omega)
      · show f_X9_comeBack_161 (m + 1) x.1 sv k _ = _
        rw [f_X9_comeBack_161_s, ww_c _ _ _ _ (by omega : (85 : Nat) ≠ 89), ww_c _ _ _ _ (by omega : (131 : Nat) ≠ 89), up_row _ _ _ (by omega), up_row _ _ _ (by omega), e69]
        simp (disch := omega) only [ixn, ix60, Int.toNat_natCast]
        rw [Nat.zero_add]
        exact (if_pos (by first | (simp (disch := omega) only [wr_eq] <;> omega) | omega)).trans ((if_pos (by first | (simp (disch := omega) only [wr_eq] <;> omega) | omega)).trans ((if_pos (by first | (simp (disch := omega) only [wr_eq] <;> omega) | omega)).trans rfl))
      · show f_X9_comeBack_161 (m + 1) x.1 sv ((V v2).length : Nat) _ = _
        rw [f_X9_comeBack_161_s, ww_c _ _ _ _ (by omega : (85 : Nat) ≠ 89), up_row _ _ _ (by omega), e69]
        exact if_neg (Int.lt_irrefl _)
    · obtain ⟨h71, h72, h73⟩ := h7
      generalize ww (up w6 90 sv ((V v2).length : Int)) 89 (sv * 60) (fun k => w6 131 (0 + k)) (V v2).length = w7 at h71 h72 h73 ⊢
      have F7 : FX [89, 90] [] w6 w7 := FX.of h73 (by simp) (by simp)
      refine ⟨rfl, F6.tr (F7.sub (by decide) (by simp)), ?_, ?_, by rw [F7.1 85 (by simp)]; exact b6, by omega, ?_, DK⟩
      · rw [F7.1 126 (by simp), a13 126 (by simp)]; exact F02.1 126 (by simp)
      · exact B6.fr F7 (by decide) (by simp) (RM_fr (F7.1 99 (by simp)) B6.2.1.2.1) (RM_fr (F7.1 130 (by simp)) B6.2.1.2.2) ⟨h71, h72⟩ (B6.2.2.2.vs (hB.2.2.2 _).1 (hB.2.2.2 _).2)
      · exact st6.mono (fun k _ => by rw [F7.1 127 (by simp)]) (fun k _ => by rw [F7.1 128 (by simp)]) (fun k _ => by rw [rM_fr (F7.1 129 (by simp)) (F7.1 130 (by simp))])
