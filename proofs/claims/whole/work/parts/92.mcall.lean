/-! the reference's calls -/
theorem RB.nm {P : PV} {w : WS} {V : Nat → List Int} (h : RB P w V) (f : Int) : w 122 f.toNat = fN P f 0 ∧ w 123 f.toNat = fN P f 1 ∧ w 124 f.toNat = fN P f 2 := by
  have e : ∀ i, nmR w (3 * f.toNat + i) = fN P f i := fun i => congrFun (h.row 14) _
  have e0 := e 0
  have e1 := e 1
  have e2 := e 2
  unfold nmR at e0 e1 e2
  rw [if_pos (by omega), show (3 * f.toNat + 0) / 3 = f.toNat from by omega] at e0
  rw [if_neg (by omega), if_pos (by omega), show (3 * f.toNat + 1) / 3 = f.toNat from by omega] at e1
  rw [if_neg (by omega), if_neg (by omega), show (3 * f.toNat + 2) / 3 = f.toNat from by omega] at e2
  exact ⟨e0, e1, e2⟩
theorem rM_clr {w : WS} {s z st n : Nat} (hsz : s ≠ z) (ho : RM w z st n) (k : Nat) : rM (up w z k 0) s z st = vs (rM w s z st) k [] ∧ RM (up w z k 0) z st n := by
  constructor
  · funext r
    unfold rM vs
    rw [up_row _ _ _ hsz]
    by_cases e : r = k
    · rw [if_pos e, e, up_same]; rfl
    · rw [if_neg e, up_slot _ _ _ _ e]
  · intro r
    by_cases e : r = k
    · rw [e, up_same]
      exact ⟨⟨Int.le_refl 0, by omega⟩, fun _ => rfl⟩
    · rw [up_slot _ _ _ _ e]
      exact ho r
def stkR (P : PV) (w : WS) : List Frm → Prop
  | [] => True
  | x :: D => w 127 D.length = x.1 ∧ w 128 D.length = sP P x.1 ∧ rM w 129 130 60 (3 * D.length) = x.2.1 ∧ rM w 129 130 60 (3 * D.length + 1) = x.2.2.1 ∧ rM w 129 130 60 (3 * D.length + 2) = x.2.2.2 ∧ stkR P w D
theorem stkR.mono {P : PV} {w w' : WS} : ∀ {D : List Frm}, (∀ k, k < D.length → w' 127 k = w 127 k) → (∀ k, k < D.length → w' 128 k = w 128 k) → (∀ k, k < 3 * D.length → rM w' 129 130 60 k = rM w 129 130 60 k) → stkR P w D → stkR P w' D := by
  intro D
  induction D with
  | nil => intro _ _ _ _; trivial
  | cons x D ih =>
    rintro h1 h0 h2 ⟨g1, g0, g2, g3, g4, g5⟩
    rw [List.length_cons] at h1 h0 h2
    exact ⟨(h1 _ (by omega)).trans g1, (h0 _ (by omega)).trans g0, (h2 _ (by omega)).trans g2, (h2 _ (by omega)).trans g3, (h2 _ (by omega)).trans g4, ih (fun k hk => h1 k (by omega)) (fun k hk => h0 k (by omega)) (fun k hk => h2 k (by omega)) g5⟩
/-- the reference's run under way -/
def RRn (P : PV) (w : WS) (V : Nat → List Int) (D : List Frm) : Prop := RB P w V ∧ w 85 63 = D.length ∧ D.length ≤ 10 ∧ stkR P w D ∧ DOK P D
def LKm : List Nat := [85, 89, 90, 97, 98, 99, 127, 128, 129, 130]
theorem RB.save {P : PV} {w : WS} {V : Nat → List Int} (h : RB P w V) {t v : Int} (ht : 0 ≤ t ∧ t < 30) (hv : 0 ≤ v ∧ v < 26) : Ev (f_X9_save t v w) (fun r w' => Fr [129, 130] w w' ∧ RB P w' V ∧ rM w' 129 130 60 = vs (rM w 129 130 60) t.toNat (V v.toNat)) := by
  refine Ev.mono (m_save h.2.1.2.2 h.2.2.1.2 ht hv) ?_
  rintro r w' ⟨-, q1, q2, q3⟩
  rw [h.2.2.1.1] at q3
  have F : FX [129, 130] [] w w' := FX.of q1 (by simp) (by simp)
  exact ⟨q1, h.fr F (by decide) (by simp) (RM_fr (q1 99 (by simp)) h.2.1.2.1) q2 (h.2.2.1.fr (q1 89 (by simp)) (q1 90 (by simp))) h.2.2.2, q3⟩
theorem RB.oth {P : PV} {w w' : WS} {V : Nat → List Int} (h : RB P w V) {L S : List Nat} (F : FX L S w w') (hL : ∀ c ∈ LPr, c ∉ L) (hS : ∀ k ∈ [21, 11, 15, 51], k ∉ S) (h2 : ∀ c ∈ [89, 90, 99, 130], c ∉ L) : RB P w' V := h.fr F hL hS (RM_fr (F.1 99 (h2 99 (by simp))) h.2.1.2.1) (RM_fr (F.1 130 (h2 130 (by simp))) h.2.1.2.2) (h.2.2.1.fr (F.1 89 (h2 89 (by simp))) (F.1 90 (h2 90 (by simp)))) h.2.2.2
theorem m_doCall {P : PV} (hP : POK P) {w : WS} {V : Nat → List Int} {D : List Frm} (h : RRn P w V D) {p : Int} (hp : 0 ≤ p ∧ p < sC P) (hk : sK P p = 99) : Ev (f_X9_doCall p w) (fun v w' => v = (if (aCall P p V D).1 = -2 then 0 else (aCall P p V D).1) ∧ FX LKm [63] w w' ∧ RRn P w' (aCall P p V D).2.1 (aCall P p V D).2.2) := by
  have hs := hP.2.2.2.2.2.2.2.1 p hp.1 hp.2
  have hc := hP.2.2.2.2.2.2.1
  have ht50 := hP.2.2.2.1
  obtain ⟨s1, s2, s3, s4, s5, s6, s7⟩ := hs
  have hT := s5 (by omega)
  have hf := s7 hk
  obtain ⟨f1, f2⟩ := hP.2.2.2.2.2.2.2.2 (sP P p) hf.1 hf.2
  obtain ⟨hB, h63, hD10, hst, hDK⟩ := h
  unfold f_X9_doCall aCall
  rw [wr_eq (a := p) (by omega), show w 117 p.toNat = sT P p from congrFun (hB.row 9) _]
  refine Ev.pos (by first | (simp (disch := omega) only [wr_eq] <;> omega) | omega) ?_
  refine Ev.bd (m_term hP hB hT) ?_
  rintro v w1 ⟨rfl, q1, q2, q3⟩
  have F1 : FX LKm [63] w w1 := FX.of q1 (by decide) (by decide)
  have ok := pTm_ok hP hB.2.2.2 (sT P p)
  have st1 : stkR P w1 D := hst.mono (fun k _ => by rw [q1 127 (by simp)]) (fun k _ => by rw [q1 128 (by simp)]) (fun k _ => by rw [rM_fr (q1 129 (by simp)) (q1 130 (by simp))])
  have d1 : w1 85 63 = D.length := by rw [q1 85 (by simp)]; exact h63
  by_cases c : (pTm P V (sT P p)).1 = 0
  · rw [if_pos c]
    have q3 := q3 c
    rw [c]
    refine Ev.pos rfl ?_
    rw [show w1 116 p.toNat = sP P p from congrFun (q2.row 8) _, wr_eq (a := sP P p) (by omega), show w1 120 (sP P p).toNat = fTd P (sP P p) from congrFun (q2.row 12) _, (q2.nm (sP P p)).1, d1]
    refine Ev.pos (by first | (simp (disch := omega) only [wr_eq] <;> omega) | omega) ?_; refine Ev.pos (by first | (simp (disch := omega) only [wr_eq] <;> omega) | omega) ?_
    rcases f1 with f1 | f1
    · rw [f1]
      refine Ev.pos rfl ?_
      have hq : ¬ ((0 : Int) = 1 ∧ D.length < 10) := fun z => absurd z.1 (by decide)
      rw [if_neg hq]
      exact Ev.ret ⟨rfl, F1, q2, d1, hD10, st1, hDK⟩
    · rw [f1]
      refine Ev.neg (by decide) ?_
      by_cases c2 : D.length < 10
      · have hq : (1 : Int) = 1 ∧ D.length < 10 := ⟨rfl, c2⟩
        rw [if_pos hq]
        refine Ev.neg (by first | (simp (disch := omega) only [wr_eq] <;> omega) | omega) ?_; refine Ev.pos (by first | (simp (disch := omega) only [wr_eq] <;> omega) | omega) ?_
        obtain ⟨n0, n1, n2, n3, n4, n5, n6⟩ := f2 f1
        refine Ev.bd (q2.save (t := 3 * (D.length : Int)) (v := fN P (sP P p) 0) (by omega) n1) ?_
        rintro v w2 ⟨a1, B2, a3⟩
        rw [show (3 * (D.length : Int)).toNat = 3 * D.length from by omega] at a3
        have d2 : w2 85 63 = D.length := by rw [a1 85 (by simp)]; exact d1
        rw [d2, (B2.nm (sP P p)).2.1]
        refine Ev.pos (by first | (simp (disch := omega) only [wr_eq] <;> omega) | omega) ?_
        refine Ev.bd (B2.save (t := 3 * (D.length : Int) + 1) (v := fN P (sP P p) 1) (by omega) n2) ?_
        rintro v w3 ⟨a4, B3, a6⟩
        rw [show (3 * (D.length : Int) + 1).toNat = 3 * D.length + 1 from by omega] at a6
        have d3 : w3 85 63 = D.length := by rw [a4 85 (by simp)]; exact d2
        rw [d3, (B3.nm (sP P p)).2.2]
        refine Ev.pos (by first | (simp (disch := omega) only [wr_eq] <;> omega) | omega) ?_
        refine Ev.bd (B3.save (t := 3 * (D.length : Int) + 2) (v := fN P (sP P p) 2) (by omega) n3) ?_
        rintro v w4 ⟨a7, B4, a9⟩
        rw [show (3 * (D.length : Int) + 2).toNat = 3 * D.length + 2 from by omega] at a9
        have d4 : w4 85 63 = D.length := by rw [a7 85 (by simp)]; exact d3
        have e41 : (up w4 127 D.length p) 85 63 = D.length := by rw [up_row _ _ _ (by omega)]; exact d4
        have e42 : (up (up w4 127 D.length p) 128 D.length (sP P p)) 85 63 = D.length := by rw [up_row _ _ _ (by omega)]; exact e41
        rw [d4, ixn (k := D.length) (by omega), Int.toNat_natCast, e41, ixn (k := D.length) (by omega), Int.toNat_natCast, e42]
        have r4 : rM w4 129 130 60 = vs (vs (vs (rM w1 129 130 60) (3 * D.length) (V (fN P (sP P p) 0).toNat)) (3 * D.length + 1) (V (fN P (sP P p) 1).toNat)) (3 * D.length + 2) (V (fN P (sP P p) 2).toNat) := by rw [a9, a6, a3]
        have F14 : Fr [129, 130] w1 w4 := (a1.tr a4).tr a7
        have F5 : FX [85, 127, 128] [63] w4 (up (up (up w4 127 D.length p) 128 D.length (sP P p)) 85 63 ((D.length : Int) + 1)) := ((FX.rf.oth 127 _ _ (by simp) (by omega)).oth 128 _ _ (by simp) (by omega)).put 63 _ (by simp) (by simp)
        have d5 : (up (up (up w4 127 D.length p) 128 D.length (sP P p)) 85 63 ((D.length : Int) + 1)) 85 63 = (D.length : Int) + 1 := up_same _ _ _ _
        have e5 : ∀ k, (up (up (up w4 127 D.length p) 128 D.length (sP P p)) 85 63 ((D.length : Int) + 1)) 127 k = if k = D.length then p else w4 127 k := fun k => by
          rw [up_row _ _ _ (by omega), up_row _ _ _ (by omega)]
          by_cases e : k = D.length
          · rw [if_pos e, e]; exact up_same _ _ _ _
          · rw [if_neg e]; exact up_slot _ _ _ _ e
        have e6 : ∀ k, (up (up (up w4 127 D.length p) 128 D.length (sP P p)) 85 63 ((D.length : Int) + 1)) 128 k = if k = D.length then sP P p else w4 128 k := fun k => by
          rw [up_row _ _ _ (by omega)]
          by_cases e : k = D.length
          · rw [if_pos e, e]; exact up_same _ _ _ _
          · rw [if_neg e, up_slot _ _ _ _ e, up_row _ _ _ (by omega)]
        have B5 := B4.oth F5 (by decide) (by decide) (by decide)
        refine Ev.pos (by first | (simp (disch := omega) only [wr_eq] <;> omega) | omega) ?_; refine Ev.pos (by first | (simp (disch := omega) only [wr_eq] <;> omega) | omega) ?_; refine Ev.pos (by first | (simp (disch := omega) only [wr_eq] <;> omega) | omega) ?_; refine Ev.pos (by first | (simp (disch := omega) only [wr_eq] <;> omega) | omega) ?_
        generalize up (up (up w4 127 D.length p) 128 D.length (sP P p)) 85 63 ((D.length : Int) + 1) = w5 at F5 d5 e5 e6 B5 ⊢
        rw [show w5 117 p.toNat = sT P p from congrFun (B5.row 9) _, (B5.nm (sP P p)).1]
        refine Ev.bd (m_setTo B5.2.2.1.2 B5.2.1.2.1 n1 (v := sT P p) (by omega)) ?_
        rintro v w6 ⟨-, a10, a11, a12⟩
        have v5 : rM w5 98 99 60 (sT P p).toNat = (pTm P V (sT P p)).2 := by rw [rM_fr (F5.1 98 (by simp)) (F5.1 99 (by simp)), rM_fr (F14 98 (by simp)) (F14 99 (by simp))]; exact q3
        rw [v5, B5.2.2.1.1] at a12
        have B6 : RB P w6 (vs V (fN P (sP P p) 0).toNat (pTm P V (sT P p)).2) := B5.fr (FX.of (L := [89, 90]) (S := []) a10 (by simp) (by simp)) (by decide) (by simp) (RM_fr (a10 99 (by simp)) B5.2.1.2.1) (RM_fr (a10 130 (by simp)) B5.2.1.2.2) ⟨a12, a11⟩ (B5.2.2.2.vs ok.2.1 ok.2.2)
        have clr : ∀ {x : WS} {W : Nat → List Int}, RB P x W → ∀ k, RB P (up x 90 k 0) (vs W k []) := by
          intro x W hx k
          have Fx : FX [90] [] x (up x 90 k 0) := FX.rf.oth 90 _ _ (by simp) (by omega)
          obtain ⟨m1, m2⟩ := rM_clr (s := 89) (by omega) hx.2.2.1.2 k
          exact hx.fr Fx (by decide) (by simp) (RM_fr (Fx.1 99 (by simp)) hx.2.1.2.1) (RM_fr (Fx.1 130 (by simp)) hx.2.1.2.2) ⟨by rw [m1, hx.2.2.1.1], m2⟩ (hx.2.2.2.vs SO_nil (by simp))
        rw [(B6.nm (sP P p)).2.1, wr_eq (a := fN P (sP P p) 1) (by omega)]
        have B7 := clr B6 (fN P (sP P p) 1).toNat
        refine Ev.pos (by first | (simp (disch := omega) only [wr_eq] <;> omega) | omega) ?_; refine Ev.pos (by first | (simp (disch := omega) only [wr_eq] <;> omega) | omega) ?_; refine Ev.pos (by first | (simp (disch := omega) only [wr_eq] <;> omega) | omega) ?_
        rw [(B7.nm (sP P p)).2.2, wr_eq (a := fN P (sP P p) 2) (by omega)]
        have B8 := clr B7 (fN P (sP P p) 2).toNat
        refine Ev.pos (by first | (simp (disch := omega) only [wr_eq] <;> omega) | omega) ?_
        have F8 : FX [89, 90] [] w5 (up (up w6 90 (fN P (sP P p) 1).toNat 0) 90 (fN P (sP P p) 2).toNat 0) := ((FX.of (L := [89, 90]) (S := []) a10 (by simp) (by simp)).oth 90 _ _ (by simp) (by omega)).oth 90 _ _ (by simp) (by omega)
        generalize up (up w6 90 (fN P (sP P p) 1).toNat 0) 90 (fN P (sP P p) 2).toNat 0 = w8 at F8 B8 ⊢
        have rows : rM w8 129 130 60 = rM w4 129 130 60 := by rw [rM_fr (F8.1 129 (by simp)) (F8.1 130 (by simp)), rM_fr (F5.1 129 (by simp)) (F5.1 130 (by simp))]
        refine Ev.ret ⟨rfl, ?_, B8, ?_, ?_, ?_, ?_⟩
        · exact ((F1.tr (FX.of F14 (by decide) (by decide))).tr (F5.sub (by decide) (by decide))).tr (F8.sub (by decide) (by decide))
        · rw [F8.2 63 (by simp), d5]; rfl
        · show D.length + 1 ≤ 10; omega
        · refine ⟨by rw [F8.1 127 (by simp), e5, if_pos rfl]; rfl, by rw [F8.1 128 (by simp), e6, if_pos rfl]; rfl, ?_, ?_, ?_, ?_⟩
          · rw [rows, r4, vs_ne _ _ (by omega), vs_ne _ _ (by omega), vs_same]; rfl
          · rw [rows, r4, vs_ne _ _ (by omega), vs_same]; rfl
          · rw [rows, r4, vs_same]; rfl
          · refine st1.mono (fun k hk => ?_) (fun k hk => ?_) (fun k hk => ?_)
            · rw [F8.1 127 (by simp), e5, if_neg (by omega), F14 127 (by simp)]
            · rw [F8.1 128 (by simp), e6, if_neg (by omega), F14 128 (by simp)]
            · rw [rows, r4, vs_ne _ _ (by omega), vs_ne _ _ (by omega), vs_ne _ _ (by omega)]
        · intro x hx
          rcases List.mem_cons.mp hx with rfl | hx
          · exact ⟨hp, hk, f1, hB.2.2.2 _, hB.2.2.2 _, hB.2.2.2 _⟩
          · exact hDK x hx
      · have hq : ¬ ((1 : Int) = 1 ∧ D.length < 10) := fun z => c2 z.2
        rw [if_neg hq]
        refine Ev.pos (by first | (simp (disch := omega) only [wr_eq] <;> omega) | omega) ?_
        exact Ev.ret ⟨rfl, F1, q2, d1, hD10, st1, hDK⟩
  · rw [if_neg c]
    refine Ev.neg (by first | (simp (disch := omega) only [wr_eq] <;> omega) | omega) ?_
    exact Ev.ret ⟨by show _ = if (pTm P V (sT P p)).1 = -2 then 0 else (pTm P V (sT P p)).1; rw [if_neg (by omega)], F1, q2, d1, hD10, st1, hDK⟩
