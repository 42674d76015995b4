/-! the reference's finding of ways as a whole -/
def LF : List Nat := [85, 89, 90, 100, 101, 102, 103, 104, 105, 106, 107, 108, 109, 110, 111, 112, 113, 132, 133, 134]
def SF : List Nat := [20, 80, 43, 22, 27, 34, 38, 39, 40, 41, 42, 44]
theorem m_findWays {w : WS} {V : Nat → List Int} (hV : VM w V) (vV : VOK V) (h88 : RM w 88 20 30) {T : List Int} (hT : w 85 2 = T.length) (hT6 : T.length ≤ 60) (hTs : sg (w 86) 0 T.length = T) {a : Int} (np : Int) (hE : EOK (w 91, w 92, w 93, rM w 87 88 20, T, w 85 21, a, np)) : Ev (f_X9_findWays a w) (fun v w' => FX LF SF w w' ∧ v = (if (aWays (w 91, w 92, w 93, rM w 87 88 20, T, w 85 21, a, np) V).1 = -1 then 0 else 1) ∧ w' 85 80 = (aWays (w 91, w 92, w 93, rM w 87 88 20, T, w 85 21, a, np) V).2.1.length ∧ sg (w' 134) 0 (aWays (w 91, w 92, w 93, rM w 87 88 20, T, w 85 21, a, np) V).2.1.length = (aWays (w 91, w 92, w 93, rM w 87 88 20, T, w 85 21, a, np) V).2.1 ∧ VM w' (if (aWays (w 91, w 92, w 93, rM w 87 88 20, T, w 85 21, a, np) V).1 = -1 then V else vOf (aWays (w 91, w 92, w 93, rM w 87 88 20, T, w 85 21, a, np) V).2.2) ∧ SP w' V) := by
  unfold f_X9_findWays
  refine Ev.bd (m_spare w) ?_
  rintro v w1 ⟨q1, q2, q3⟩
  have hS1 : SP w1 V := ⟨w, hV, q2, q3⟩
  have t2 : w1 85 2 = T.length := by rw [q1 85 (by simp)]; exact hT
  refine Ev.bd (m_takeTyped (w := w1) (by omega)) ?_
  rintro v w2 ⟨p1, p2, p3, p4⟩
  have en : (w1 85 2).toNat = T.length := by omega
  rw [t2] at p3
  rw [en, q1 86 (by simp), hTs] at p4
  have F2 : FX LF SF w w2 := (FX.of q1 (by decide) (by decide)).tr ⟨p1.sub (by decide), fun k hk => p2 k (fun e => hk (by rw [e]; decide))⟩
  have F : FX [85] [22, 41, 42, 80] w2 (up (up (up (up w2 85 22 0) 85 41 0) 85 42 0) 85 80 0) := (((FX.rf.put 22 _ (by simp) (by simp)).put 41 _ (by simp) (by simp)).put 42 _ (by simp) (by simp)).put 80 _ (by simp) (by simp)
  have k80 : (up (up (up (up w2 85 22 0) 85 41 0) 85 42 0) 85 80 0) 85 80 = 0 := up_same _ _ _ _
  have k42 : (up (up (up (up w2 85 22 0) 85 41 0) 85 42 0) 85 80 0) 85 42 = 0 := by rw [up_slot _ _ _ _ (by omega), up_same]
  have k41 : (up (up (up (up w2 85 22 0) 85 41 0) 85 42 0) 85 80 0) 85 41 = 0 := by rw [up_slot _ _ _ _ (by omega), up_slot _ _ _ _ (by omega), up_same]
  have k22 : (up (up (up (up w2 85 22 0) 85 41 0) 85 42 0) 85 80 0) 85 22 = 0 := by rw [up_slot _ _ _ _ (by omega), up_slot _ _ _ _ (by omega), up_slot _ _ _ _ (by omega), up_same]
  have F3 : FX LF SF w (up (up (up (up w2 85 22 0) 85 41 0) 85 42 0) 85 80 0) := F2.tr (F.sub (by decide) (by decide))
  have k20 : (up (up (up (up w2 85 22 0) 85 41 0) 85 42 0) 85 80 0) 85 20 = T.length := (F.2 20 (by simp)).trans p3
  have k21 : (up (up (up (up w2 85 22 0) 85 41 0) 85 42 0) 85 80 0) 85 21 = w 85 21 := F3.2 21 (by decide)
  have k100 : sg ((up (up (up (up w2 85 22 0) 85 41 0) 85 42 0) 85 80 0) 100) 0 T.length = T := by rw [F.1 100 (by simp)]; exact p4
  have hS3 : SP (up (up (up (up w2 85 22 0) 85 41 0) 85 42 0) 85 80 0) V := (hS1.fr (p1 132 (by simp)) (p1 133 (by simp))).fr (F.1 132 (by simp)) (F.1 133 (by simp))
  have e89 : (up (up (up (up w2 85 22 0) 85 41 0) 85 42 0) 85 80 0) 89 = w 89 := (F.1 89 (by simp)).trans ((p1 89 (by simp)).trans (q1 89 (by simp)))
  have e90 : (up (up (up (up w2 85 22 0) 85 41 0) 85 42 0) 85 80 0) 90 = w 90 := (F.1 90 (by simp)).trans ((p1 90 (by simp)).trans (q1 90 (by simp)))
  generalize up (up (up (up w2 85 22 0) 85 41 0) 85 42 0) 85 80 0 = w3 at F F3 k80 k42 k41 k22 k20 k21 k100 hS3 e89 e90 ⊢
  have hEM : EM (w 91, w 92, w 93, rM w 87 88 20, T, w 85 21, a, np) w3 := ⟨F3.1 91 (by decide), F3.1 92 (by decide), F3.1 93 (by decide), rM_fr (F3.1 87 (by decide)) (F3.1 88 (by decide)), RM_fr (F3.1 88 (by decide)) h88, k100, k20, k21⟩
  have hV3 : VM w3 V := hV.fr e89 e90
  have eP' : eP (w 91, w 92, w 93, rM w 87 88 20, T, w 85 21, a, np) = a := rfl
  have hEA := hE.2.2.2.2.2.2.2.1
  have key := m_w46 hE (V0 := V) 62 FU 200 (aSt0 V) [] w3 (by show (61 - (-1 : Int)).toNat ≤ 62; omega) (by unfold FU; omega) rfl rfl (Int.le_refl (-1)) (by show (-1 : Int) ≤ 60; omega) ⟨hEM, k22, hV3, k41, k42⟩ ⟨aSt0_ok vV, hS3, k80, rfl⟩
  have e0 : sOf (aSt0 V) + 1 = 0 := rfl
  rw [e0, eP'] at key
  have fin : Ev (f_X9_findWays_46 FU a (lastC (w 91, w 92, w 93, rM w 87 88 20, T, w 85 21, a, np)) 0 w3) (fun v w' => FX LF SF w w' ∧ v = (if (aWays (w 91, w 92, w 93, rM w 87 88 20, T, w 85 21, a, np) V).1 = -1 then 0 else 1) ∧ w' 85 80 = (aWays (w 91, w 92, w 93, rM w 87 88 20, T, w 85 21, a, np) V).2.1.length ∧ sg (w' 134) 0 (aWays (w 91, w 92, w 93, rM w 87 88 20, T, w 85 21, a, np) V).2.1.length = (aWays (w 91, w 92, w 93, rM w 87 88 20, T, w 85 21, a, np) V).2.1 ∧ VM w' (if (aWays (w 91, w 92, w 93, rM w 87 88 20, T, w 85 21, a, np) V).1 = -1 then V else vOf (aWays (w 91, w 92, w 93, rM w 87 88 20, T, w 85 21, a, np) V).2.2) ∧ SP w' V) := by
    refine key.mono ?_
    rintro v w' ⟨x1, x2, x3, x4, x5⟩
    exact ⟨F3.tr (x1.sub (by decide) (by decide)), x2, x3, x4, x5, hS3.fr (x1.1 132 (by decide)) (x1.1 133 (by decide))⟩
  unfold lastC at fin
  rw [k21, k20]
  by_cases q : w 85 21 = 0
  · rw [if_pos (show eA (w 91, w 92, w 93, rM w 87 88 20, T, w 85 21, a, np) = 0 from q)] at fin
    rw [q] at fin ⊢
    exact Ev.pos rfl fin
  · rw [if_neg (show ¬ eA (w 91, w 92, w 93, rM w 87 88 20, T, w 85 21, a, np) = 0 from q)] at fin
    have h1 : w 85 21 = 1 := by
      have hEA : w 85 21 = 0 ∨ w 85 21 = 1 := hEA
      omega
    rw [h1] at fin ⊢
    exact Ev.neg (by decide) fin
