theorem cl_define {S : St} {w : WS} (hW : WF S) (h : JC S w) {f x a b c : Int} (hf : IR f) (hx : IR x) (ha : IR a) (hb : IR b) (hc : IR c) : Ev (f_L_define f x a b c w) (ClQ (tq_define f x a b c S) w) := by
  have hf' := hf
  have hx' := hx
  have ha' := ha
  have hb' := hb
  have hc' := hc
  unfold IR at hf' hx' ha' hb' hc'
  unfold f_L_define
  refine Ev.ocX ?_
  unfold f_X8_define f_X8_define_17 f_X8_define_46
  have bad : ¬ o1D f x a b c → Ev ((fun t w2 => if t = 1 then some (1, w2) else if t = 3 then some (2, w2) else none : Nat → WS → Option (Int × WS)) 1 w) (ClQ (tq_define f x a b c S) w) := by
    intro n
    rw [tq_d1 n]
    exact Ev.pos rfl (Ev.ret (ClQ_no h 1 0 (by decide)))
  refine Ex.obe (f_isBelow hf' (by omega) w) ?_
  by_cases c1 : 0 ≤ f ∧ f < 5
  · rw [if_pos c1]
    refine Ex.neg (by decide) ?_
    refine Ex.obe (f_isBelow hx' (by omega) w) ?_
    by_cases c2 : 0 ≤ x ∧ x < 40
    · rw [if_pos c2]
      refine Ex.neg (by decide) ?_
      rw [wr_eq ha', wr_eq hb', wr_eq hc']
      by_cases c3 : a = b
      · exact Ex.pos c3 (Ex.ret (Ev.neg (by decide) (bad (fun q => q.2.2.1 c3))))
      refine Ex.neg c3 ?_
      by_cases c4 : a = c
      · exact Ex.pos c4 (Ex.ret (Ev.neg (by decide) (bad (fun q => q.2.2.2.1 c4))))
      refine Ex.neg c4 ?_
      by_cases c5 : b = c
      · exact Ex.pos c5 (Ex.ret (Ev.neg (by decide) (bad (fun q => q.2.2.2.2 c5))))
      refine Ex.neg c5 ?_
      have o1 : o1D f x a b c := ⟨c1, c2, c3, c4, c5⟩
      have bad2 : ¬ o2D a b c → Ev (if (3 : Nat) = 0 then (if wr (0 : Int) = 0 then (if 0 ≤ wr 0 ∧ wr 0 < 1 then some (0, up w 135 (wr 0).toNat 0) else none) else if 0 ≤ wr 0 ∧ wr 0 < 1 then some (0, up w 135 (wr 0).toNat 1) else none) else (fun t w2 => if t = 1 then some (1, w2) else if t = 3 then some (2, w2) else none : Nat → WS → Option (Int × WS)) 3 w) (ClQ (tq_define f x a b c S) w) := by
        intro n
        rw [tq_d2 o1 n]
        exact Ev.neg (by decide) (Ev.neg (by decide) (Ev.pos rfl (Ev.ret (ClQ_no h 2 0 (by decide)))))
      by_cases d1 : 0 ≤ a ∧ a < 26
      case neg =>
        exact Ex.no (t := 3) (by rw [x_needVariable ha, if_neg d1]) (by decide) (bad2 (fun q => d1 q.1))
      refine Ex.ok (by rw [x_needVariable ha, if_pos d1]) ?_
      by_cases d2 : 0 ≤ b ∧ b < 26
      case neg =>
        exact Ex.no (t := 3) (by rw [x_needVariable hb, if_neg d2]) (by decide) (bad2 (fun q => d2 q.2.1))
      refine Ex.ok (by rw [x_needVariable hb, if_pos d2]) ?_
      by_cases d3 : 0 ≤ c ∧ c < 26
      case neg =>
        exact Ex.no (t := 3) (by rw [x_needVariable hc, if_neg d3]) (by decide) (bad2 (fun q => d3 q.2.2))
      refine Ex.ok (by rw [x_needVariable hc, if_pos d3]) ?_
      rw [tq_d0 o1 ⟨d1, d2, d3⟩]
      have r := fun i => congrFun (congrArg Prod.fst h.2.2.1) i
      have e71 : w 71 f.toNat = fTd S.2.2.1 f := congrFun (show w 71 = S.2.2.1.1 12 from r 12) _
      have hF := (hW.2.2.1.2.2.2.2.2.2.2.2 f c1.1 c1.2).1
      have key : ∀ s : Int, (s = 0 ∨ s = 1) → Ev (f_X4_tell_17 f x a b c s w) (fun v w' => v = s ∧ JC (stP S (defS S.2.2.1 f.toNat x a b c)) w' ∧ ∀ c, 85 ≤ c → w' c = w c) := by
        intro s hs
        unfold f_X4_tell_17
        refine Ev.obe (f_put (i := 70) (n := 5) rfl (by omega) c1) ?_
        refine Ev.obe (f_put (i := 72) (n := 5) rfl (by omega) c1) ?_
        refine Ev.obe (f_put (i := 74) (n := 15) rfl (by omega) (by omega)) ?_
        refine Ev.obe (f_put (i := 74) (n := 15) rfl (by omega) (by omega)) ?_
        refine Ev.obe (f_put (i := 74) (n := 15) rfl (by omega) (by omega)) ?_
        obtain ⟨k, rfl⟩ : ∃ k : Nat, f = k := ⟨f.toNat, by omega⟩
        rw [show (3 * (k : Int)).toNat = 3 * k from by omega, show (3 * (k : Int) + 1).toNat = 3 * k + 1 from by omega, show (3 * (k : Int) + 2).toNat = 3 * k + 2 from by omega, Int.toNat_natCast]
        generalize hw6 : up (up (up (up (up w (70 + 1) k 1) (72 + 1) k x) (74 + 1) (3 * k) a) (74 + 1) (3 * k + 1) b) (74 + 1) (3 * k + 2) c = w6
        have g : ∀ c, c ≠ 71 → c ≠ 73 → c ≠ 75 → w6 c = w c := fun c h1 h2 h3 => by rw [← hw6, up_row _ _ _ h3, up_row _ _ _ h3, up_row _ _ _ h3, up_row _ _ _ h2, up_row _ _ _ h1]
        have g71 : w6 71 = uf (w 71) k 1 := by rw [← hw6, up_row _ _ _ (by omega), up_row _ _ _ (by omega), up_row _ _ _ (by omega), up_row _ _ _ (by omega)]; exact up_uf _ _ _ _
        have g73 : w6 73 = uf (w 73) k x := by rw [← hw6, up_row _ _ _ (by omega), up_row _ _ _ (by omega), up_row _ _ _ (by omega)]; exact (up_uf _ _ _ _).trans (by rw [up_row _ _ _ (by omega)])
        have g75 : w6 75 = uf (uf (uf (w 75) (3 * k) a) (3 * k + 1) b) (3 * k + 2) c := by
          rw [← hw6, show (74 + 1) = 75 from rfl, up_uf, up_uf, up_uf, up_row _ _ _ (by omega), up_row _ _ _ (by omega)]
        clear hw6
        obtain ⟨⟨a1, a2⟩, a3, a4, a5, ⟨b1, b2, b3, b4, b5, b6⟩, a7⟩ := h
        have e : ∀ c, (c < 70 ∨ 75 < c) → w6 c = w c := fun c hc => g c (by omega) (by omega) (by omega)
        have e0 := e 0 (by omega)
        refine Ev.pos hs (Ev.ret ⟨rfl, ⟨⟨(congrFun (rC_fr (e 2 (by omega)) (e 3 (by omega))) 0).trans a1, RO_fr (e 3 (by omega)) a2⟩, by rw [e0]; exact a3, ?_, a5.fr (e 8 (by omega)) (e 9 (by omega)), ⟨RO_fr (e 6 (by omega)) b1, RO_fr (e 12 (by omega)) b2, RO_fr (e 15 (by omega)) b3, RO_fr (e 18 (by omega)) b4, RO_fr (e 21 (by omega)) b5, RO_fr (e 24 (by omega)) b6⟩, ?_⟩, fun c hc => e c (by omega)⟩)
        · rw [e0]
          exact pvC_defS a4 (fun c _ h1 h2 h3 => g c h1 h2 h3) g71 g73 g75
        · unfold cSt
          rw [e 76 (by omega), e0, e 80 (by omega), e 82 (by omega)]
          exact a7
      have tell : Ev (f_X4_tell f x a b c w) (fun v w' => v = fTd S.2.2.1 f ∧ JC (stP S (defS S.2.2.1 f.toNat x a b c)) w' ∧ ∀ c, 85 ≤ c → w' c = w c) := by
        unfold f_X4_tell
        refine Ev.obe (f_get (i := 70) (n := 5) rfl (by omega) c1) ?_
        rw [show w (70 + 1) f.toNat = fTd S.2.2.1 f from e71]
        rcases hF with q | q
        · rw [q]
          exact Ev.neg (by decide) (key 0 (Or.inl rfl))
        · rw [q]
          exact Ev.pos rfl (key 1 (Or.inr rfl))
      refine Ex.bd tell ?_
      rintro v w1 ⟨rfl, q1, q2⟩
      refine Ex.pos hF (Ex.ret (Ev.pos rfl ?_))
      rcases hF with q | q
      · rw [q]
        exact Ev.pos rfl (ClQ_val (q := (0, 0, stP S (defS S.2.2.1 f.toNat x a b c))) rfl q1 q2 rfl)
      · rw [q]
        exact Ev.neg (by decide) (ClQ_val (q := (0, 1, stP S (defS S.2.2.1 f.toNat x a b c))) rfl q1 q2 rfl)
    · rw [if_neg c2]
      exact Ex.pos rfl (Ex.ret (Ev.neg (by decide) (bad (fun q => c2 q.2.1))))
  · rw [if_neg c1]
    exact Ex.pos rfl (Ex.ret (Ev.neg (by decide) (bad (fun q => c1 q.1))))
theorem rf_define {S : St} {w : WS} (hW : WF S) (h : JM S w) {f x a b c : Int} (hf : IR f) (hx : IR x) (ha : IR a) (hb : IR b) (hc : IR c) : Ev (f_X9_define f x a b c w) (RfQ (tq_define f x a b c S) w) := by
  have hf' := hf
  have hx' := hx
  have ha' := ha
  have hb' := hb
  have hc' := hc
  unfold IR at hf' hx' ha' hb' hc'
  have z0 : (up w 85 0 0) 85 0 = 0 := up_same _ _ _ _
  have bad1 : ¬ o1D f x a b c → Ev (f_X9_define_61 f x a b c (up w 85 0 0)) (RfQ (tq_define f x a b c S) w) := by
    intro n
    unfold f_X9_define_61 f_X9_define_66
    rw [tq_d1 n, f_fails0 z0 1 (by omega) 1 (Or.inr rfl), if_neg (by decide), ob_some]
    exact Ev.neg (by decide) (Ev.ret (RfQ_no h 1 0 _ (by decide)))
  have same : (a = b ∨ a = c ∨ b = c) → Ev (f_X9_define_24 f x a b c (up w 85 0 0)) (RfQ (tq_define f x a b c S) w) := by
    intro n
    have no : ¬ o1D f x a b c := fun q => by
      obtain ⟨-, -, q1, q2, q3⟩ := q
      rcases n with n | n | n
      · exact q1 n
      · exact q2 n
      · exact q3 n
    unfold f_X9_define_24 f_X9_define_29
    rw [wr_eq hf', f_in (by omega) (by omega) (by omega), ob_some]
    refine Ev.ite (fun _ => bad1 no) (fun _ => ?_)
    rw [wr_eq hx', f_in (by omega) (by omega) (by omega), ob_some]
    refine Ev.ite (fun _ => bad1 no) (fun _ => Ev.neg (by decide) (bad1 no))
  unfold f_X9_define
  rw [wr_eq ha', wr_eq hb', wr_eq hc']
  by_cases c3 : a = b
  · exact Ev.pos c3 (same (Or.inl c3))
  refine Ev.neg c3 ?_
  by_cases c4 : a = c
  · exact Ev.pos c4 (same (Or.inr (Or.inl c4)))
  refine Ev.neg c4 ?_
  by_cases c5 : b = c
  · exact Ev.pos c5 (same (Or.inr (Or.inr c5)))
  refine Ev.neg c5 ?_
  unfold f_X9_define_29
  rw [wr_eq hf', f_in (by omega) (by omega) (by omega), ob_some]
  by_cases c1 : 0 ≤ f ∧ f < 5
  case neg =>
    rw [if_neg (show ¬ (0 ≤ f ∧ f ≤ 4) by omega)]
    exact Ev.pos rfl (bad1 (fun q => c1 q.1))
  rw [if_pos (show 0 ≤ f ∧ f ≤ 4 by omega)]
  refine Ev.neg (by decide) ?_
  rw [wr_eq hx', f_in (by omega) (by omega) (by omega), ob_some]
  by_cases c2 : 0 ≤ x ∧ x < 40
  case neg =>
    rw [if_neg (show ¬ (0 ≤ x ∧ x ≤ 39) by omega)]
    exact Ev.pos rfl (bad1 (fun q => c2 q.2.1))
  rw [if_pos (show 0 ≤ x ∧ x ≤ 39 by omega)]
  refine Ev.neg (by decide) (Ev.pos rfl ?_)
  have o1 : o1D f x a b c := ⟨c1, c2, c3, c4, c5⟩
  unfold f_X9_define_66
  rw [f_fails0 z0 1 (by omega) 0 (Or.inl rfl), if_pos rfl, ob_some]
  refine Ev.pos rfl ?_
  have bad2 : ¬ o2D a b c → Ev (f_X9_define_97 f x a b c (up w 85 0 0)) (RfQ (tq_define f x a b c S) w) := by
    intro n
    unfold f_X9_define_97 f_X9_define_102
    rw [tq_d2 o1 n, f_fails0 z0 2 (by omega) 1 (Or.inr rfl), if_neg (by decide), ob_some]
    exact Ev.neg (by decide) (Ev.ret (RfQ_no h 2 0 _ (by decide)))
  rw [x_isVariable ha, ob_some]
  by_cases d1 : 0 ≤ a ∧ a < 26
  case neg =>
    rw [if_neg d1]
    exact Ev.pos rfl (bad2 (fun q => d1 q.1))
  rw [if_pos d1]
  refine Ev.neg (by decide) ?_
  rw [x_isVariable hb, ob_some]
  by_cases d2 : 0 ≤ b ∧ b < 26
  case neg =>
    rw [if_neg d2]
    exact Ev.pos rfl (bad2 (fun q => d2 q.2.1))
  rw [if_pos d2]
  refine Ev.neg (by decide) ?_
  rw [x_isVariable hc, ob_some]
  by_cases d3 : 0 ≤ c ∧ c < 26
  case neg =>
    rw [if_neg d3]
    exact Ev.pos rfl (bad2 (fun q => d3 q.2.2))
  rw [if_pos d3]
  refine Ev.neg (by decide) ?_
  unfold f_X9_define_102
  rw [f_fails0 z0 2 (by omega) 0 (Or.inl rfl), if_pos rfl, ob_some, tq_d0 o1 ⟨d1, d2, d3⟩]
  refine Ev.pos rfl ?_
  have J0 := h.z 0
  have F0 : ∀ c, c < 85 ∨ 135 ≤ c → (up w 85 0 0) c = w c := fun c hc => up_row _ _ _ (by omega)
  generalize up w 85 0 0 = w0 at J0 F0 z0 ⊢
  have e120 : w0 120 f.toNat = fTd S.2.2.1 f := congrFun (show w0 120 = S.2.2.1.1 12 from congrFun (congrArg Prod.fst J0.2.2.1) 12) _
  have hF := (hW.2.2.1.2.2.2.2.2.2.2.2 f c1.1 c1.2).1
  rw [wr_eq hf', e120]
  refine Ev.pos (by first | (simp (disch := omega) only [wr_eq] <;> omega) | omega) ?_; refine Ev.pos (by first | (simp (disch := omega) only [wr_eq] <;> omega) | omega) ?_; refine Ev.pos (by first | (simp (disch := omega) only [wr_eq] <;> omega) | omega) ?_; refine Ev.pos (by first | (simp (disch := omega) only [wr_eq] <;> omega) | omega) ?_; refine Ev.pos (by first | (simp (disch := omega) only [wr_eq] <;> omega) | omega) ?_; refine Ev.pos (by first | (simp (disch := omega) only [wr_eq] <;> omega) | omega) ?_
  refine Ev.pos hF ?_
  rw [show nZ 1 = 1 from rfl]
  generalize f.toNat = k
  generalize hw6 : up (up (up (up (up w0 120 k 1) 121 k x) 122 k a) 123 k b) 124 k c = w6
  have g : ∀ q, (q < 120 ∨ 124 < q) → w6 q = w0 q := fun q h1 => by rw [← hw6, up_row _ _ _ (by omega), up_row _ _ _ (by omega), up_row _ _ _ (by omega), up_row _ _ _ (by omega), up_row _ _ _ (by omega)]
  have g0 : w6 120 = uf (w0 120) k 1 := by rw [← hw6, up_row _ _ _ (by omega), up_row _ _ _ (by omega), up_row _ _ _ (by omega), up_row _ _ _ (by omega)]; exact up_uf _ _ _ _
  have g1 : w6 121 = uf (w0 121) k x := by rw [← hw6, up_row _ _ _ (by omega), up_row _ _ _ (by omega), up_row _ _ _ (by omega)]; exact (up_uf _ _ _ _).trans (by rw [up_row _ _ _ (by omega)])
  have g2 : w6 122 = uf (w0 122) k a := by rw [← hw6, up_row _ _ _ (by omega), up_row _ _ _ (by omega)]; exact (up_uf _ _ _ _).trans (by rw [up_row _ _ _ (by omega), up_row _ _ _ (by omega)])
  have g3 : w6 123 = uf (w0 123) k b := by rw [← hw6, up_row _ _ _ (by omega)]; exact (up_uf _ _ _ _).trans (by rw [up_row _ _ _ (by omega), up_row _ _ _ (by omega), up_row _ _ _ (by omega)])
  have g4 : w6 124 = uf (w0 124) k c := by rw [← hw6]; exact (up_uf _ _ _ _).trans (by rw [up_row _ _ _ (by omega), up_row _ _ _ (by omega), up_row _ _ _ (by omega), up_row _ _ _ (by omega)])
  clear hw6
  obtain ⟨⟨a1, a2⟩, a3, a4, a5, ⟨b1, b2, b3⟩, a7, a8⟩ := J0
  have e85 := g 85 (by omega)
  refine Ev.ret ⟨by rw [e85]; exact z0, fun _ => rfl, ⟨⟨by rw [e85]; exact a1, by rw [g 86 (by omega)]; exact a2⟩, by rw [e85]; exact a3, pvR_defS a4 (fun q _ hq => g q hq) (fun q _ => by rw [e85]) g0 g1 g2 g3 g4, a5.fr (g 89 (by omega)) (g 90 (by omega)), ⟨RM_fr (g 88 (by omega)) b1, RM_fr (g 99 (by omega)) b2, RM_fr (g 130 (by omega)) b3⟩, ?_, ?_⟩, fun c hc => (g c (by omega)).trans (F0 c hc)⟩
  · rw [e85, g 125 (by omega), g 126 (by omega)]
    exact a7
  · rw [e85]
    exact a8
