/-! the law's loop: each call answers alike on both sides-/
def RG (q : TQ) : Prop := 0 ≤ q.1 ∧ q.1 ≤ 3
theorem rgI {c : Prop} {d : Decidable c} {a b : TQ} (ha : RG a) (hb : RG b) : RG (@ite TQ c d a b) := by
  by_cases h : c
  · rw [if_pos h]; exact ha
  · rw [if_neg h]; exact hb
theorem rgk {k x : Int} {S : St} (h : 0 ≤ k ∧ k ≤ 3) : RG (k, x, S) := h
def WQ (q : TQ) : Prop := WF q.2.2
theorem wqI {c : Prop} {d : Decidable c} {a b : TQ} (ha : WQ a) (hb : WQ b) : WQ (@ite TQ c d a b) := by
  by_cases h : c
  · rw [if_pos h]; exact ha
  · rw [if_neg h]; exact hb
theorem wqk {k x : Int} {S : St} (h : WF S) : WQ (k, x, S) := h
def BQ (q : TQ) : Prop := q.1 = 0 → q.2.1 = 0 ∨ q.2.1 = 1
theorem bqI {c : Prop} {d : Decidable c} {a b : TQ} (ha : BQ a) (hb : BQ b) : BQ (@ite TQ c d a b) := by
  by_cases h : c
  · rw [if_pos h]; exact ha
  · rw [if_neg h]; exact hb
def LI (S : St) (w : WS) : Prop := WF S ∧ JC S w ∧ JM S w
theorem lc_ret {q : TQ} {w w1 : WS} {r1 : Int} {FX : Option (Int × WS)} {k : WS → Option (Int × WS)} {A : Int → WS → Prop} (hq : RG q) (hW : WQ q) (h1 : ClQ q w r1 w1) (h2 : Ev FX (RfQ q w1)) (hk : ∀ w', LI q.2.2 w' → Ev (k w') A) : Ev (ob FX fun r2 w2 => ob (f_X9_thrown w2) fun r3 w3 => if wr r3 = wr r1 then (if wr r1 = 0 then (if 0 ≤ wr 0 ∧ wr 0 < 1 then if wl (w3 135 (wr 0).toNat) = wl (wr r2) then k w3 else none else none) else k w3) else none) A := by
  obtain ⟨a1, a2, a3, a4⟩ := h1
  unfold RG at hq
  refine Ev.bd h2 ?_
  rintro r2 w2 ⟨b1, b2, b3, b4⟩
  have hL : LI q.2.2 w2 := ⟨hW, a3.fr (fun c hc => b4 c (Or.inl hc)), b3⟩
  refine Ev.obe (v := q.1) (w := w2) (by unfold f_X9_thrown; rw [b1]) ?_
  rw [a1]
  refine Ev.pos rfl ?_
  by_cases c : q.1 = 0
  · have e : w2 135 (wr 0).toNat = wr q.2.1 := (congrFun (b4 135 (Or.inr (by omega))) _).trans (a2 c)
    rw [e, b2 c]
    exact Ev.pos (by rw [c]; rfl) (Ev.pos (by decide) (Ev.pos rfl (hk _ hL)))
  · exact Ev.neg (by rw [wr_eq (by omega)]; exact c) (hk _ hL)
theorem lc_bool {q : TQ} {w w1 : WS} {r1 : Int} {FX : Option (Int × WS)} {k : WS → Option (Int × WS)} {A : Int → WS → Prop} (hq : RG q) (hb : BQ q) (hW : WQ q) (h1 : ClQ q w r1 w1) (h2 : Ev FX (RfQ q w1)) (hk : ∀ w', LI q.2.2 w' → Ev (k w') A) : Ev (ob FX fun r2 w2 => ob (f_X9_thrown w2) fun r3 w3 => if wr r3 = wr r1 then (if wr r1 = 0 then (if 0 ≤ wr 0 ∧ wr 0 < 1 then if wr r2 = 0 then (if wl (w3 135 (wr 0).toNat) = wl 0 then k w3 else none) else if wl (w3 135 (wr 0).toNat) = wl 1 then k w3 else none else none) else k w3) else none) A := by
  obtain ⟨a1, a2, a3, a4⟩ := h1
  unfold RG at hq
  refine Ev.bd h2 ?_
  rintro r2 w2 ⟨b1, b2, b3, b4⟩
  have hL : LI q.2.2 w2 := ⟨hW, a3.fr (fun c hc => b4 c (Or.inl hc)), b3⟩
  refine Ev.obe (v := q.1) (w := w2) (by unfold f_X9_thrown; rw [b1]) ?_
  rw [a1]
  refine Ev.pos rfl ?_
  by_cases c : q.1 = 0
  · have e : w2 135 (wr 0).toNat = wr q.2.1 := (congrFun (b4 135 (Or.inr (by omega))) _).trans (a2 c)
    rw [e, b2 c]
    refine Ev.pos (by rw [c]; rfl) (Ev.pos (by decide) ?_)
    rcases hb c with d | d
    · rw [d]; exact Ev.pos rfl (Ev.pos rfl (hk _ hL))
    · rw [d]; exact Ev.neg (by decide) (Ev.pos rfl (hk _ hL))
  · exact Ev.neg (by rw [wr_eq (by omega)]; exact c) (hk _ hL)
theorem lc_f {q : TQ} {w w1 : WS} {r1 : Int} {FX : Option (Int × WS)} {k : WS → Option (Int × WS)} {A : Int → WS → Prop} (hq : RG q) (ok : q.1 = 0 → okF q.2.1 = true) (hW : WQ q) (h1 : ClD f2dI q w r1 w1) (h2 : Ev FX (RfQ q w1)) (hk : ∀ w', LI q.2.2 w' → Ev (k w') A) : Ev (ob FX fun r2 w2 => ob (f_X9_thrown w2) fun r3 w3 => if wr r3 = wr r1 then (if wr r1 = 0 then (if 0 ≤ wr 0 ∧ wr 0 < 1 then if okD (f2dI r2) = true then if (w3 136 (wr 0).toNat) = (f2dI r2) ∧ okD (w3 136 (wr 0).toNat) = true then k w3 else none else none else none) else k w3) else none) A := by
  obtain ⟨a1, a2, a3, a4⟩ := h1
  unfold RG at hq
  refine Ev.bd h2 ?_
  rintro r2 w2 ⟨b1, b2, b3, b4⟩
  have hL : LI q.2.2 w2 := ⟨hW, a3.fr (fun c hc => b4 c (Or.inl hc)), b3⟩
  refine Ev.obe (v := q.1) (w := w2) (by unfold f_X9_thrown; rw [b1]) ?_
  rw [a1]
  refine Ev.pos rfl ?_
  by_cases c : q.1 = 0
  · have e : w2 136 (wr 0).toNat = f2dI q.2.1 := (congrFun (b4 136 (Or.inr (by omega))) _).trans (a2 c)
    have o := ok c
    rw [e, b2 c, okD_f2d, o]
    exact Ev.pos (by rw [c]; rfl) (Ev.pos (by decide) (Ev.pos rfl (Ev.pos ⟨rfl, rfl⟩ (hk _ hL))))
  · exact Ev.neg (by rw [wr_eq (by omega)]; exact c) (hk _ hL)
theorem lc_d {q : TQ} {w w1 : WS} {r1 : Int} {FX : Option (Int × WS)} {k : WS → Option (Int × WS)} {A : Int → WS → Prop} (hq : RG q) (ok : q.1 = 0 → okD q.2.1 = true) (hW : WQ q) (h1 : ClD id q w r1 w1) (h2 : Ev FX (RfQ q w1)) (hk : ∀ w', LI q.2.2 w' → Ev (k w') A) : Ev (ob FX fun r2 w2 => ob (f_X9_thrown w2) fun r3 w3 => if wr r3 = wr r1 then (if wr r1 = 0 then (if 0 ≤ wr 0 ∧ wr 0 < 1 then if (w3 136 (wr 0).toNat) = r2 ∧ okD (w3 136 (wr 0).toNat) = true then k w3 else none else none) else k w3) else none) A := by
  obtain ⟨a1, a2, a3, a4⟩ := h1
  unfold RG at hq
  refine Ev.bd h2 ?_
  rintro r2 w2 ⟨b1, b2, b3, b4⟩
  have hL : LI q.2.2 w2 := ⟨hW, a3.fr (fun c hc => b4 c (Or.inl hc)), b3⟩
  refine Ev.obe (v := q.1) (w := w2) (by unfold f_X9_thrown; rw [b1]) ?_
  rw [a1]
  refine Ev.pos rfl ?_
  by_cases c : q.1 = 0
  · have e : w2 136 (wr 0).toNat = q.2.1 := (congrFun (b4 136 (Or.inr (by omega))) _).trans (a2 c)
    have o := ok c
    rw [e, b2 c, o]
    exact Ev.pos (by rw [c]; rfl) (Ev.pos (by decide) (Ev.pos ⟨rfl, rfl⟩ (hk _ hL)))
  · exact Ev.neg (by rw [wr_eq (by omega)]; exact c) (hk _ hL)
theorem lc_dq {x : Int} {S : St} {w w1 : WS} {r1 : Int} {FX : Option (Int × WS)} {k : WS → Option (Int × WS)} {A : Int → WS → Prop} (hW : WF S) (h1 : DQ (x, S) w r1 w1) (h2 : Ev FX (RfQ (0, x, S) w1)) (hk : ∀ w', LI S w' → Ev (k w') A) : Ev (ob FX fun r2 w2 => if wr r1 = wr r2 then k w2 else none) A := by
  obtain ⟨a1, a3, a4⟩ := h1
  refine Ev.bd h2 ?_
  rintro r2 w2 ⟨b1, b2, b3, b4⟩
  have hL : LI S w2 := ⟨hW, a3.fr (fun c hc => b4 c (Or.inl hc)), b3⟩
  rw [a1, b2 rfl]
  exact Ev.pos rfl (hk _ hL)
theorem lc_dl {x : Int} {S : St} {w w1 : WS} {r1 : Int} {FX : Option (Int × WS)} {k : WS → Option (Int × WS)} {A : Int → WS → Prop} (hW : WF S) (h1 : DQ (x, S) w r1 w1) (h2 : Ev FX (RfQ (0, x, S) w1)) (hk : ∀ w', LI S w' → Ev (k w') A) : Ev (ob FX fun r2 w2 => if wl r1 = wl r2 then k w2 else none) A := by
  obtain ⟨a1, a3, a4⟩ := h1
  refine Ev.bd h2 ?_
  rintro r2 w2 ⟨b1, b2, b3, b4⟩
  have hL : LI S w2 := ⟨hW, a3.fr (fun c hc => b4 c (Or.inl hc)), b3⟩
  rw [a1, b2 rfl]
  exact Ev.pos rfl (hk _ hL)
theorem ClQ.m {q : TQ} {w w1 : WS} {r : Int} {S : St} (h : ClQ q w r w1) (k : JM S w) : JM S w1 := k.fr (fun c a b => h.2.2.2 c a (by omega))
theorem ClD.m {g : Int → Int} {q : TQ} {w w1 : WS} {r : Int} {S : St} (h : ClD g q w r w1) (k : JM S w) : JM S w1 := k.fr (fun c a b => h.2.2.2 c a (by omega))
theorem DQ.m {q : Int × St} {w w1 : WS} {r : Int} {S : St} (h : DQ q w r w1) (k : JM S w) : JM S w1 := k.fr (fun c a _ => h.2.2 c a)
theorem nC_rg (a : Int) : 0 ≤ nC a ∧ nC a < 65536 := by
  unfold nC
  omega
theorem rg_type (a : Int) (S : St) : RG (tq_type a S) := by
  unfold tq_type
  repeat (first | apply rgI | exact rgk (by decide))
theorem rg_text  (S : St) : RG (tq_text  S) := by
  unfold tq_text
  repeat (first | apply rgI | exact rgk (by decide))
theorem rg_set (a : Int) (S : St) : RG (tq_set a S) := by
  unfold tq_set
  repeat (first | apply rgI | exact rgk (by decide))
theorem rg_size (a : Int) (S : St) : RG (tq_size a S) := by
  unfold tq_size
  repeat (first | apply rgI | exact rgk (by decide))
theorem rg_at (a : Int) (b : Int) (S : St) : RG (tq_at a b S) := by
  unfold tq_at
  repeat (first | apply rgI | exact rgk (by decide))
theorem rg_typed (a : Int) (S : St) : RG (tq_typed a S) := by
  unfold tq_typed
  repeat (first | apply rgI | exact rgk (by decide))
theorem rg_r (x : Int) (S : St) : RG (tq_r x S) := by
  unfold tq_r
  repeat (first | apply rgI | exact rgk (by decide))
theorem rg_error  (S : St) : RG (tq_error  S) := by
  unfold tq_error
  repeat (first | apply rgI | exact rgk (by decide))
theorem rg_c (f : Nat → Int) (a : Int) (S : St) : RG (tq_c f a S) := by
  unfold tq_c
  repeat (first | apply rgI | exact rgk (by decide))
theorem rg_m (x : Int) (S : St) : RG (tq_m x S) := by
  unfold tq_m
  repeat (first | apply rgI | exact rgk (by decide))
theorem rg_begun  (S : St) : RG (tq_begun  S) := by
  unfold tq_begun
  repeat (first | apply rgI | exact rgk (by decide))
theorem rg_run (a : Int) (m : Int) (S : St) : RG (tq_run a m S) := by
  unfold tq_run
  repeat (first | apply rgI | exact rgk (by decide))
theorem rg_match (a : Int) (S : St) : RG (tq_match a S) := by
  unfold tq_match
  repeat (first | apply rgI | exact rgk (by decide))
theorem rg_ways (a : Int) (S : St) : RG (tq_ways a S) := by
  unfold tq_ways
  repeat (first | apply rgI | exact rgk (by decide))
theorem rg_way (a : Int) (b : Int) (S : St) : RG (tq_way a b S) := by
  unfold tq_way
  repeat (first | apply rgI | exact rgk (by decide))
theorem rg_work (a : Int) (S : St) : RG (tq_work a S) := by
  unfold tq_work
  repeat (first | apply rgI | exact rgk (by decide))
theorem rg_define (f : Int) (x : Int) (a : Int) (b : Int) (c : Int) (S : St) : RG (tq_define f x a b c S) := by
  unfold tq_define
  repeat (first | apply rgI | exact rgk (by decide))
theorem rg_pattern (k : Int) (a : Int) (b : Int) (S : St) : RG (tq_pattern k a b S) := by
  unfold tq_pattern
  repeat (first | apply rgI | exact rgk (by decide))
theorem rg_term (k : Int) (a : Int) (b : Int) (S : St) : RG (tq_term k a b S) := by
  unfold tq_term
  repeat (first | apply rgI | exact rgk (by decide))
theorem rg_failShare  (S : St) : RG (tq_failShare  S) := by
  unfold tq_failShare
  repeat (first | apply rgI | exact rgk (by decide))
theorem rg_meanSize  (S : St) : RG (tq_meanSize  S) := by
  unfold tq_meanSize
  repeat (first | apply rgI | exact rgk (by decide))
theorem rg_stat (o1 o2 : Prop) (K v p t y n : Int) (S : St) : RG (tq_stat o1 o2 K v p t y n S) := by
  unfold tq_stat
  repeat (first | apply rgI | exact rgk (by decide))
theorem bq_match (a : Int) (S : St) : BQ (tq_match a S) := by
  unfold tq_match
  repeat (first | apply bqI | exact fun h => absurd h (by decide) | exact fun _ => Or.inl rfl | exact fun _ => Or.inr rfl)
theorem bq_work (a : Int) (S : St) : BQ (tq_work a S) := by
  unfold tq_work
  repeat (first | apply bqI | exact fun h => absurd h (by decide) | exact fun _ => Or.inl rfl | exact fun _ => Or.inr rfl)
theorem wq_size (a : Int) {S : St} (hW : WF S) : WQ (tq_size a S) := by
  unfold tq_size
  repeat (first | apply wqI | exact wqk hW)
theorem wq_at (a : Int) (b : Int) {S : St} (hW : WF S) : WQ (tq_at a b S) := by
  unfold tq_at
  repeat (first | apply wqI | exact wqk hW)
theorem wq_typed (a : Int) {S : St} (hW : WF S) : WQ (tq_typed a S) := by
  unfold tq_typed
  repeat (first | apply wqI | exact wqk hW)
theorem wq_r (x : Int) {S : St} (hW : WF S) : WQ (tq_r x S) := by
  unfold tq_r
  repeat (first | apply wqI | exact wqk hW)
theorem wq_error  {S : St} (hW : WF S) : WQ (tq_error  S) := by
  unfold tq_error
  repeat (first | apply wqI | exact wqk hW)
theorem wq_c (f : Nat → Int) (a : Int) {S : St} (hW : WF S) : WQ (tq_c f a S) := by
  unfold tq_c
  repeat (first | apply wqI | exact wqk hW)
theorem wq_m (x : Int) {S : St} (hW : WF S) : WQ (tq_m x S) := by
  unfold tq_m
  repeat (first | apply wqI | exact wqk hW)
theorem wq_begun  {S : St} (hW : WF S) : WQ (tq_begun  S) := by
  unfold tq_begun
  repeat (first | apply wqI | exact wqk hW)
theorem wq_failShare  {S : St} (hW : WF S) : WQ (tq_failShare  S) := by
  unfold tq_failShare
  repeat (first | apply wqI | exact wqk hW)
theorem wq_meanSize  {S : St} (hW : WF S) : WQ (tq_meanSize  S) := by
  unfold tq_meanSize
  repeat (first | apply wqI | exact wqk hW)
theorem bq_define (f x a b c : Int) {S : St} (hW : WF S) : BQ (tq_define f x a b c S) := by
  unfold tq_define
  by_cases h1 : o1D f x a b c
  · rw [if_pos h1]
    by_cases h2 : o2D a b c
    · rw [if_pos h2]
      intro _
      exact (hW.2.2.1.2.2.2.2.2.2.2.2 f h1.1.1 h1.1.2).1
    · rw [if_neg h2]
      exact fun h => absurd h (by decide : ¬ (2 : Int) = 0)
  · rw [if_neg h1]
    exact fun h => absurd h (by decide : ¬ (1 : Int) = 0)
theorem wf_wipe {S : St} (hW : WF S) : WF ([], S.2) := ⟨⟨SO_nil, Nat.zero_le _⟩, hW.2⟩
theorem ok_failShare {S : St} (hW : WF S) : (tq_failShare S).1 = 0 → okF (tq_failShare S).2.1 = true := by
  intro h
  unfold tq_failShare at h ⊢
  by_cases c : S.2.2.2.2.1.1 = 0
  · rw [if_pos c] at h
    exact absurd h (by decide : ¬ (1 : Int) = 0)
  · rw [if_neg c]
    exact tq_failShare_ok hW c
theorem ok_meanSize (S : St) : (tq_meanSize S).1 = 0 → okD (tq_meanSize S).2.1 = true := by
  intro h
  have hn := noA_le S.2.2.2.1 26
  unfold tq_meanSize at h ⊢
  by_cases c : noA S.2.2.2.1 26 = 0
  · rw [if_pos c] at h
    exact absurd h (by decide : ¬ (1 : Int) = 0)
  · rw [if_neg c]
    exact okD_dd _ (by rw [wr_eq (by omega)]; exact c)
theorem lc_0 {xs : Nat → Int} {L : Nat} (hx : ∀ k, IR (xs k)) (hL : L ≤ 3072) {k28 : Int → WS → Option (Int × WS)} {a5 : Int} {S : St} {w : WS} {A : Int → WS → Prop} (hI : LI S w) (ha : 0 ≤ a5 ∧ a5 + 5 < L) (hk : ∀ S' w', LI S' w' → Ev (k28 (a5 + 6) w') A) : Ev (f_law_c0 xs L k28 a5 w) A := by
  obtain ⟨hW, hC, hM⟩ := hI
  unfold f_law_c0
  have g1 : 0 ≤ wr (a5 + 1) ∧ wr (a5 + 1) < (L : Int) := by rw [wr_eq (by omega)]; omega
  simp only [if_pos g1]
  have i1 := hx (wr (a5 + 1)).toNat
  clear g1
  generalize xs (wr (a5 + 1)).toNat = x1 at *
  exact Ev.bd (cl_type hW hC i1) (fun r1 w1 h1 => lc_ret (rg_type _ _) (tq_type_WF hW) h1 (rf_type hW (h1.m hM) i1) (fun w9 q9 => hk _ w9 q9))
theorem lc_2 {xs : Nat → Int} {L : Nat} (hx : ∀ k, IR (xs k)) (hL : L ≤ 3072) {k28 : Int → WS → Option (Int × WS)} {a5 : Int} {S : St} {w : WS} {A : Int → WS → Prop} (hI : LI S w) (ha : 0 ≤ a5 ∧ a5 + 5 < L) (hk : ∀ S' w', LI S' w' → Ev (k28 (a5 + 6) w') A) : Ev (f_law_c2 xs L k28 a5 w) A := by
  obtain ⟨hW, hC, hM⟩ := hI
  unfold f_law_c2
  exact Ev.bd (cl_text hW hC) (fun r1 w1 h1 => lc_ret (rg_text _) (tq_text_WF hW) h1 (rf_text hW (h1.m hM)) (fun w9 q9 => hk _ w9 q9))
theorem lc_3 {xs : Nat → Int} {L : Nat} (hx : ∀ k, IR (xs k)) (hL : L ≤ 3072) {k28 : Int → WS → Option (Int × WS)} {a5 : Int} {S : St} {w : WS} {A : Int → WS → Prop} (hI : LI S w) (ha : 0 ≤ a5 ∧ a5 + 5 < L) (hk : ∀ S' w', LI S' w' → Ev (k28 (a5 + 6) w') A) : Ev (f_law_c3 xs L k28 a5 w) A := by
  obtain ⟨hW, hC, hM⟩ := hI
  unfold f_law_c3
  have g1 : 0 ≤ wr (a5 + 1) ∧ wr (a5 + 1) < (L : Int) := by rw [wr_eq (by omega)]; omega
  simp only [if_pos g1]
  have i1 := hx (wr (a5 + 1)).toNat
  clear g1
  generalize xs (wr (a5 + 1)).toNat = x1 at *
  exact Ev.bd (cl_set hW hC i1) (fun r1 w1 h1 => lc_ret (rg_set _ _) (tq_set_WF hW) h1 (rf_set hW (h1.m hM) i1) (fun w9 q9 => hk _ w9 q9))
theorem lc_4 {xs : Nat → Int} {L : Nat} (hx : ∀ k, IR (xs k)) (hL : L ≤ 3072) {k28 : Int → WS → Option (Int × WS)} {a5 : Int} {S : St} {w : WS} {A : Int → WS → Prop} (hI : LI S w) (ha : 0 ≤ a5 ∧ a5 + 5 < L) (hk : ∀ S' w', LI S' w' → Ev (k28 (a5 + 6) w') A) : Ev (f_law_c4 xs L k28 a5 w) A := by
  obtain ⟨hW, hC, hM⟩ := hI
  unfold f_law_c4
  have g1 : 0 ≤ wr (a5 + 1) ∧ wr (a5 + 1) < (L : Int) := by rw [wr_eq (by omega)]; omega
  simp only [if_pos g1]
  have i1 := hx (wr (a5 + 1)).toNat
  clear g1
  generalize xs (wr (a5 + 1)).toNat = x1 at *
  exact Ev.bd (cl_size hC i1) (fun r1 w1 h1 => lc_ret (rg_size _ _) (wq_size _ hW) h1 (rf_size (h1.m hM) i1) (fun w9 q9 => hk _ w9 q9))
theorem lc_5 {xs : Nat → Int} {L : Nat} (hx : ∀ k, IR (xs k)) (hL : L ≤ 3072) {k28 : Int → WS → Option (Int × WS)} {a5 : Int} {S : St} {w : WS} {A : Int → WS → Prop} (hI : LI S w) (ha : 0 ≤ a5 ∧ a5 + 5 < L) (hk : ∀ S' w', LI S' w' → Ev (k28 (a5 + 6) w') A) : Ev (f_law_c5 xs L k28 a5 w) A := by
  obtain ⟨hW, hC, hM⟩ := hI
  unfold f_law_c5
  have g1 : 0 ≤ wr (a5 + 1) ∧ wr (a5 + 1) < (L : Int) := by rw [wr_eq (by omega)]; omega
  have g2 : 0 ≤ wr (a5 + 2) ∧ wr (a5 + 2) < (L : Int) := by rw [wr_eq (by omega)]; omega
  simp only [if_pos g1, if_pos g2]
  have i1 := hx (wr (a5 + 1)).toNat
  clear g1
  generalize xs (wr (a5 + 1)).toNat = x1 at *
  have i2 := hx (wr (a5 + 2)).toNat
  clear g2
  generalize xs (wr (a5 + 2)).toNat = x2 at *
  exact Ev.bd (cl_at hC i1 i2) (fun r1 w1 h1 => lc_ret (rg_at _ _ _) (wq_at _ _ hW) h1 (rf_at (h1.m hM) i1 i2) (fun w9 q9 => hk _ w9 q9))
theorem lc_6 {xs : Nat → Int} {L : Nat} (hx : ∀ k, IR (xs k)) (hL : L ≤ 3072) {k28 : Int → WS → Option (Int × WS)} {a5 : Int} {S : St} {w : WS} {A : Int → WS → Prop} (hI : LI S w) (ha : 0 ≤ a5 ∧ a5 + 5 < L) (hk : ∀ S' w', LI S' w' → Ev (k28 (a5 + 6) w') A) : Ev (f_law_c6 xs L k28 a5 w) A := by
  obtain ⟨hW, hC, hM⟩ := hI
  unfold f_law_c6
  have g1 : 0 ≤ wr (a5 + 1) ∧ wr (a5 + 1) < (L : Int) := by rw [wr_eq (by omega)]; omega
  have g2 : 0 ≤ wr (a5 + 2) ∧ wr (a5 + 2) < (L : Int) := by rw [wr_eq (by omega)]; omega
  have g3 : 0 ≤ wr (a5 + 3) ∧ wr (a5 + 3) < (L : Int) := by rw [wr_eq (by omega)]; omega
  simp only [if_pos g1, if_pos g2, if_pos g3]
  have i1 := hx (wr (a5 + 1)).toNat
  clear g1
  generalize xs (wr (a5 + 1)).toNat = x1 at *
  have i2 := hx (wr (a5 + 2)).toNat
  clear g2
  generalize xs (wr (a5 + 2)).toNat = x2 at *
  have i3 := hx (wr (a5 + 3)).toNat
  clear g3
  generalize xs (wr (a5 + 3)).toNat = x3 at *
  exact Ev.bd (cl_pattern hW hC i2 i3) (fun r1 w1 h1 => lc_ret (rg_pattern _ _ _ _) (tq_pattern_WF hW) h1 (rf_pattern hW (h1.m hM) (nC_rg _) i2 i3) (fun w9 q9 => hk _ w9 q9))
theorem lc_7 {xs : Nat → Int} {L : Nat} (hx : ∀ k, IR (xs k)) (hL : L ≤ 3072) {k28 : Int → WS → Option (Int × WS)} {a5 : Int} {S : St} {w : WS} {A : Int → WS → Prop} (hI : LI S w) (ha : 0 ≤ a5 ∧ a5 + 5 < L) (hk : ∀ S' w', LI S' w' → Ev (k28 (a5 + 6) w') A) : Ev (f_law_c7 xs L k28 a5 w) A := by
  obtain ⟨hW, hC, hM⟩ := hI
  unfold f_law_c7
  have g1 : 0 ≤ wr (a5 + 1) ∧ wr (a5 + 1) < (L : Int) := by rw [wr_eq (by omega)]; omega
  have g2 : 0 ≤ wr (a5 + 2) ∧ wr (a5 + 2) < (L : Int) := by rw [wr_eq (by omega)]; omega
  have g3 : 0 ≤ wr (a5 + 3) ∧ wr (a5 + 3) < (L : Int) := by rw [wr_eq (by omega)]; omega
  simp only [if_pos g1, if_pos g2, if_pos g3]
  have i1 := hx (wr (a5 + 1)).toNat
  clear g1
  generalize xs (wr (a5 + 1)).toNat = x1 at *
  have i2 := hx (wr (a5 + 2)).toNat
  clear g2
  generalize xs (wr (a5 + 2)).toNat = x2 at *
  have i3 := hx (wr (a5 + 3)).toNat
  clear g3
  generalize xs (wr (a5 + 3)).toNat = x3 at *
  exact Ev.bd (cl_term hW hC i2 i3) (fun r1 w1 h1 => lc_ret (rg_term _ _ _ _) (tq_term_WF hW) h1 (rf_term hW (h1.m hM) (nC_rg _) i2 i3) (fun w9 q9 => hk _ w9 q9))
theorem lc_8 {xs : Nat → Int} {L : Nat} (hx : ∀ k, IR (xs k)) (hL : L ≤ 3072) {k28 : Int → WS → Option (Int × WS)} {a5 : Int} {S : St} {w : WS} {A : Int → WS → Prop} (hI : LI S w) (ha : 0 ≤ a5 ∧ a5 + 5 < L) (hk : ∀ S' w', LI S' w' → Ev (k28 (a5 + 6) w') A) : Ev (f_law_c8 xs L k28 a5 w) A := by
  obtain ⟨hW, hC, hM⟩ := hI
  unfold f_law_c8
  have g1 : 0 ≤ wr (a5 + 1) ∧ wr (a5 + 1) < (L : Int) := by rw [wr_eq (by omega)]; omega
  have g2 : 0 ≤ wr (a5 + 2) ∧ wr (a5 + 2) < (L : Int) := by rw [wr_eq (by omega)]; omega
  have g3 : 0 ≤ wr (a5 + 3) ∧ wr (a5 + 3) < (L : Int) := by rw [wr_eq (by omega)]; omega
  have g4 : 0 ≤ wr (a5 + 4) ∧ wr (a5 + 4) < (L : Int) := by rw [wr_eq (by omega)]; omega
  simp only [if_pos g1, if_pos g2, if_pos g3, if_pos g4]
  have i1 := hx (wr (a5 + 1)).toNat
  clear g1
  generalize xs (wr (a5 + 1)).toNat = x1 at *
  have i2 := hx (wr (a5 + 2)).toNat
  clear g2
  generalize xs (wr (a5 + 2)).toNat = x2 at *
  have i3 := hx (wr (a5 + 3)).toNat
  clear g3
  generalize xs (wr (a5 + 3)).toNat = x3 at *
  have i4 := hx (wr (a5 + 4)).toNat
  clear g4
  generalize xs (wr (a5 + 4)).toNat = x4 at *
  exact Ev.bd (cl_assign hW hC i1 i2 i3 i4) (fun r1 w1 h1 => lc_ret (rg_stat _ _ _ _ _ _ _ _ _) (tq_assign_WF hW) h1 (rf_assign hW (h1.m hM) i1 i2 i3 i4) (fun w9 q9 => hk _ w9 q9))
theorem lc_9 {xs : Nat → Int} {L : Nat} (hx : ∀ k, IR (xs k)) (hL : L ≤ 3072) {k28 : Int → WS → Option (Int × WS)} {a5 : Int} {S : St} {w : WS} {A : Int → WS → Prop} (hI : LI S w) (ha : 0 ≤ a5 ∧ a5 + 5 < L) (hk : ∀ S' w', LI S' w' → Ev (k28 (a5 + 6) w') A) : Ev (f_law_c9 xs L k28 a5 w) A := by
  obtain ⟨hW, hC, hM⟩ := hI
  unfold f_law_c9
  have g1 : 0 ≤ wr (a5 + 1) ∧ wr (a5 + 1) < (L : Int) := by rw [wr_eq (by omega)]; omega
  have g2 : 0 ≤ wr (a5 + 2) ∧ wr (a5 + 2) < (L : Int) := by rw [wr_eq (by omega)]; omega
  have g3 : 0 ≤ wr (a5 + 3) ∧ wr (a5 + 3) < (L : Int) := by rw [wr_eq (by omega)]; omega
  have g4 : 0 ≤ wr (a5 + 4) ∧ wr (a5 + 4) < (L : Int) := by rw [wr_eq (by omega)]; omega
  have g5 : 0 ≤ wr (a5 + 5) ∧ wr (a5 + 5) < (L : Int) := by rw [wr_eq (by omega)]; omega
  simp only [if_pos g1, if_pos g2, if_pos g3, if_pos g4, if_pos g5]
  have i1 := hx (wr (a5 + 1)).toNat
  clear g1
  generalize xs (wr (a5 + 1)).toNat = x1 at *
  have i2 := hx (wr (a5 + 2)).toNat
  clear g2
  generalize xs (wr (a5 + 2)).toNat = x2 at *
  have i3 := hx (wr (a5 + 3)).toNat
  clear g3
  generalize xs (wr (a5 + 3)).toNat = x3 at *
  have i4 := hx (wr (a5 + 4)).toNat
  clear g4
  generalize xs (wr (a5 + 4)).toNat = x4 at *
  have i5 := hx (wr (a5 + 5)).toNat
  clear g5
  generalize xs (wr (a5 + 5)).toNat = x5 at *
  exact Ev.bd (cl_scan hW hC i1 i2 i3 i4 i5) (fun r1 w1 h1 => lc_ret (rg_stat _ _ _ _ _ _ _ _ _) (tq_scan_WF hW) h1 (rf_scan hW (h1.m hM) i1 i2 i3 i4 i5) (fun w9 q9 => hk _ w9 q9))
theorem lc_10 {xs : Nat → Int} {L : Nat} (hx : ∀ k, IR (xs k)) (hL : L ≤ 3072) {k28 : Int → WS → Option (Int × WS)} {a5 : Int} {S : St} {w : WS} {A : Int → WS → Prop} (hI : LI S w) (ha : 0 ≤ a5 ∧ a5 + 5 < L) (hk : ∀ S' w', LI S' w' → Ev (k28 (a5 + 6) w') A) : Ev (f_law_c10 xs L k28 a5 w) A := by
  obtain ⟨hW, hC, hM⟩ := hI
  unfold f_law_c10
  have g1 : 0 ≤ wr (a5 + 1) ∧ wr (a5 + 1) < (L : Int) := by rw [wr_eq (by omega)]; omega
  have g2 : 0 ≤ wr (a5 + 2) ∧ wr (a5 + 2) < (L : Int) := by rw [wr_eq (by omega)]; omega
  have g3 : 0 ≤ wr (a5 + 3) ∧ wr (a5 + 3) < (L : Int) := by rw [wr_eq (by omega)]; omega
  have g4 : 0 ≤ wr (a5 + 4) ∧ wr (a5 + 4) < (L : Int) := by rw [wr_eq (by omega)]; omega
  have g5 : 0 ≤ wr (a5 + 5) ∧ wr (a5 + 5) < (L : Int) := by rw [wr_eq (by omega)]; omega
  simp only [if_pos g1, if_pos g2, if_pos g3, if_pos g4, if_pos g5]
  have i1 := hx (wr (a5 + 1)).toNat
  clear g1
  generalize xs (wr (a5 + 1)).toNat = x1 at *
  have i2 := hx (wr (a5 + 2)).toNat
  clear g2
  generalize xs (wr (a5 + 2)).toNat = x2 at *
  have i3 := hx (wr (a5 + 3)).toNat
  clear g3
  generalize xs (wr (a5 + 3)).toNat = x3 at *
  have i4 := hx (wr (a5 + 4)).toNat
  clear g4
  generalize xs (wr (a5 + 4)).toNat = x4 at *
  have i5 := hx (wr (a5 + 5)).toNat
  clear g5
  generalize xs (wr (a5 + 5)).toNat = x5 at *
  exact Ev.bd (cl_call hW hC i1 i2 i3 i4 i5) (fun r1 w1 h1 => lc_ret (rg_stat _ _ _ _ _ _ _ _ _) (tq_call_WF hW) h1 (rf_call hW (h1.m hM) i1 i2 i3 i4 i5) (fun w9 q9 => hk _ w9 q9))
theorem lc_11 {xs : Nat → Int} {L : Nat} (hx : ∀ k, IR (xs k)) (hL : L ≤ 3072) {k28 : Int → WS → Option (Int × WS)} {a5 : Int} {S : St} {w : WS} {A : Int → WS → Prop} (hI : LI S w) (ha : 0 ≤ a5 ∧ a5 + 5 < L) (hk : ∀ S' w', LI S' w' → Ev (k28 (a5 + 6) w') A) : Ev (f_law_c11 xs L k28 a5 w) A := by
  obtain ⟨hW, hC, hM⟩ := hI
  unfold f_law_c11
  have g1 : 0 ≤ wr (a5 + 1) ∧ wr (a5 + 1) < (L : Int) := by rw [wr_eq (by omega)]; omega
  have g2 : 0 ≤ wr (a5 + 2) ∧ wr (a5 + 2) < (L : Int) := by rw [wr_eq (by omega)]; omega
  have g3 : 0 ≤ wr (a5 + 3) ∧ wr (a5 + 3) < (L : Int) := by rw [wr_eq (by omega)]; omega
  have g4 : 0 ≤ wr (a5 + 4) ∧ wr (a5 + 4) < (L : Int) := by rw [wr_eq (by omega)]; omega
  have g5 : 0 ≤ wr (a5 + 5) ∧ wr (a5 + 5) < (L : Int) := by rw [wr_eq (by omega)]; omega
  simp only [if_pos g1, if_pos g2, if_pos g3, if_pos g4, if_pos g5]
  have i1 := hx (wr (a5 + 1)).toNat
  clear g1
  generalize xs (wr (a5 + 1)).toNat = x1 at *
  have i2 := hx (wr (a5 + 2)).toNat
  clear g2
  generalize xs (wr (a5 + 2)).toNat = x2 at *
  have i3 := hx (wr (a5 + 3)).toNat
  clear g3
  generalize xs (wr (a5 + 3)).toNat = x3 at *
  have i4 := hx (wr (a5 + 4)).toNat
  clear g4
  generalize xs (wr (a5 + 4)).toNat = x4 at *
  have i5 := hx (wr (a5 + 5)).toNat
  clear g5
  generalize xs (wr (a5 + 5)).toNat = x5 at *
  exact Ev.bd (cl_define hW hC i1 i2 i3 i4 i5) (fun r1 w1 h1 => lc_bool (rg_define _ _ _ _ _ _) (bq_define _ _ _ _ _ hW) (tq_define_WF hW) h1 (rf_define hW (h1.m hM) i1 i2 i3 i4 i5) (fun w9 q9 => hk _ w9 q9))
theorem lc_13 {xs : Nat → Int} {L : Nat} (hx : ∀ k, IR (xs k)) (hL : L ≤ 3072) {k28 : Int → WS → Option (Int × WS)} {a5 : Int} {S : St} {w : WS} {A : Int → WS → Prop} (hI : LI S w) (ha : 0 ≤ a5 ∧ a5 + 5 < L) (hk : ∀ S' w', LI S' w' → Ev (k28 (a5 + 6) w') A) : Ev (f_law_c13 xs L k28 a5 w) A := by
  obtain ⟨hW, hC, hM⟩ := hI
  unfold f_law_c13
  have g1 : 0 ≤ wr (a5 + 1) ∧ wr (a5 + 1) < (L : Int) := by rw [wr_eq (by omega)]; omega
  have g2 : 0 ≤ wr (a5 + 2) ∧ wr (a5 + 2) < (L : Int) := by rw [wr_eq (by omega)]; omega
  simp only [if_pos g1, if_pos g2]
  have i1 := hx (wr (a5 + 1)).toNat
  clear g1
  generalize xs (wr (a5 + 1)).toNat = x1 at *
  have i2 := hx (wr (a5 + 2)).toNat
  clear g2
  generalize xs (wr (a5 + 2)).toNat = x2 at *
  exact Ev.bd (cl_runq hW hC i1 i2) (fun r1 w1 h1 => lc_ret (rg_run _ _ _) h1.2 h1.1 (rf_run hW (h1.1.m hM) i1 i2) (fun w9 q9 => hk _ w9 q9))
theorem lc_14 {xs : Nat → Int} {L : Nat} (hx : ∀ k, IR (xs k)) (hL : L ≤ 3072) {k28 : Int → WS → Option (Int × WS)} {a5 : Int} {S : St} {w : WS} {A : Int → WS → Prop} (hI : LI S w) (ha : 0 ≤ a5 ∧ a5 + 5 < L) (hk : ∀ S' w', LI S' w' → Ev (k28 (a5 + 6) w') A) : Ev (f_law_c14 xs L k28 a5 w) A := by
  obtain ⟨hW, hC, hM⟩ := hI
  unfold f_law_c14
  exact Ev.bd (cl_error hW hC) (fun r1 w1 h1 => lc_ret (rg_error _) (wq_error hW) h1 (rf_error hW (h1.m hM)) (fun w9 q9 => hk _ w9 q9))
theorem lc_15 {xs : Nat → Int} {L : Nat} (hx : ∀ k, IR (xs k)) (hL : L ≤ 3072) {k28 : Int → WS → Option (Int × WS)} {a5 : Int} {S : St} {w : WS} {A : Int → WS → Prop} (hI : LI S w) (ha : 0 ≤ a5 ∧ a5 + 5 < L) (hk : ∀ S' w', LI S' w' → Ev (k28 (a5 + 6) w') A) : Ev (f_law_c15 xs L k28 a5 w) A := by
  obtain ⟨hW, hC, hM⟩ := hI
  unfold f_law_c15
  exact Ev.bd (cl_last hW hC) (fun r1 w1 h1 => lc_ret (rg_r _ _) (wq_r _ hW) h1 (rf_last hW (h1.m hM)) (fun w9 q9 => hk _ w9 q9))
theorem lc_16 {xs : Nat → Int} {L : Nat} (hx : ∀ k, IR (xs k)) (hL : L ≤ 3072) {k28 : Int → WS → Option (Int × WS)} {a5 : Int} {S : St} {w : WS} {A : Int → WS → Prop} (hI : LI S w) (ha : 0 ≤ a5 ∧ a5 + 5 < L) (hk : ∀ S' w', LI S' w' → Ev (k28 (a5 + 6) w') A) : Ev (f_law_c16 xs L k28 a5 w) A := by
  obtain ⟨hW, hC, hM⟩ := hI
  unfold f_law_c16
  exact Ev.bd (cl_steps hW hC) (fun r1 w1 h1 => lc_ret (rg_r _ _) (wq_r _ hW) h1 (rf_steps hW (h1.m hM)) (fun w9 q9 => hk _ w9 q9))
theorem lc_19 {xs : Nat → Int} {L : Nat} (hx : ∀ k, IR (xs k)) (hL : L ≤ 3072) {k28 : Int → WS → Option (Int × WS)} {a5 : Int} {S : St} {w : WS} {A : Int → WS → Prop} (hI : LI S w) (ha : 0 ≤ a5 ∧ a5 + 5 < L) (hk : ∀ S' w', LI S' w' → Ev (k28 (a5 + 6) w') A) : Ev (f_law_c19 xs L k28 a5 w) A := by
  obtain ⟨hW, hC, hM⟩ := hI
  unfold f_law_c19
  exact Ev.bd (cl_depth hW hC) (fun r1 w1 h1 => lc_ret (rg_r _ _) (wq_r _ hW) h1 (rf_depth hW (h1.m hM)) (fun w9 q9 => hk _ w9 q9))
theorem lc_17 {xs : Nat → Int} {L : Nat} (hx : ∀ k, IR (xs k)) (hL : L ≤ 3072) {k28 : Int → WS → Option (Int × WS)} {a5 : Int} {S : St} {w : WS} {A : Int → WS → Prop} (hI : LI S w) (ha : 0 ≤ a5 ∧ a5 + 5 < L) (hk : ∀ S' w', LI S' w' → Ev (k28 (a5 + 6) w') A) : Ev (f_law_c17 xs L k28 a5 w) A := by
  obtain ⟨hW, hC, hM⟩ := hI
  unfold f_law_c17
  have g1 : 0 ≤ wr (a5 + 1) ∧ wr (a5 + 1) < (L : Int) := by rw [wr_eq (by omega)]; omega
  simp only [if_pos g1]
  have i1 := hx (wr (a5 + 1)).toNat
  clear g1
  generalize xs (wr (a5 + 1)).toNat = x1 at *
  exact Ev.bd (cl_done hW hC i1) (fun r1 w1 h1 => lc_ret (rg_c _ _ _) (wq_c _ _ hW) h1 (rf_done hW (h1.m hM) i1) (fun w9 q9 => hk _ w9 q9))
theorem lc_18 {xs : Nat → Int} {L : Nat} (hx : ∀ k, IR (xs k)) (hL : L ≤ 3072) {k28 : Int → WS → Option (Int × WS)} {a5 : Int} {S : St} {w : WS} {A : Int → WS → Prop} (hI : LI S w) (ha : 0 ≤ a5 ∧ a5 + 5 < L) (hk : ∀ S' w', LI S' w' → Ev (k28 (a5 + 6) w') A) : Ev (f_law_c18 xs L k28 a5 w) A := by
  obtain ⟨hW, hC, hM⟩ := hI
  unfold f_law_c18
  have g1 : 0 ≤ wr (a5 + 1) ∧ wr (a5 + 1) < (L : Int) := by rw [wr_eq (by omega)]; omega
  simp only [if_pos g1]
  have i1 := hx (wr (a5 + 1)).toNat
  clear g1
  generalize xs (wr (a5 + 1)).toNat = x1 at *
  exact Ev.bd (cl_failed hW hC i1) (fun r1 w1 h1 => lc_ret (rg_c _ _ _) (wq_c _ _ hW) h1 (rf_failed hW (h1.m hM) i1) (fun w9 q9 => hk _ w9 q9))
theorem lc_20 {xs : Nat → Int} {L : Nat} (hx : ∀ k, IR (xs k)) (hL : L ≤ 3072) {k28 : Int → WS → Option (Int × WS)} {a5 : Int} {S : St} {w : WS} {A : Int → WS → Prop} (hI : LI S w) (ha : 0 ≤ a5 ∧ a5 + 5 < L) (hk : ∀ S' w', LI S' w' → Ev (k28 (a5 + 6) w') A) : Ev (f_law_c20 xs L k28 a5 w) A := by
  obtain ⟨hW, hC, hM⟩ := hI
  unfold f_law_c20
  have g1 : 0 ≤ wr (a5 + 1) ∧ wr (a5 + 1) < (L : Int) := by rw [wr_eq (by omega)]; omega
  simp only [if_pos g1]
  have i1 := hx (wr (a5 + 1)).toNat
  clear g1
  generalize xs (wr (a5 + 1)).toNat = x1 at *
  exact Ev.bd (cl_matchq hW hC i1) (fun r1 w1 h1 => lc_bool (rg_match _ _) (bq_match _ _) (tq_match_WF hW) h1 (rf_matchq hW (h1.m hM) i1) (fun w9 q9 => hk _ w9 q9))
theorem lc_21 {xs : Nat → Int} {L : Nat} (hx : ∀ k, IR (xs k)) (hL : L ≤ 3072) {k28 : Int → WS → Option (Int × WS)} {a5 : Int} {S : St} {w : WS} {A : Int → WS → Prop} (hI : LI S w) (ha : 0 ≤ a5 ∧ a5 + 5 < L) (hk : ∀ S' w', LI S' w' → Ev (k28 (a5 + 6) w') A) : Ev (f_law_c21 xs L k28 a5 w) A := by
  obtain ⟨hW, hC, hM⟩ := hI
  unfold f_law_c21
  exact Ev.bd (cl_from hW hC) (fun r1 w1 h1 => lc_ret (rg_m _ _) (wq_m _ hW) h1 (rf_from hW (h1.m hM)) (fun w9 q9 => hk _ w9 q9))
theorem lc_22 {xs : Nat → Int} {L : Nat} (hx : ∀ k, IR (xs k)) (hL : L ≤ 3072) {k28 : Int → WS → Option (Int × WS)} {a5 : Int} {S : St} {w : WS} {A : Int → WS → Prop} (hI : LI S w) (ha : 0 ≤ a5 ∧ a5 + 5 < L) (hk : ∀ S' w', LI S' w' → Ev (k28 (a5 + 6) w') A) : Ev (f_law_c22 xs L k28 a5 w) A := by
  obtain ⟨hW, hC, hM⟩ := hI
  unfold f_law_c22
  exact Ev.bd (cl_to hW hC) (fun r1 w1 h1 => lc_ret (rg_m _ _) (wq_m _ hW) h1 (rf_to hW (h1.m hM)) (fun w9 q9 => hk _ w9 q9))
theorem lc_23 {xs : Nat → Int} {L : Nat} (hx : ∀ k, IR (xs k)) (hL : L ≤ 3072) {k28 : Int → WS → Option (Int × WS)} {a5 : Int} {S : St} {w : WS} {A : Int → WS → Prop} (hI : LI S w) (ha : 0 ≤ a5 ∧ a5 + 5 < L) (hk : ∀ S' w', LI S' w' → Ev (k28 (a5 + 6) w') A) : Ev (f_law_c23 xs L k28 a5 w) A := by
  obtain ⟨hW, hC, hM⟩ := hI
  unfold f_law_c23
  exact Ev.bd (cl_begun hW hC) (fun r1 w1 h1 => lc_ret (rg_begun _) (wq_begun hW) h1 (rf_begun hW (h1.m hM)) (fun w9 q9 => hk _ w9 q9))
theorem lc_24 {xs : Nat → Int} {L : Nat} (hx : ∀ k, IR (xs k)) (hL : L ≤ 3072) {k28 : Int → WS → Option (Int × WS)} {a5 : Int} {S : St} {w : WS} {A : Int → WS → Prop} (hI : LI S w) (ha : 0 ≤ a5 ∧ a5 + 5 < L) (hk : ∀ S' w', LI S' w' → Ev (k28 (a5 + 6) w') A) : Ev (f_law_c24 xs L k28 a5 w) A := by
  obtain ⟨hW, hC, hM⟩ := hI
  unfold f_law_c24
  have g1 : 0 ≤ wr (a5 + 1) ∧ wr (a5 + 1) < (L : Int) := by rw [wr_eq (by omega)]; omega
  simp only [if_pos g1]
  have i1 := hx (wr (a5 + 1)).toNat
  clear g1
  generalize xs (wr (a5 + 1)).toNat = x1 at *
  exact Ev.bd (cl_ways hW hC i1) (fun r1 w1 h1 => lc_ret (rg_ways _ _) (tq_ways_WF hW) h1 (rf_ways hW (h1.m hM) i1) (fun w9 q9 => hk _ w9 q9))
theorem lc_25 {xs : Nat → Int} {L : Nat} (hx : ∀ k, IR (xs k)) (hL : L ≤ 3072) {k28 : Int → WS → Option (Int × WS)} {a5 : Int} {S : St} {w : WS} {A : Int → WS → Prop} (hI : LI S w) (ha : 0 ≤ a5 ∧ a5 + 5 < L) (hk : ∀ S' w', LI S' w' → Ev (k28 (a5 + 6) w') A) : Ev (f_law_c25 xs L k28 a5 w) A := by
  obtain ⟨hW, hC, hM⟩ := hI
  unfold f_law_c25
  have g1 : 0 ≤ wr (a5 + 1) ∧ wr (a5 + 1) < (L : Int) := by rw [wr_eq (by omega)]; omega
  have g2 : 0 ≤ wr (a5 + 2) ∧ wr (a5 + 2) < (L : Int) := by rw [wr_eq (by omega)]; omega
  simp only [if_pos g1, if_pos g2]
  have i1 := hx (wr (a5 + 1)).toNat
  clear g1
  generalize xs (wr (a5 + 1)).toNat = x1 at *
  have i2 := hx (wr (a5 + 2)).toNat
  clear g2
  generalize xs (wr (a5 + 2)).toNat = x2 at *
  exact Ev.bd (cl_way hW hC i1 i2) (fun r1 w1 h1 => lc_ret (rg_way _ _ _) (tq_way_WF hW) h1 (rf_way hW (h1.m hM) i1 i2) (fun w9 q9 => hk _ w9 q9))
theorem lc_26 {xs : Nat → Int} {L : Nat} (hx : ∀ k, IR (xs k)) (hL : L ≤ 3072) {k28 : Int → WS → Option (Int × WS)} {a5 : Int} {S : St} {w : WS} {A : Int → WS → Prop} (hI : LI S w) (ha : 0 ≤ a5 ∧ a5 + 5 < L) (hk : ∀ S' w', LI S' w' → Ev (k28 (a5 + 6) w') A) : Ev (f_law_c26 xs L k28 a5 w) A := by
  obtain ⟨hW, hC, hM⟩ := hI
  unfold f_law_c26
  have g1 : 0 ≤ wr (a5 + 1) ∧ wr (a5 + 1) < (L : Int) := by rw [wr_eq (by omega)]; omega
  simp only [if_pos g1]
  have i1 := hx (wr (a5 + 1)).toNat
  clear g1
  generalize xs (wr (a5 + 1)).toNat = x1 at *
  exact Ev.bd (cl_work hW hC i1) (fun r1 w1 h1 => lc_bool (rg_work _ _) (bq_work _ _) (tq_work_WF hW) h1 (rf_work hW (h1.m hM) i1) (fun w9 q9 => hk _ w9 q9))
theorem lc_27 {xs : Nat → Int} {L : Nat} (hx : ∀ k, IR (xs k)) (hL : L ≤ 3072) {k28 : Int → WS → Option (Int × WS)} {a5 : Int} {S : St} {w : WS} {A : Int → WS → Prop} (hI : LI S w) (ha : 0 ≤ a5 ∧ a5 + 5 < L) (hk : ∀ S' w', LI S' w' → Ev (k28 (a5 + 6) w') A) : Ev (f_law_c27 xs L k28 a5 w) A := by
  obtain ⟨hW, hC, hM⟩ := hI
  unfold f_law_c27
  have g1 : 0 ≤ wr (a5 + 1) ∧ wr (a5 + 1) < (L : Int) := by rw [wr_eq (by omega)]; omega
  simp only [if_pos g1]
  have i1 := hx (wr (a5 + 1)).toNat
  clear g1
  generalize xs (wr (a5 + 1)).toNat = x1 at *
  exact Ev.bd (cl_typed hC i1) (fun r1 w1 h1 => lc_ret (rg_typed _ _) (wq_typed _ hW) h1 (rf_typed hW (h1.m hM) i1) (fun w9 q9 => hk _ w9 q9))
theorem lc_29 {xs : Nat → Int} {L : Nat} (hx : ∀ k, IR (xs k)) (hL : L ≤ 3072) {k28 : Int → WS → Option (Int × WS)} {a5 : Int} {S : St} {w : WS} {A : Int → WS → Prop} (hI : LI S w) (ha : 0 ≤ a5 ∧ a5 + 5 < L) (hk : ∀ S' w', LI S' w' → Ev (k28 (a5 + 6) w') A) : Ev (f_law_c29 xs L k28 a5 w) A := by
  obtain ⟨hW, hC, hM⟩ := hI
  unfold f_law_c29
  exact Ev.bd (cl_failShare hW hC) (fun r1 w1 h1 => lc_f (rg_failShare _) (ok_failShare hW) (wq_failShare hW) h1 (rf_failShare hW (h1.m hM)) (fun w9 q9 => hk _ w9 q9))
theorem lc_30 {xs : Nat → Int} {L : Nat} (hx : ∀ k, IR (xs k)) (hL : L ≤ 3072) {k28 : Int → WS → Option (Int × WS)} {a5 : Int} {S : St} {w : WS} {A : Int → WS → Prop} (hI : LI S w) (ha : 0 ≤ a5 ∧ a5 + 5 < L) (hk : ∀ S' w', LI S' w' → Ev (k28 (a5 + 6) w') A) : Ev (f_law_c30 xs L k28 a5 w) A := by
  obtain ⟨hW, hC, hM⟩ := hI
  unfold f_law_c30
  exact Ev.bd (cl_meanSize hC) (fun r1 w1 h1 => lc_d (rg_meanSize _) (ok_meanSize S) (wq_meanSize hW) h1 (rf_meanSize (h1.m hM)) (fun w9 q9 => hk _ w9 q9))
theorem lc_1 {xs : Nat → Int} {L : Nat} (hx : ∀ k, IR (xs k)) (hL : L ≤ 3072) {k28 : Int → WS → Option (Int × WS)} {a5 : Int} {S : St} {w : WS} {A : Int → WS → Prop} (hI : LI S w) (ha : 0 ≤ a5 ∧ a5 + 5 < L) (hk : ∀ S' w', LI S' w' → Ev (k28 (a5 + 6) w') A) : Ev (f_law_c1 xs L k28 a5 w) A := by
  obtain ⟨hW, hC, hM⟩ := hI
  unfold f_law_c1
  exact Ev.bd (cl_wipe hC) (fun r1 w1 h1 => lc_dq (wf_wipe hW) h1 (rf_wipe (h1.m hM)) (fun w9 q9 => hk _ w9 q9))
theorem lc_28 {xs : Nat → Int} {L : Nat} (hx : ∀ k, IR (xs k)) (hL : L ≤ 3072) {k28 : Int → WS → Option (Int × WS)} {a5 : Int} {S : St} {w : WS} {A : Int → WS → Prop} (hI : LI S w) (ha : 0 ≤ a5 ∧ a5 + 5 < L) (hk : ∀ S' w', LI S' w' → Ev (k28 (a5 + 6) w') A) : Ev (f_law_c28 xs L k28 a5 w) A := by
  obtain ⟨hW, hC, hM⟩ := hI
  unfold f_law_c28
  exact Ev.bd (cl_statements hC) (fun r1 w1 h1 => lc_dq hW h1 (rf_statements (h1.m hM)) (fun w9 q9 => hk _ w9 q9))
theorem lc_31 {xs : Nat → Int} {L : Nat} (hx : ∀ k, IR (xs k)) (hL : L ≤ 3072) {k28 : Int → WS → Option (Int × WS)} {a5 : Int} {S : St} {w : WS} {A : Int → WS → Prop} (hI : LI S w) (ha : 0 ≤ a5 ∧ a5 + 5 < L) (hk : ∀ S' w', LI S' w' → Ev (k28 (a5 + 6) w') A) : Ev (f_law_c31 xs L k28 a5 w) A := by
  obtain ⟨hW, hC, hM⟩ := hI
  unfold f_law_c31
  exact Ev.bd (cl_checksum hC) (fun r1 w1 h1 => lc_dl hW h1 (rf_checksum (h1.m hM)) (fun w9 q9 => hk _ w9 q9))
theorem lc_32 {xs : Nat → Int} {L : Nat} (hx : ∀ k, IR (xs k)) (hL : L ≤ 3072) {k28 : Int → WS → Option (Int × WS)} {a5 : Int} {S : St} {w : WS} {A : Int → WS → Prop} (hI : LI S w) (ha : 0 ≤ a5 ∧ a5 + 5 < L) (hk : ∀ S' w', LI S' w' → Ev (k28 (a5 + 6) w') A) : Ev (f_law_c32 xs L k28 a5 w) A := by
  obtain ⟨hW, hC, hM⟩ := hI
  unfold f_law_c32
  exact Ev.bd (cl_isSound hW hC) (fun r1 w1 h1 => lc_dq hW h1 (rf_isSound (h1.m hM)) (fun w9 q9 => hk _ w9 q9))
theorem lc_12 {xs : Nat → Int} {L : Nat} (_ : ∀ k, IR (xs k)) (hL : L ≤ 3072) {k28 : Int → WS → Option (Int × WS)} {a5 : Int} {S : St} {w : WS} {A : Int → WS → Prop} (hI : LI S w) (ha : 0 ≤ a5 ∧ a5 + 5 < L) (hk : ∀ S' w', LI S' w' → Ev (k28 (a5 + 6) w') A) : Ev (f_law_c12 xs L k28 a5 w) A := by
  obtain ⟨hW, hC, hM⟩ := hI
  unfold f_law_c12
  have g1 : 0 ≤ wr (a5 + 1) ∧ wr (a5 + 1) < (L : Int) := by rw [wr_eq (by omega)]; omega
  simp only [if_pos g1]
  by_cases c : wr (xs (wr (a5 + 1)).toNat) = 0
  · simp only [if_pos c]
    exact Ev.bd (cl_anchor hW hC (Or.inl rfl)) (fun r1 w1 h1 => lc_dq (setA_WF hW (Or.inl rfl)) h1 (rf_anchor hW (h1.m hM) (Or.inl rfl)) (fun w9 q9 => hk _ w9 q9))
  · simp only [if_neg c]
    exact Ev.bd (cl_anchor hW hC (Or.inr rfl)) (fun r1 w1 h1 => lc_dq (setA_WF hW (Or.inr rfl)) h1 (rf_anchor hW (h1.m hM) (Or.inr rfl)) (fun w9 q9 => hk _ w9 q9))
theorem law_ok {xs : Nat → Int} {L : Nat} (hx : ∀ k, IR (xs k)) (hL : L ≤ 3072) : ∀ (m n : Nat) (a5 : Int) (S : St) (w : WS), LI S w → 0 ≤ a5 → a5 ≤ L + 5 → (L : Int) ≤ a5 + 6 * m + 5 → m < n → Ev (f_law_28 xs L n a5 w) (fun v _ => v = 1) := by
  intro m
  induction m with
  | zero =>
    intro n a5 S w hI h1 h2 h3 h4
    obtain ⟨n, rfl⟩ : ∃ q, n = q + 1 := ⟨n - 1, by omega⟩
    rw [f_law_28_s]
    refine Ev.pos (by rw [wr_eq (by omega), wr_eq (by omega)]; omega) (Ev.ret rfl)
  | succ m ih =>
    intro n a5 S w hI h1 h2 h3 h4
    obtain ⟨n, rfl⟩ : ∃ q, n = q + 1 := ⟨n - 1, by omega⟩
    rw [f_law_28_s]
    by_cases c : (L : Int) - 6 < a5
    · exact Ev.pos (by rw [wr_eq (by omega), wr_eq (by omega)]; exact c) (Ev.ret rfl)
    refine Ev.neg (by rw [wr_eq (by omega), wr_eq (by omega)]; exact c) (Ev.pos (by rw [wr_eq (by omega)]; omega) ?_)
    have ha : 0 ≤ a5 ∧ a5 + 5 < (L : Int) := by omega
    have hk : ∀ S' w', LI S' w' → Ev ((fun x y => f_law_28 xs L n x y) (a5 + 6) w') (fun v _ => v = 1) := fun S' w' q => ih n (a5 + 6) S' w' q (by omega) (by omega) (by omega) (by omega)
    refine Ev.ite (fun _ => lc_0 hx hL hI ha hk) (fun _ => ?_)
    refine Ev.ite (fun _ => lc_1 hx hL hI ha hk) (fun _ => ?_)
    refine Ev.ite (fun _ => lc_2 hx hL hI ha hk) (fun _ => ?_)
    refine Ev.ite (fun _ => lc_3 hx hL hI ha hk) (fun _ => ?_)
    refine Ev.ite (fun _ => lc_4 hx hL hI ha hk) (fun _ => ?_)
    refine Ev.ite (fun _ => lc_5 hx hL hI ha hk) (fun _ => ?_)
    refine Ev.ite (fun _ => lc_6 hx hL hI ha hk) (fun _ => ?_)
    refine Ev.ite (fun _ => lc_7 hx hL hI ha hk) (fun _ => ?_)
    refine Ev.ite (fun _ => lc_8 hx hL hI ha hk) (fun _ => ?_)
    refine Ev.ite (fun _ => lc_9 hx hL hI ha hk) (fun _ => ?_)
    refine Ev.ite (fun _ => lc_10 hx hL hI ha hk) (fun _ => ?_)
    refine Ev.ite (fun _ => lc_11 hx hL hI ha hk) (fun _ => ?_)
    refine Ev.ite (fun _ => lc_12 hx hL hI ha hk) (fun _ => ?_)
    refine Ev.ite (fun _ => lc_13 hx hL hI ha hk) (fun _ => ?_)
    refine Ev.ite (fun _ => lc_14 hx hL hI ha hk) (fun _ => ?_)
    refine Ev.ite (fun _ => lc_15 hx hL hI ha hk) (fun _ => ?_)
    refine Ev.ite (fun _ => lc_16 hx hL hI ha hk) (fun _ => ?_)
    refine Ev.ite (fun _ => lc_17 hx hL hI ha hk) (fun _ => ?_)
    refine Ev.ite (fun _ => lc_18 hx hL hI ha hk) (fun _ => ?_)
    refine Ev.ite (fun _ => lc_19 hx hL hI ha hk) (fun _ => ?_)
    refine Ev.ite (fun _ => lc_20 hx hL hI ha hk) (fun _ => ?_)
    refine Ev.ite (fun _ => lc_21 hx hL hI ha hk) (fun _ => ?_)
    refine Ev.ite (fun _ => lc_22 hx hL hI ha hk) (fun _ => ?_)
    refine Ev.ite (fun _ => lc_23 hx hL hI ha hk) (fun _ => ?_)
    refine Ev.ite (fun _ => lc_24 hx hL hI ha hk) (fun _ => ?_)
    refine Ev.ite (fun _ => lc_25 hx hL hI ha hk) (fun _ => ?_)
    refine Ev.ite (fun _ => lc_26 hx hL hI ha hk) (fun _ => ?_)
    refine Ev.ite (fun _ => lc_27 hx hL hI ha hk) (fun _ => ?_)
    refine Ev.ite (fun _ => lc_28 hx hL hI ha hk) (fun _ => ?_)
    refine Ev.ite (fun _ => lc_29 hx hL hI ha hk) (fun _ => ?_)
    refine Ev.ite (fun _ => lc_30 hx hL hI ha hk) (fun _ => ?_)
    refine Ev.ite (fun _ => lc_31 hx hL hI ha hk) (fun _ => ?_)
    refine Ev.ite (fun _ => lc_32 hx hL hI ha hk) (fun _ => ?_)
    exact hk S w hI
theorem law_one {xs : Nat → Int} {L : Nat} (hx : ∀ k, IR (xs k)) (hL : L ≤ 3072) : ∃ w, f_law_28 xs L FU 0 w0s = some (1, w) := by
  obtain ⟨v, w, h1, h2⟩ := law_ok hx hL L FU 0 S0 w0s ⟨WF0, JC0, JM0⟩ (by omega) (by omega) (by omega) (by unfold FU; omega)
  rw [h2] at h1
  exact ⟨w, h1⟩
