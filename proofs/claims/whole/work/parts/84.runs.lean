/-! statements as values -/
theorem itQ {α : Type} (P : α → Prop) {c : Prop} {d : Decidable c} {a b : α} (ha : c → P a) (hb : ¬ c → P b) : P (@ite _ c d a b) := by
  by_cases h : c
  · rw [if_pos h]; exact ha h
  · rw [if_neg h]; exact hb h
def SL2 (q : Int × List Int) : Prop := q.2.length ≤ 60
theorem ev1_len {kind x : Int} {T V : Nat → List Int} {A B : List Int} (hT : ∀ r, (T r).length ≤ 60) (hV : ∀ r, (V r).length ≤ 60) (hA : A.length ≤ 60) : (ev1 kind x T V A B).2.length ≤ 60 := by
  show SL2 (ev1 kind x T V A B)
  have z : ∀ v : Int, SL2 (v, []) := fun v => Nat.zero_le _
  have dd : ∀ n : Int, SL2 (0, decS n) := fun n => by have := decS_len n; show (decS n).length ≤ 60; omega
  unfold ev1
  refine itQ SL2 (fun _ => hT _) (fun _ => ?_)
  refine itQ SL2 (fun _ => hV _) (fun _ => ?_)
  refine itQ SL2 (fun _ => itQ SL2 (fun _ => hV _) (fun _ => z _)) (fun _ => ?_)
  refine itQ SL2 (fun _ => itQ SL2 (fun _ => z _) (fun h => ?_)) (fun _ => ?_)
  · show (A ++ B).length ≤ 60
    rw [List.length_append]; omega
  refine itQ SL2 (fun _ => dd _) (fun _ => ?_)
  refine itQ SL2 (fun _ => ?_) (fun _ => ?_)
  · show A.reverse.length ≤ 60
    rw [List.length_reverse]; exact hA
  refine itQ SL2 (fun _ => itQ SL2 (fun _ => z _) (fun _ => z _)) (fun _ => ?_)
  refine itQ SL2 (fun _ => itQ SL2 (fun _ => z _) (fun h1 => itQ SL2 (fun _ => z _) (fun h2 => ?_))) (fun _ => ?_)
  · show (repL A (numS B).toNat).length ≤ 60
    have h3 := repL_len A (numS B).toNat
    have h4 : ((numS B).toNat : Int) = numS B := Int.toNat_of_nonneg (by
      by_cases q : numS B < 0
      · exact absurd (Or.inr (Or.inl q)) h1
      · omega)
    rw [h4, Int.mul_comm] at h3
    omega
  refine itQ SL2 (fun _ => z _) (fun _ => ?_)
  refine itQ SL2 (fun _ => itQ SL2 (fun _ => z _) (fun _ => z _)) (fun _ => ?_)
  refine itQ SL2 (fun _ => z _) (fun _ => ?_)
  exact itQ SL2 (fun _ => z _) (fun _ => dd _)
theorem evL_ok {tk tf ts : Nat → Int} {T V : Nat → List Int} {N : Nat → Bool} (hT : ∀ r, SO (T r) ∧ (T r).length ≤ 60) (hV : VOK V) (n : Nat) : ∀ (k : Nat) (W : Nat → List Int), (∀ j, SO (W j) ∧ (W j).length ≤ 60) → (-1 ≤ (evL tk tf ts T V N n k W).1 ∧ (evL tk tf ts T V N n k W).1 ≤ 8) ∧ ∀ j, SO ((evL tk tf ts T V N n k W).2 j) ∧ ((evL tk tf ts T V N n k W).2 j).length ≤ 60 := by
  induction n with
  | zero => intro k W h; exact ⟨⟨by show (-1 : Int) ≤ 0; omega, by show (0 : Int) ≤ 8; omega⟩, h⟩
  | succ n ih =>
    intro k W h
    unfold evL
    by_cases hb : N k = true
    · rw [if_pos hb]
      by_cases c : (ev1 (tk k) (tf k) T V (W (tf k).toNat) (W (ts k).toNat)).1 = 0
      · rw [if_pos c]
        refine ih (k + 1) _ (fun j => ?_)
        by_cases e : j = k
        · rw [e, vs_same]
          exact ⟨ev1_SO (fun r => (hT r).1) (fun r => (hV r).1) (h _).1 (h _).1, ev1_len (fun r => (hT r).2) (fun r => (hV r).2) (h _).2⟩
        · rw [vs_ne _ _ e]
          exact h j
      · rw [if_neg c]
        exact ⟨ev1_code _ _ _ _ _ _, h⟩
    · rw [if_neg hb]
      exact ih (k + 1) W h
theorem evT_ok {tk tf ts : Nat → Int} {T V : Nat → List Int} (t : Nat) (hT : ∀ r, SO (T r) ∧ (T r).length ≤ 60) (hV : VOK V) : (-1 ≤ (evT tk tf ts T V t).1 ∧ (evT tk tf ts T V t).1 ≤ 8) ∧ SO (evT tk tf ts T V t).2 ∧ (evT tk tf ts T V t).2.length ≤ 60 := by
  have h := evL_ok (tk := tk) (tf := tf) (ts := ts) (N := need tk tf ts t) hT hV (t + 1) 0 (fun _ => []) (fun _ => ⟨SO_nil, by simp⟩)
  exact ⟨h.1, h.2 t⟩
/-- a program: rows of numbers by place (0 to 2 patterns, 3 to 5 terms, 6 to 11 statements, 12 to 14 functions, 15 anchored, how many patterns, terms, statements), and texts -/
abbrev PV : Type := (Nat → Nat → Int) × (Nat → List Int)
def pE (P : PV) (S : List Int) (pat : Int) : EV := (P.1 0, P.1 1, P.1 2, P.2, S, P.1 15 0, pat, P.1 15 1)
def pTm (P : PV) (V : Nat → List Int) (t : Int) : Int × List Int := evT (P.1 3) (P.1 4) (P.1 5) P.2 V t.toNat
def sK (P : PV) (p : Int) : Int := P.1 6 p.toNat
def sV (P : PV) (p : Int) : Int := P.1 7 p.toNat
def sP (P : PV) (p : Int) : Int := P.1 8 p.toNat
def sT (P : PV) (p : Int) : Int := P.1 9 p.toNat
def sY (P : PV) (p : Int) : Int := P.1 10 p.toNat
def sN (P : PV) (p : Int) : Int := P.1 11 p.toNat
def fTd (P : PV) (f : Int) : Int := P.1 12 f.toNat
def fE (P : PV) (f : Int) : Int := P.1 13 f.toNat
def fN (P : PV) (f : Int) (i : Nat) : Int := P.1 14 (3 * f.toNat + i)
def pN (P : PV) : Int := P.1 15 1
def tN (P : PV) : Int := P.1 15 2
def sC (P : PV) : Int := P.1 15 3
def SOK (P : PV) (p : Int) : Prop := (sK P p = 97 ∨ sK P p = 115 ∨ sK P p = 99) ∧ (0 ≤ sV P p ∧ sV P p < 26) ∧ (-4 ≤ sY P p ∧ sY P p ≤ 39) ∧ (-4 ≤ sN P p ∧ sN P p ≤ 39) ∧ (sK P p ≠ 115 → 0 ≤ sT P p ∧ sT P p < tN P) ∧ (sK P p = 115 → (0 ≤ sP P p ∧ sP P p < pN P) ∧ (sT P p = -1 ∨ (0 ≤ sT P p ∧ sT P p < tN P))) ∧ (sK P p = 99 → 0 ≤ sP P p ∧ sP P p < 5)
def FOK (P : PV) (f : Int) : Prop := (fTd P f = 0 ∨ fTd P f = 1) ∧ (fTd P f = 1 → (0 ≤ fE P f ∧ fE P f ≤ 39) ∧ (0 ≤ fN P f 0 ∧ fN P f 0 < 26) ∧ (0 ≤ fN P f 1 ∧ fN P f 1 < 26) ∧ (0 ≤ fN P f 2 ∧ fN P f 2 < 26) ∧ fN P f 0 ≠ fN P f 1 ∧ fN P f 0 ≠ fN P f 2 ∧ fN P f 1 ≠ fN P f 2)
def POK (P : PV) : Prop := (∀ p, 0 ≤ p → p < pN P → PK1 (pE P [] 0) p) ∧ (0 ≤ pN P ∧ pN P ≤ 50) ∧ TKA (P.1 3) (P.1 4) (P.1 5) (tN P).toNat ∧ (0 ≤ tN P ∧ tN P ≤ 50) ∧ (∀ r, SO (P.2 r) ∧ (P.2 r).length ≤ 20) ∧ (P.1 15 0 = 0 ∨ P.1 15 0 = 1) ∧ (0 ≤ sC P ∧ sC P ≤ 40) ∧ (∀ p, 0 ≤ p → p < sC P → SOK P p) ∧ (∀ f, 0 ≤ f → f < 5 → FOK P f)
theorem POK.E {P : PV} (h : POK P) {S : List Int} (hS : SO S ∧ S.length ≤ 60) {pat : Int} (hp : 0 ≤ pat ∧ pat < pN P) : EOK (pE P S pat) := ⟨h.1, h.2.1.1, h.2.1.2, fun r => (h.2.2.2.2.1 r).1, fun r => (h.2.2.2.2.1 r).2, hS.1, hS.2, h.2.2.2.2.2.1, hp.1, hp.2⟩
def aAssign (P : PV) (p : Int) (V : Nat → List Int) : Int × (Nat → List Int) := if (pTm P V (sT P p)).1 = 0 then (0, vs V (sV P p).toNat (pTm P V (sT P p)).2) else ((pTm P V (sT P p)).1, V)
/-- the end of a scan's match, and the variables as it has assigned -/
noncomputable def scanE (P : PV) (p : Int) (V : Nat → List Int) : MS := aEnd (pE P (V (sV P p).toNat) (sP P p)) (aSt0 V)
noncomputable def scanV (P : PV) (p : Int) (V : Nat → List Int) : Nat → List Int := asgT (V (sV P p).toNat) (vOf (scanE P p V)) (tOf (scanE P p V))
noncomputable def scanL (P : PV) (p : Int) (V : Nat → List Int) : List Int := aRep (V (sV P p).toNat) (sOf (scanE P p V)) (cOf (scanE P p V)) (pTm P (scanV P p V) (sT P p)).2
noncomputable def aScan (P : PV) (p : Int) (V : Nat → List Int) : Int × (Nat → List Int) :=
  if (scanE P p V).1 = 6 then (3, vOf (scanE P p V)) else
  if (scanE P p V).1 = 5 then (-1, vOf (scanE P p V)) else
  if sT P p = -1 then (0, scanV P p V) else
  if (pTm P (scanV P p V) (sT P p)).1 = 0 then (if 60 < (scanL P p V).length then (4, scanV P p V) else (0, vs (scanV P p V) (sV P p).toNat (scanL P p V))) else
  ((pTm P (scanV P p V) (sT P p)).1, scanV P p V)
theorem asgT_ok {S : List Int} (hS : SO S ∧ S.length ≤ 60) (T : List Tk) : ∀ {V : Nat → List Int}, VOK V → VOK (asgT S V T) := by
  induction T with
  | nil => intro V h; exact h
  | cons x T ih =>
    intro V h
    refine ih (VOK.vs h (slice_SO _ _ hS.1) ?_)
    unfold slice
    rw [List.length_take, List.length_drop]
    omega
theorem AOK.vok {E : EV} {st : MS} (h : AOK E st) : VOK (vOf st) := by
  obtain ⟨md, g, c, K, C, T, b, V, s⟩ := st
  match md, h with
  | 0, h => exact h.1.2.2.2.2.1
  | 1, h => exact h.1.2.2.2.2.1
  | 2, h => exact h.1.2.2.2.2.1
  | 3, h => exact h.1.2.2.2.2.1
  | 4, h => exact h.1.2.2.2.2.1
  | n + 5, h => exact h.2.2
theorem AOK.end_ {E : EV} (hE : EOK E) {st : MS} (h : AOK E st) (hs : st.1 ≤ 6) : AOK E (aEnd E st) ∧ 4 ≤ (aEnd E st).1 ∧ (aEnd E st).1 ≤ 6 := by
  obtain ⟨n, n1, n2, n3, n4⟩ := aEnd_ex hE h
  refine ⟨by rw [n2]; exact aIter_ok hE n h, n3, ?_⟩
  have key : ∀ (n : Nat) (st : MS), st.1 ≤ 6 → (aIter E n st).1 ≤ 6 := by
    intro n
    induction n with
    | zero => intro st h; exact h
    | succ n ih =>
      intro st h
      refine ih (aStep E st) ?_
      obtain ⟨md, g, c, K, C, T, b, V, s⟩ := st
      match md, h with
      | 0, _ =>
        rcases begin_range (E := E) (g := g) (c := c) (K := K) (C := C) (T := T) (b := b) (V := V) (s := s) with q | q | q
        · show (aBegin E g c K C T b V s).1 ≤ 6; omega
        · show (aBegin E g c K C T b V s).1 ≤ 6; omega
        · show (aBegin E g c K C T b V s).1 ≤ 6; omega
      | 1, _ =>
        cases K with
        | nil => show 4 ≤ 6; omega
        | cons x K =>
          have := goOn_range (E := E) (g := g) (c := c) (x := x) (K := K) (C := C) (T := T) (b := b) (V := V) (s := s)
          show (aGoOn E g c (x :: K) C T b V s).1 ≤ 6; omega
      | 2, _ =>
        rcases back_range (E := E) (g := g) (c := c) (K := K) (C := C) (T := T) (b := b) (V := V) (s := s) with q | q
        · show (aBack E g c K C T b V s).1 ≤ 6; omega
        · show (aBack E g c K C T b V s).1 ≤ 6; omega
      | 3, _ =>
        show (aNext E g c K C T b V s).1 ≤ 6
        unfold aNext
        by_cases q : ((eS E).length : Int) < s + 1 ∨ (eA E ≠ 0 ∧ 0 < s + 1)
        · rw [if_pos q]; show 5 ≤ 6; omega
        · rw [if_neg q]; exact Nat.zero_le 6
      | 4, h => exact h
      | n + 5, h => exact h
  rw [n2]
  exact key n st hs
