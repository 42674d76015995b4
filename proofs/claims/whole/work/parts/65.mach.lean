/-! the machine that finds matches, as a value: what is to be done stands in a list of nodes, what can be gone back over in a list of choices -/
abbrev Nd : Type := Int × Int
abbrev Ch : Type := Int × Int × List Nd × Nat
abbrev Tk : Type := Int × Int × Int
/-- kinds, firsts, seconds of the patterns; texts; subject; anchored; the pattern; how many patterns -/
abbrev EV : Type := (Nat → Int) × (Nat → Int) × (Nat → Int) × (Nat → List Int) × List Int × Int × Int × Int
def pk (E : EV) (p : Int) : Int := E.1 p.toNat
def pf (E : EV) (p : Int) : Int := E.2.1 p.toNat
def ps (E : EV) (p : Int) : Int := E.2.2.1 p.toNat
def eT (E : EV) : Nat → List Int := E.2.2.2.1
def eS (E : EV) : List Int := E.2.2.2.2.1
def eA (E : EV) : Int := E.2.2.2.2.2.1
def eP (E : EV) : Int := E.2.2.2.2.2.2.1
def eN (E : EV) : Int := E.2.2.2.2.2.2.2
/-- mode (0 begin, 1 go on, 2 back, 3 next cursor, 4 found, 5 ended, 6 too many), pattern, cursor, nodes, choices, taken, begun, variables, start -/
abbrev MS : Type := Nat × Int × Int × List Nd × List Ch × List Tk × Int × (Nat → List Int) × Int
def spanE (S T : List Int) (b : Bool) : Nat → Int → Int
  | 0, e => e
  | n + 1, e => if e < S.length ∧ decide (gt S e ∈ T) = b then spanE S T b n (e + 1) else e
def single (k x : Int) (T W S : List Int) (c : Int) : Int :=
  if k = 108 then (if hasAt S T c = true then c + T.length else -1) else
  if k = 118 then (if hasAt S W c = true then c + W.length else -1) else
  if k = 110 then (if c < S.length ∧ gt S c ∈ T then c + 1 else -1) else
  if k = 111 then (if c < S.length ∧ ¬ gt S c ∈ T then c + 1 else -1) else
  if k = 115 then (if c < spanE S T true 61 c then spanE S T true 61 c else -1) else
  if k = 107 then (if spanE S T false 61 c < S.length then spanE S T false 61 c else -1) else
  if k = 35 then (if c + x ≤ S.length then c + x else -1) else
  if k = 116 then (if c ≤ x ∧ x ≤ S.length then x else -1) else
  if k = 114 then (if c ≤ S.length - x then S.length - x else -1) else
  if k = 112 then (if c = x then c else -1) else
  if k = 113 then (if c = S.length - x then c else -1) else
  if k = 109 then S.length else -1
def par (s : Int) : Int := if s = 40 then 1 else if s = 41 then -1 else 0
def bal (S : List Int) : Nat → Int → Int → Int
  | 0, _, _ => -1
  | n + 1, o, p => if p < S.length then (if o + par (gt S p) < 0 then -1 else if o + par (gt S p) = 0 then p + 1 else bal S n (o + par (gt S p)) (p + 1)) else -1
def slice (S : List Int) (f e : Int) : List Int := (S.drop f.toNat).take (e - f).toNat
def aBal (E : EV) (p c : Int) (K : List Nd) (C : List Ch) (T : List Tk) (b : Int) (V : Nat → List Int) (s : Int) : MS :=
  if bal (eS E) 61 0 c = -1 then (2, p, c, K, C, T, b, V, s) else (1, p, bal (eS E) 61 0 c, K, (p, bal (eS E) 61 0 c, K, T.length) :: C, T, b, V, s)
def aBegin (E : EV) (g c : Int) (K : List Nd) (C : List Ch) (T : List Tk) (b : Int) (V : Nat → List Int) (s : Int) : MS :=
  if 3000 ≤ b then (6, g, c, K, C, T, b, V, s) else
  if pk E g = 38 ∨ pk E g = 36 ∨ pk E g = 46 then (0, pf E g, c, (g, c) :: K, C, T, b + 1, V, s) else
  if pk E g = 124 then (0, pf E g, c, K, (g, c, K, T.length) :: C, T, b + 1, V, s) else
  if pk E g = 103 ∨ pk E g = 42 ∨ pk E g = 102 then (1, g, c, K, (g, c, K, T.length) :: C, T, b + 1, V, s) else
  if pk E g = 120 then aBal E g c K C T (b + 1) V s else
  if pk E g = 122 then (5, g, c, K, C, T, b + 1, V, s) else
  if pk E g = 64 then (1, g, c, K, C, T, b + 1, vs V (pf E g).toNat (decS c), s) else
  if single (pk E g) (pf E g) (eT E (pf E g).toNat) (V (pf E g).toNat) (eS E) c = -1 then (2, g, c, K, C, T, b + 1, V, s) else (1, g, single (pk E g) (pf E g) (eT E (pf E g).toNat) (V (pf E g).toNat) (eS E) c, K, C, T, b + 1, V, s)
def aGoOn (E : EV) (g c : Int) (K : List Nd) (C : List Ch) (T : List Tk) (b : Int) (V : Nat → List Int) (s : Int) : MS := match K with
  | [] => (4, g, c, K, C, T, b, V, s)
  | (p, f) :: K' =>
    if pk E p = 38 then (0, ps E p, c, K', C, T, b, V, s) else
    if pk E p = 36 then (1, p, c, K', C, T, b, vs V (ps E p).toNat (slice (eS E) f c), s) else
    if pk E p = 46 then (1, p, c, K', C, T ++ [(ps E p, f, c)], b, V, s) else
    if c = f then (2, p, c, K', C, T, b, V, s) else (1, p, c, K', (p, c, K', T.length) :: C, T, b, V, s)
def aBack (E : EV) (g c : Int) (K : List Nd) (C : List Ch) (T : List Tk) (b : Int) (V : Nat → List Int) (s : Int) : MS := match C with
  | [] => (3, g, c, K, C, T, b, V, s)
  | (p, c', K', n) :: C' =>
    if pk E p = 124 then (0, ps E p, c', K', C', T.take n, b, V, s) else
    if pk E p = 103 then (0, pf E p, c', (p, c') :: K', C', T.take n, b, V, s) else
    if pk E p = 42 then (if (eS E).length < c' + 1 then (2, p, c' + 1, K', C', T.take n, b, V, s) else (1, p, c' + 1, K', (p, c' + 1, K', n) :: C', T.take n, b, V, s)) else
    if pk E p = 120 then aBal E p c' K' C' (T.take n) b V s else
    (5, p, c', K', C', T.take n, b, V, s)
def aNext (E : EV) (g c : Int) (K : List Nd) (C : List Ch) (T : List Tk) (b : Int) (V : Nat → List Int) (s : Int) : MS :=
  if (eS E).length < s + 1 ∨ (eA E ≠ 0 ∧ 0 < s + 1) then (5, g, c, K, C, T, b, V, s + 1) else (0, eP E, s + 1, [], [], [], b, V, s + 1)
def aStep (E : EV) : MS → MS
  | (0, g, c, K, C, T, b, V, s) => aBegin E g c K C T b V s
  | (1, g, c, K, C, T, b, V, s) => aGoOn E g c K C T b V s
  | (2, g, c, K, C, T, b, V, s) => aBack E g c K C T b V s
  | (3, g, c, K, C, T, b, V, s) => aNext E g c K C T b V s
  | st => st
/-! what always holds -/
def nodeK (k : Int) : Prop := k = 38 ∨ k = 36 ∨ k = 46 ∨ k = 103
def choiK (k : Int) : Prop := k = 124 ∨ k = 103 ∨ k = 42 ∨ k = 120 ∨ k = 102
def KOK (E : EV) : Int → List Nd → Prop
  | _, [] => True
  | g, (p, _) :: K => g < p ∧ p < eN E ∧ nodeK (pk E p) ∧ KOK E p K
def KC (c : Int) (K : List Nd) : Prop := ∀ x ∈ K, 0 ≤ x.2 ∧ x.2 ≤ c
def gn (E : EV) : List Nd → Nat
  | [] => 0
  | (p, _) :: K => gn E K + (if pk E p = 103 then 1 else 0)
def dn (E : EV) : List Nd → Nat
  | [] => 0
  | (p, _) :: K => dn E K + (if pk E p = 46 then 1 else 0)
def COK (E : EV) (b s : Int) : Nat → List Ch → Prop
  | _, [] => True
  | t, (p, c, K, n) :: C => 0 ≤ p ∧ p < eN E ∧ choiK (pk E p) ∧ KOK E p K ∧ KC c K ∧ (0 ≤ s ∧ s ≤ c) ∧ c ≤ (eS E).length ∧ n ≤ t ∧ (C.length : Int) + 1 + gn E K ≤ b ∧ (n : Int) + dn E K ≤ b ∧ COK E b s n C
theorem COK.mono {E : EV} {b b' s : Int} (hb : b ≤ b') : ∀ {t t' : Nat} {C : List Ch}, t ≤ t' → COK E b s t C → COK E b' s t' C := by
  intro t t' C
  induction C generalizing t t' with
  | nil => intro _ _; trivial
  | cons x C ih =>
    obtain ⟨p, c, K, n⟩ := x
    rintro ht ⟨h1, h2, h3, h4, h5, h6, h7, h8, h9, h10, h11⟩
    exact ⟨h1, h2, h3, h4, h5, h6, h7, by omega, by omega, by omega, ih (Nat.le_refl _) h11⟩
theorem KOK.mono {E : EV} {g g' : Int} {K : List Nd} (h : g' ≤ g) (hk : KOK E g K) : KOK E g' K := by
  cases K with
  | nil => trivial
  | cons x K =>
    obtain ⟨p, f⟩ := x
    obtain ⟨h1, h2, h3, h4⟩ := hk
    exact ⟨by omega, h2, h3, h4⟩
theorem KOK.len {E : EV} : ∀ {K : List Nd} {g : Int}, KOK E g K → g < eN E → (K.length : Int) + g + 1 ≤ eN E := by
  intro K
  induction K with
  | nil => intro g _ h; simp; omega
  | cons x K ih =>
    obtain ⟨p, f⟩ := x
    rintro g ⟨h1, h2, h3, h4⟩ h
    have := ih h4 h2
    rw [List.length_cons]
    omega
theorem KC.mono {c c' : Int} {K : List Nd} (h : c ≤ c') (k : KC c K) : KC c' K := fun x hx => by
  have := k x hx
  omega
theorem KC.cons {c f p : Int} {K : List Nd} (h : 0 ≤ f ∧ f ≤ c) (k : KC c K) : KC c ((p, f) :: K) := fun x hx => by
  rcases List.mem_cons.mp hx with rfl | hx
  · exact h
  · exact k x hx
theorem KC.tail {c : Int} {x : Nd} {K : List Nd} (k : KC c (x :: K)) : KC c K := fun y hy => k y (List.mem_cons_of_mem _ hy)
/-- a pattern as it may be made -/
def PK1 (E : EV) (p : Int) : Prop :=
  ((pk E p = 108 ∨ pk E p = 110 ∨ pk E p = 111 ∨ pk E p = 115 ∨ pk E p = 107) ∧ 0 ≤ pf E p ∧ pf E p < 30) ∨
  ((pk E p = 124 ∨ pk E p = 38) ∧ 0 ≤ pf E p ∧ pf E p < p ∧ 0 ≤ ps E p ∧ ps E p < p) ∨
  (pk E p = 103 ∧ 0 ≤ pf E p ∧ pf E p < p) ∨
  ((pk E p = 36 ∨ pk E p = 46) ∧ 0 ≤ pf E p ∧ pf E p < p ∧ 0 ≤ ps E p ∧ ps E p < 26) ∨
  ((pk E p = 64 ∨ pk E p = 118) ∧ 0 ≤ pf E p ∧ pf E p < 26) ∨
  ((pk E p = 35 ∨ pk E p = 116 ∨ pk E p = 114 ∨ pk E p = 112 ∨ pk E p = 113) ∧ 0 ≤ pf E p ∧ pf E p ≤ 60) ∨
  (pk E p = 109 ∨ pk E p = 42 ∨ pk E p = 120 ∨ pk E p = 102 ∨ pk E p = 122 ∨ pk E p = 105)
/-- the table of patterns, texts and subject as they may be -/
def EOK (E : EV) : Prop := (∀ p, 0 ≤ p → p < eN E → PK1 E p) ∧ 0 ≤ eN E ∧ eN E ≤ 50 ∧ (∀ r, SO (eT E r)) ∧ (∀ r, (eT E r).length ≤ 20) ∧ SO (eS E) ∧ (eS E).length ≤ 60 ∧ (eA E = 0 ∨ eA E = 1) ∧ 0 ≤ eP E ∧ eP E < eN E
def VOK (V : Nat → List Int) : Prop := ∀ r, SO (V r) ∧ (V r).length ≤ 60
def TOK (E : EV) (T : List Tk) : Prop := ∀ x ∈ T, 0 ≤ x.1 ∧ x.1 < 26 ∧ 0 ≤ x.2.1 ∧ x.2.1 ≤ x.2.2 ∧ x.2.2 ≤ (eS E).length
def AC (E : EV) (C : List Ch) (T : List Tk) (b : Int) (V : Nat → List Int) (s : Int) : Prop := 0 ≤ b ∧ b ≤ 3000 ∧ -1 ≤ s ∧ s ≤ (eS E).length ∧ VOK V ∧ COK E b s T.length C ∧ (T.length : Int) ≤ b ∧ TOK E T
def AK (E : EV) (g c : Int) (K : List Nd) (C : List Ch) (T : List Tk) (b s : Int) : Prop := KOK E g K ∧ KC c K ∧ (0 ≤ s ∧ s ≤ c) ∧ c ≤ (eS E).length ∧ (C.length : Int) + gn E K ≤ b ∧ (T.length : Int) + dn E K ≤ b
def AOK (E : EV) : MS → Prop
  | (0, g, c, K, C, T, b, V, s) => AC E C T b V s ∧ 0 ≤ g ∧ g < eN E ∧ AK E g c K C T b s
  | (1, _, c, K, C, T, b, V, s) => AC E C T b V s ∧ 1 ≤ b ∧ AK E (-1) c K C T b s
  | (2, _, _, _, C, T, b, V, s) => AC E C T b V s ∧ (b = 0 → C = [])
  | (3, _, _, _, C, T, b, V, s) => AC E C T b V s ∧ C = []
  | (4, _, c, K, C, T, b, V, s) => AC E C T b V s ∧ 1 ≤ b ∧ AK E (-1) c K C T b s
  | (_, _, _, _, _, _, b, V, _) => 0 ≤ b ∧ b ≤ 3000 ∧ VOK V
def str (c : Int) (K : List Nd) : Bool := K.all (fun x => decide (x.2 < c))
/-- how many steps there may still be -/
def aPhi : MS → Nat
  | (0, _, _, K, C, _, b, _, _) => 200 * (3000 - b).toNat + 10 + C.length + 2 * K.length
  | (1, _, c, K, C, _, b, _, _) => if str c K = true then 200 * (3000 - b).toNat + 20 + C.length + 2 * K.length else 200 * (3001 - b).toNat + C.length + 2 * K.length + 1
  | (2, _, _, _, C, _, b, _, _) => 200 * (3001 - b).toNat + C.length + 1
  | (3, _, _, _, _, _, b, _, _) => 200 * (3001 - b).toNat
  | _ => 0
theorem spanE_rng (S T : List Int) (b : Bool) (n : Nat) : ∀ c : Int, c ≤ S.length → c ≤ spanE S T b n c ∧ spanE S T b n c ≤ S.length := by
  induction n with
  | zero => intro c h; exact ⟨Int.le_refl _, h⟩
  | succ n ih =>
    intro c h
    unfold spanE
    by_cases g : c < S.length ∧ decide (gt S c ∈ T) = b
    · rw [if_pos g]
      have := ih (c + 1) (by omega)
      omega
    · rw [if_neg g]
      omega
theorem hasAt_len {S T : List Int} {c : Int} (hT : SO T) (hc : c ≤ S.length) (h : hasAt S T c = true) : c + T.length ≤ S.length := by
  by_cases h0 : T.length = 0
  · omega
  · have h1 := hasAt_iff.mp h (T.length - 1) (by omega)
    have h2 := gt_in hT (y := ((T.length - 1 : Nat) : Int)) (by omega)
    by_cases h3 : c + ((T.length - 1 : Nat) : Int) < S.length
    · omega
    · rw [gt_ge (by omega)] at h1
      omega
def rngP (c n : Int) (e : Int) : Prop := e = -1 ∨ (c ≤ e ∧ e ≤ n)
theorem single_rng {k x c : Int} {T W S : List Int} (hT : SO T) (hW : SO W) (hx : k = 35 → 0 ≤ x) (hx2 : k = 114 → 0 ≤ x) (hc : c ≤ S.length) : rngP c S.length (single k x T W S c) := by
  unfold single
  have s1 := spanE_rng S T true 61 c hc
  have s2 := spanE_rng S T false 61 c hc
  by_cases e1 : k = 108
  · rw [if_pos e1]
    by_cases h : hasAt S T c = true
    · rw [if_pos h]
      have := hasAt_len hT hc h
      exact Or.inr ⟨by omega, by omega⟩
    · rw [if_neg h]
      exact Or.inl rfl
  rw [if_neg e1]
  by_cases e2 : k = 118
  · rw [if_pos e2]
    by_cases h : hasAt S W c = true
    · rw [if_pos h]
      have := hasAt_len hW hc h
      exact Or.inr ⟨by omega, by omega⟩
    · rw [if_neg h]
      exact Or.inl rfl
  rw [if_neg e2]
  have fin : ∀ (p : Prop) (d : Decidable p) (e : Int), (p → c ≤ e ∧ e ≤ S.length) → rngP c S.length (@ite _ p d e (-1)) := by
    intro p d e h
    by_cases hp : p
    · rw [if_pos hp]
      exact Or.inr (h hp)
    · rw [if_neg hp]
      exact Or.inl rfl
  by_cases e3 : k = 110
  · rw [if_pos e3]
    exact fin _ _ _ (fun h => by omega)
  rw [if_neg e3]
  by_cases e4 : k = 111
  · rw [if_pos e4]
    exact fin _ _ _ (fun h => by omega)
  rw [if_neg e4]
  by_cases e5 : k = 115
  · rw [if_pos e5]
    exact fin _ _ _ (fun h => by omega)
  rw [if_neg e5]
  by_cases e6 : k = 107
  · rw [if_pos e6]
    exact fin _ _ _ (fun h => by omega)
  rw [if_neg e6]
  by_cases e7 : k = 35
  · rw [if_pos e7]
    have := hx e7
    exact fin _ _ _ (fun h => by omega)
  rw [if_neg e7]
  by_cases e8 : k = 116
  · rw [if_pos e8]
    exact fin _ _ _ (fun h => by omega)
  rw [if_neg e8]
  by_cases e9 : k = 114
  · rw [if_pos e9]
    have := hx2 e9
    exact fin _ _ _ (fun h => by omega)
  rw [if_neg e9]
  by_cases e10 : k = 112
  · rw [if_pos e10]
    exact fin _ _ _ (fun h => by omega)
  rw [if_neg e10]
  by_cases e11 : k = 113
  · rw [if_pos e11]
    exact fin _ _ _ (fun h => by omega)
  rw [if_neg e11]
  by_cases e12 : k = 109
  · rw [if_pos e12]
    exact Or.inr ⟨hc, Int.le_refl _⟩
  rw [if_neg e12]
  exact Or.inl rfl
theorem bal_rng (S : List Int) (n : Nat) : ∀ o c : Int, bal S n o c = -1 ∨ (c < bal S n o c ∧ bal S n o c ≤ S.length) := by
  induction n with
  | zero => intro o c; exact Or.inl rfl
  | succ n ih =>
    intro o c
    unfold bal
    by_cases h1 : c < S.length
    · rw [if_pos h1]
      by_cases h2 : o + par (gt S c) < 0
      · rw [if_pos h2]
        exact Or.inl rfl
      · rw [if_neg h2]
        by_cases h3 : o + par (gt S c) = 0
        · rw [if_pos h3]
          exact Or.inr (by omega)
        · rw [if_neg h3]
          rcases ih (o + par (gt S c)) (c + 1) with h | h
          · exact Or.inl h
          · exact Or.inr (by omega)
    · rw [if_neg h1]
      exact Or.inl rfl
