/-! best first: what is done, by numbers alone -/
/-- to where and at what cost each direction leads; what is reached; what is guessed -/
abbrev GR : Type := (Nat → Nat → Option (Nat × Nat)) × (Nat → Bool) × (Nat → Nat)
def gN (G : GR) : Nat → Nat → Option (Nat × Nat) := G.1
def gG (G : GR) : Nat → Bool := G.2.1
def gH (G : GR) : Nat → Nat := G.2.2
def GOK (G : GR) (V : Nat → Prop) : Prop := (∀ r d r' c, V r → d < 4 → gN G r d = some (r', c) → V r' ∧ ¬ r' = r ∧ 1 ≤ c ∧ c ≤ 9 ∧ gN G r' (3 - d) = some (r, c) ∧ gH G r ≤ c + gH G r') ∧ ∀ r, gH G r ≤ 200000
/-- how many; their ranks, costs, parents, moves, who waits, how long the way is -/
abbrev BS : Type := Nat × (Nat → Nat) × (Nat → Nat) × (Nat → Int) × (Nat → Int) × (Nat → Bool) × (Nat → Nat)
def sN (S : BS) : Nat := S.1
def sR (S : BS) : Nat → Nat := S.2.1
def sC (S : BS) : Nat → Nat := S.2.2.1
def sP (S : BS) : Nat → Int := S.2.2.2.1
def sM (S : BS) : Nat → Int := S.2.2.2.2.1
def sW (S : BS) : Nat → Bool := S.2.2.2.2.2.1
def sL (S : BS) : Nat → Nat := S.2.2.2.2.2.2
/-- the number of the rank r, k if there is none below k -/
def fi (R : Nat → Nat) (r : Nat) : Nat → Nat
  | 0 => 0
  | k + 1 => if fi R r k < k then fi R r k else if R k = r then k else k + 1
theorem fi_le (R : Nat → Nat) (r : Nat) : ∀ k, fi R r k ≤ k
  | 0 => Nat.le_refl _
  | k + 1 => by unfold fi; have := fi_le R r k; split; (· omega); split <;> omega
theorem fi_lt {R : Nat → Nat} {r : Nat} : ∀ {k : Nat}, fi R r k < k → R (fi R r k) = r
  | 0, h => absurd h (by omega)
  | k + 1, h => by
    unfold fi at h ⊢
    by_cases c : fi R r k < k
    · rw [if_pos c]; exact fi_lt c
    · rw [if_neg c] at h ⊢
      by_cases e : R k = r
      · rw [if_pos e]; exact e
      · rw [if_neg e] at h; omega
theorem fi_no {R : Nat → Nat} {r : Nat} : ∀ {k : Nat}, fi R r k = k → ∀ i, i < k → ¬ R i = r
  | 0, _, i, hi => absurd hi (by omega)
  | k + 1, h, i, hi => by
    unfold fi at h
    by_cases c : fi R r k < k
    · rw [if_pos c] at h; have := fi_le R r k; omega
    · rw [if_neg c] at h
      by_cases e : R k = r
      · rw [if_pos e] at h; omega
      · by_cases z : i = k
        · rw [z]; exact e
        · exact fi_no (Nat.le_antisymm (fi_le R r k) (by omega)) i (by omega)
/-- it is the number of r -/
theorem fi_is {R : Nat → Nat} {r N i : Nat} (hi : i < N) (e : R i = r) (inj : ∀ i j, i < N → j < N → R i = R j → i = j) : fi R r N = i := by
  by_cases c : fi R r N < N
  · exact inj _ _ c hi (by rw [fi_lt c, e])
  · exact absurd e (fi_no (Nat.le_antisymm (fi_le R r N) (by omega)) i hi)
theorem fi_new {R : Nat → Nat} {r N : Nat} (h : ∀ i, i < N → ¬ R i = r) : fi R r N = N := by
  by_cases c : fi R r N < N
  · exact absurd (fi_lt c) (h _ c)
  · have := fi_le R r N; omega
def bNew (S : BS) (pa mv : Int) (le cost r : Nat) : BS := (sN S + 1, un (sR S) (sN S) r, un (sC S) (sN S) cost, up (sP S) (sN S) pa, up (sM S) (sN S) mv, ub (sW S) (sN S) true, un (sL S) (sN S) le)
def bOld (S : BS) (i : Nat) (pa mv : Int) (le cost : Nat) : BS := (sN S, sR S, un (sC S) i cost, up (sP S) i pa, up (sM S) i mv, sW S, un (sL S) i le)
def bMeet (S : BS) (pa mv : Int) (le cost r : Nat) : BS :=
  if fi (sR S) r (sN S) = sN S then bNew S pa mv le cost r
  else if cost < sC S (fi (sR S) r (sN S)) then bOld S (fi (sR S) r (sN S)) pa mv le cost else S
def bDir (G : GR) (S : BS) (m d : Nat) : BS := match gN G (sR S m) d with
  | none => S
  | some p => bMeet S m d (sL S m + 1) (sC S m + p.2) p.1
def bSpr (G : GR) (S : BS) (m : Nat) : Nat → BS
  | 0 => S
  | d + 1 => bDir G (bSpr G S m d) m d
def bF (G : GR) (S : BS) (i : Nat) : Nat := sC S i + gH G (sR S i)
/-- i goes ahead of j -/
def bAh (G : GR) (S : BS) (i j : Nat) : Bool := decide (bF G S i < bF G S j ∨ (bF G S i = bF G S j ∧ (gH G (sR S i) < gH G (sR S j) ∨ (gH G (sR S i) = gH G (sR S j) ∧ sR S i < sR S j))))
/-- who is taken of the first k -/
def bPk (G : GR) (S : BS) : Nat → Option Nat
  | 0 => none
  | k + 1 => if sW S k = true then (match bPk G S k with
    | none => some k
    | some b => if bAh G S k b = true then some k else some b) else bPk G S k
theorem bPk_none {G : GR} {S : BS} : ∀ {k : Nat}, (∀ i, i < k → sW S i = false) → bPk G S k = none
  | 0, _ => rfl
  | k + 1, h => by
    unfold bPk
    rw [if_neg (by rw [h k (by omega)]; exact Bool.false_ne_true)]
    exact bPk_none (fun i hi => h i (by omega))
theorem bPk_is {G : GR} {S : BS} {m : Nat} (hw : sW S m = true) : ∀ {k : Nat}, m < k → (∀ i j, i < k → j < k → sR S i = sR S j → i = j) → (∀ i, i < k → sW S i = true → bAh G S i m = false) → bPk G S k = some m
  | 0, h, _, _ => absurd h (by omega)
  | k + 1, h, inj, hm => by
    unfold bPk
    by_cases c : m = k
    · subst c
      rw [if_pos hw]
      have all : ∀ b, bPk G S m = some b → b < m ∧ sW S b = true := by
        have : ∀ k b, bPk G S k = some b → b < k ∧ sW S b = true := by
          intro k
          induction k with
          | zero => intro b hb; cases hb
          | succ k ih =>
            intro b hb
            unfold bPk at hb
            by_cases z : sW S k = true
            · rw [if_pos z] at hb
              revert hb
              cases e : bPk G S k with
              | none => intro hb; dsimp only at hb; injection hb with hb; subst hb; exact ⟨by omega, z⟩
              | some b' =>
                intro hb
                dsimp only at hb
                by_cases y : bAh G S k b' = true
                · rw [if_pos y] at hb; injection hb with hb; subst hb; exact ⟨by omega, z⟩
                · rw [if_neg y] at hb; injection hb with hb; subst hb
                  have := ih b' e; exact ⟨by omega, this.2⟩
            · rw [if_neg z] at hb
              have := ih b hb; exact ⟨by omega, this.2⟩
        exact this m
      cases e : bPk G S m with
      | none => rfl
      | some b =>
        dsimp only
        obtain ⟨b1, b2⟩ := all b e
        have := hm b (by omega) b2
        have ne : ¬ sR S b = sR S m := fun q => by have := inj b m (by omega) (by omega) q; omega
        have : bAh G S m b = true := by
          unfold bAh at this ⊢
          have := of_decide_eq_false this
          exact decide_eq_true (by omega)
        rw [if_pos this]
    · have ih := bPk_is hw (k := k) (by omega) (fun i j hi hj => inj i j (by omega) (by omega)) (fun i hi => hm i (by omega))
      rw [ih]
      by_cases z : sW S k = true
      · rw [if_pos z]
        dsimp only
        rw [if_neg (by rw [hm k (by omega) z]; exact Bool.false_ne_true)]
      · rw [if_neg z]
def bTake (S : BS) (m : Nat) : BS := (sN S, sR S, sC S, sP S, sM S, ub (sW S) m false, sL S)
def anc (P : Nat → Int) : Nat → Nat → Nat
  | 0, m => m
  | j + 1, m => anc P j (P m).toNat
def bWy (S : BS) (m : Nat) (k : Nat) : Int := sM S (anc (sP S) (sL S m - 1 - k) m)
/-- the cost, how many were taken, the length of the way and the way -/
def bRun (G : GR) : Nat → BS → Nat → Int × Nat × Nat × (Nat → Int)
  | 0, S, T => (if bPk G S (sN S) = none then -1 else -2, T, 0, fun _ => 0)
  | k + 1, S, T => match bPk G S (sN S) with
    | none => (-1, T, 0, fun _ => 0)
    | some m => if gG G (sR S m) = true then (sC S m, T + 1, sL S m, bWy S m) else bRun G k (bSpr G (bTake S m) m 4) (T + 1)
def bS0 (r : Nat) : BS := (1, fun _ => r, fun _ => 0, fun _ => -1, fun _ => -1, fun i => decide (i = 0), fun _ => 0)
def bRes (G : GR) (r lim : Nat) : Int × Nat × Nat × (Nat → Int) := bRun G lim (bS0 r) 0
/-- what holds between the takings; Lf: what the last that was taken had -/
def BI (G : GR) (V : Nat → Prop) (S : BS) (T Lf : Nat) : Prop :=
  (∀ i j, i < sN S → j < sN S → sR S i = sR S j → i = j) ∧ (∀ i, sW S i = true → i < sN S) ∧
  (∀ i, i < sN S → V (sR S i) ∧ sC S i ≤ 9 * T ∧ sL S i ≤ T) ∧ (∀ i, i < sN S → sW S i = true → Lf ≤ bF G S i) ∧ (∀ i, i < sN S → sW S i = false → bF G S i ≤ Lf) ∧
  (∀ i, i < sN S → (i = 0 ∧ sP S i = -1 ∧ sL S i = 0) ∨ ∃ p d c : Nat, sP S i = (p : Int) ∧ p < sN S ∧ sW S p = false ∧ sL S i = sL S p + 1 ∧ d < 4 ∧ sM S i = (d : Int) ∧ gN G (sR S p) d = some (sR S i, c))
theorem BI.start (G : GR) {V : Nat → Prop} {r : Nat} (hr : V r) : BI G V (bS0 r) 0 0 :=
  ⟨(fun i j hi hj _ => by have : i < 1 := hi; have : j < 1 := hj; omega), (fun i hi => by have := of_decide_eq_true hi; subst this; exact Nat.one_pos), fun i hi => ⟨hr, Nat.le_refl _, Nat.le_refl _⟩, fun _ _ _ => Nat.zero_le _, (fun i hi hw => absurd (show i = 0 from by have : i < 1 := hi; omega) (of_decide_eq_false hw)), fun i hi => Or.inl ⟨by have : i < 1 := hi; omega, rfl, rfl⟩⟩
/-- m is taken -/
theorem BI.take {G : GR} {V : Nat → Prop} {T Lf m : Nat} {S : BS} (h : BI G V S T Lf) (hm : sW S m = true) (hl : ∀ i, i < sN S → sW S i = true → bF G S m ≤ bF G S i) : BI G V (bTake S m) (T + 1) (bF G S m) := by
  obtain ⟨h1, h2, h3, h4, h5, h6⟩ := h
  have w1 : ∀ i, sW (bTake S m) i = if i = m then false else sW S i := fun i => rfl
  have nf : ∀ i, bF G (bTake S m) i = bF G S i := fun i => rfl
  refine ⟨h1, fun i hi => ?_, fun i hi => ?_, fun i hi hw => ?_, fun i hi hw => ?_, fun i hi => ?_⟩
  · rw [w1] at hi
    split at hi
    · cases hi
    · exact h2 i hi
  · have := h3 i hi
    exact ⟨this.1, by have := this.2.1; show sC S i ≤ _; omega, by have := this.2.2; show sL S i ≤ _; omega⟩
  · rw [w1] at hw
    split at hw
    · cases hw
    · rw [nf]; exact hl i hi hw
  · rw [nf]
    rw [w1] at hw
    by_cases e : i = m
    · rw [e]; exact Nat.le_refl _
    · rw [if_neg e] at hw
      exact Nat.le_trans (h5 i hi hw) (h4 m (h2 m hm) hm)
  · rcases h6 i hi with e | ⟨p, d, c, e1, e2, e3, e4⟩
    · exact Or.inl e
    · refine Or.inr ⟨p, d, c, e1, e2, ?_, e4⟩
      rw [w1]; split; (· rfl); exact e3
/-- what stays while m is dealt with -/
def BK (S S1 : BS) (m : Nat) : Prop := sN S ≤ sN S1 ∧ (∀ i, i < sN S → sR S1 i = sR S i) ∧ sC S1 m = sC S m ∧ sL S1 m = sL S m ∧ sP S1 m = sP S m ∧ ∀ i, i < sN S → sW S1 i = sW S i
/-- one direction: what is met -/
theorem BI.dir {G : GR} {V : Nat → Prop} {T m d : Nat} {S : BS} (hG : GOK G V) (h : BI G V S (T + 1) (bF G S m)) (hT : ∀ i, i < sN S → i = m → sC S i ≤ 9 * T ∧ sL S i ≤ T) (hmN : m < sN S) (hm : sW S m = false) (hd : d < 4) :
    BI G V (bDir G S m d) (T + 1) (bF G S m) ∧ BK S (bDir G S m d) m ∧ sN (bDir G S m d) ≤ sN S + 1 ∧ ((∃ i c, i < sN S ∧ gN G (sR S m) d = some (sR S i, c)) → sN (bDir G S m d) = sN S) ∧
    ∀ r c, gN G (sR S m) d = some (r, c) → fi (sR S) r (sN S) < sN S → sC S m + c < sC S (fi (sR S) r (sN S)) → sW S (fi (sR S) r (sN S)) = true := by
  obtain ⟨h1, h2, h3, h4, h5, h6⟩ := id h
  obtain ⟨hTc, hTl⟩ := hT m hmN rfl
  have hmr := (h3 m hmN).1
  cases hx : gN G (sR S m) d with
  | none =>
    have e : bDir G S m d = S := by unfold bDir; rw [hx]
    rw [e]
    exact ⟨h, ⟨Nat.le_refl _, fun _ _ => rfl, rfl, rfl, rfl, fun _ _ => rfl⟩, by omega, fun _ => rfl, fun r c z => by cases z⟩
  | some p =>
    obtain ⟨r, c⟩ := p
    obtain ⟨g1, g2, g3, g4, g5, g6⟩ := hG.1 _ _ _ _ hmr hd hx
    have e : bDir G S m d = bMeet S m d (sL S m + 1) (sC S m + c) r := by unfold bDir; rw [hx]
    rw [e]
    have fl := fi_le (sR S) r (sN S)
    by_cases cn : fi (sR S) r (sN S) = sN S
    · -- new
      have no := fi_no cn
      have e2 : bMeet S m d (sL S m + 1) (sC S m + c) r = bNew S m d (sL S m + 1) (sC S m + c) r := if_pos cn
      rw [e2]
      have eR : ∀ i, sR (bNew S m d (sL S m + 1) (sC S m + c) r) i = if i = sN S then r else sR S i := fun i => rfl
      have eC : ∀ i, sC (bNew S m d (sL S m + 1) (sC S m + c) r) i = if i = sN S then sC S m + c else sC S i := fun i => rfl
      have eP : ∀ i, sP (bNew S m d (sL S m + 1) (sC S m + c) r) i = if i = sN S then (m : Int) else sP S i := fun i => rfl
      have eM : ∀ i, sM (bNew S m d (sL S m + 1) (sC S m + c) r) i = if i = sN S then (d : Int) else sM S i := fun i => rfl
      have eW : ∀ i, sW (bNew S m d (sL S m + 1) (sC S m + c) r) i = if i = sN S then true else sW S i := fun i => rfl
      have eL : ∀ i, sL (bNew S m d (sL S m + 1) (sC S m + c) r) i = if i = sN S then sL S m + 1 else sL S i := fun i => rfl
      have eN : sN (bNew S m d (sL S m + 1) (sC S m + c) r) = sN S + 1 := rfl
      refine ⟨⟨fun i j hi hj => ?_, fun i hi => ?_, fun i hi => ?_, fun i hi hw => ?_, fun i hi hw => ?_, fun i hi => ?_⟩, ⟨by omega, fun i hi => ?_, ?_, ?_, ?_, fun i hi => ?_⟩, by omega, ?_, fun r' c' z z1 => ?_⟩
      · rw [eR, eR]
        rw [eN] at hi hj
        by_cases a : i = sN S <;> by_cases b : j = sN S
        · intro _; omega
        · rw [if_pos a, if_neg b]; intro q; exact absurd q.symm (no j (by omega))
        · rw [if_neg a, if_pos b]; intro q; exact absurd q (no i (by omega))
        · rw [if_neg a, if_neg b]; exact h1 i j (by omega) (by omega)
      · rw [eW] at hi
        by_cases a : i = sN S
        · omega
        · rw [if_neg a] at hi; have := h2 i hi; omega
      · rw [eR, eC, eL]
        by_cases a : i = sN S
        · rw [if_pos a, if_pos a, if_pos a]; exact ⟨g1, by omega, by omega⟩
        · rw [if_neg a, if_neg a, if_neg a]; exact h3 i (by omega)
      · unfold bF
        rw [eC, eR]
        by_cases a : i = sN S
        · rw [if_pos a, if_pos a]; omega
        · rw [if_neg a, if_neg a]
          rw [eW, if_neg a] at hw
          exact h4 i (by omega) hw
      · rw [eW] at hw
        by_cases a : i = sN S
        · rw [if_pos a] at hw; cases hw
        · rw [if_neg a] at hw
          unfold bF
          rw [eC, eR, if_neg a, if_neg a]
          exact h5 i (by omega) hw
      · by_cases a : i = sN S
        · refine Or.inr ⟨m, d, c, ?_, by omega, ?_, ?_, hd, ?_, ?_⟩
          · rw [eP, if_pos a]
          · rw [eW, if_neg (by omega)]; exact hm
          · rw [eL, eL, if_pos a, if_neg (by omega)]
          · rw [eM, if_pos a]
          · rw [eR, eR, if_pos a, if_neg (by omega)]; exact hx
        · rcases h6 i (by omega) with z | ⟨p, d', c', z1, z2, z3, z4, z5, z6, z7⟩
          · refine Or.inl ⟨z.1, ?_, ?_⟩
            · rw [eP, if_neg a]; exact z.2.1
            · rw [eL, if_neg a]; exact z.2.2
          · refine Or.inr ⟨p, d', c', ?_, by omega, ?_, ?_, z5, ?_, ?_⟩
            · rw [eP, if_neg a]; exact z1
            · rw [eW, if_neg (by omega)]; exact z3
            · rw [eL, eL, if_neg a, if_neg (by omega)]; exact z4
            · rw [eM, if_neg a]; exact z6
            · rw [eR, eR, if_neg a, if_neg (by omega)]; exact z7
      · rw [eR, if_neg (by omega)]
      · rw [eC, if_neg (by omega)]
      · rw [eL, if_neg (by omega)]
      · rw [eP, if_neg (by omega)]
      · rw [eW, if_neg (by omega)]
      · rintro ⟨i, c', hi, z⟩
        injection z with z; injection z with z1 z2
        exact absurd z1.symm (no i hi)
      · injection z with z; injection z with z2 z3
        subst z2; omega
    · have flt : fi (sR S) r (sN S) < sN S := by omega
      have fe := fi_lt flt
      have hne : ¬ fi (sR S) r (sN S) = m := fun q => g2 (by rw [← fe, q])
      have wt : sC S m + c < sC S (fi (sR S) r (sN S)) → sW S (fi (sR S) r (sN S)) = true := fun lt => by
        cases z : sW S (fi (sR S) r (sN S)) with
        | true => rfl
        | false =>
          have := h5 _ flt z
          unfold bF at this
          rw [fe] at this
          omega
      generalize hi0 : fi (sR S) r (sN S) = i0 at *
      by_cases lt : sC S m + c < sC S i0
      · have e2 : bMeet S m d (sL S m + 1) (sC S m + c) r = bOld S i0 m d (sL S m + 1) (sC S m + c) := by
          unfold bMeet; rw [hi0, if_neg cn, if_pos lt]
        rw [e2]
        have w0 := wt lt
        have eR : ∀ i, sR (bOld S i0 m d (sL S m + 1) (sC S m + c)) i = sR S i := fun i => rfl
        have eC : ∀ i, sC (bOld S i0 m d (sL S m + 1) (sC S m + c)) i = if i = i0 then sC S m + c else sC S i := fun i => rfl
        have eP : ∀ i, sP (bOld S i0 m d (sL S m + 1) (sC S m + c)) i = if i = i0 then (m : Int) else sP S i := fun i => rfl
        have eM : ∀ i, sM (bOld S i0 m d (sL S m + 1) (sC S m + c)) i = if i = i0 then (d : Int) else sM S i := fun i => rfl
        have eW : ∀ i, sW (bOld S i0 m d (sL S m + 1) (sC S m + c)) i = sW S i := fun i => rfl
        have eL : ∀ i, sL (bOld S i0 m d (sL S m + 1) (sC S m + c)) i = if i = i0 then sL S m + 1 else sL S i := fun i => rfl
        have eN : sN (bOld S i0 m d (sL S m + 1) (sC S m + c)) = sN S := rfl
        refine ⟨⟨h1, h2, fun i hi => ?_, fun i hi hw => ?_, fun i hi hw => ?_, fun i hi => ?_⟩, ⟨by omega, fun i hi => rfl, ?_, ?_, ?_, fun _ _ => rfl⟩, by omega, fun _ => rfl, fun r' c' z z1 => ?_⟩
        · rw [eR, eC, eL]
          by_cases a : i = i0
          · rw [if_pos a, if_pos a]; exact ⟨(h3 i hi).1, by omega, by omega⟩
          · rw [if_neg a, if_neg a]; exact h3 i hi
        · unfold bF
          rw [eC, eR]
          by_cases a : i = i0
          · rw [if_pos a, a, fe]; omega
          · rw [if_neg a]; exact h4 i hi hw
        · unfold bF
          rw [eC, eR]
          rw [eW] at hw
          by_cases a : i = i0
          · rw [a, w0] at hw; cases hw
          · rw [if_neg a]; exact h5 i hi hw
        · by_cases a : i = i0
          · refine Or.inr ⟨m, d, c, ?_, hmN, hm, ?_, hd, ?_, ?_⟩
            · rw [eP, if_pos a]
            · rw [eL, eL, if_pos a, if_neg (fun q => hne q.symm)]
            · rw [eM, if_pos a]
            · rw [eR, eR, a, fe]; exact hx
          · rcases h6 i hi with z | ⟨p, d', c', z1, z2, z3, z4, z5, z6, z7⟩
            · refine Or.inl ⟨z.1, ?_, ?_⟩
              · rw [eP, if_neg a]; exact z.2.1
              · rw [eL, if_neg a]; exact z.2.2
            · have pn : ¬ p = i0 := fun q => by rw [q, w0] at z3; cases z3
              refine Or.inr ⟨p, d', c', ?_, z2, z3, ?_, z5, ?_, z7⟩
              · rw [eP, if_neg a]; exact z1
              · rw [eL, eL, if_neg a, if_neg pn]; exact z4
              · rw [eM, if_neg a]; exact z6
        · rw [eC, if_neg (fun q => hne q.symm)]
        · rw [eL, if_neg (fun q => hne q.symm)]
        · rw [eP, if_neg (fun q => hne q.symm)]
        · injection z with z; injection z with z2 z3
          subst z2; subst z3; rw [hi0]; exact fun _ => w0
      · have e2 : bMeet S m d (sL S m + 1) (sC S m + c) r = S := by
          unfold bMeet; rw [hi0, if_neg cn, if_neg lt]
        rw [e2]
        refine ⟨h, ⟨Nat.le_refl _, fun _ _ => rfl, rfl, rfl, rfl, fun _ _ => rfl⟩, by omega, fun _ => rfl, fun r' c' z z1 => ?_⟩
        injection z with z; injection z with z2 z3
        subst z2; subst z3; rw [hi0]; exact wt
theorem dir_mono (G : GR) (S : BS) (m d : Nat) : sN S ≤ sN (bDir G S m d) := by
  unfold bDir
  split
  · exact Nat.le_refl _
  · unfold bMeet
    split
    · exact Nat.le_succ _
    · split
      · exact Nat.le_refl _
      · exact Nat.le_refl _
theorem spr_mono (G : GR) (S : BS) (m : Nat) : ∀ d e, sN (bSpr G S m d) ≤ sN (bSpr G S m (d + e))
  | _, 0 => Nat.le_refl _
  | d, e + 1 => Nat.le_trans (spr_mono G S m d e) (dir_mono G (bSpr G S m (d + e)) m (d + e))
/-- all directions before d -/
theorem BI.spr {G : GR} {V : Nat → Prop} {T m : Nat} {S : BS} (hG : GOK G V) (h : BI G V S (T + 1) (bF G S m)) (hmN : m < sN S) (hm : sW S m = false) (hTc : sC S m ≤ 9 * T) (hTl : sL S m ≤ T) : ∀ d, d ≤ 4 →
    BI G V (bSpr G S m d) (T + 1) (bF G S m) ∧ BK S (bSpr G S m d) m ∧ sN (bSpr G S m d) ≤ sN S + d ∧ ∀ db, db < d → (∃ i c, i < sN S ∧ gN G (sR S m) db = some (sR S i, c)) → sN (bSpr G S m d) + 1 ≤ sN S + d
  | 0, _ => ⟨h, ⟨Nat.le_refl _, fun _ _ => rfl, rfl, rfl, rfl, fun _ _ => rfl⟩, Nat.le_refl _, fun db hdb => absurd hdb (by omega)⟩
  | d + 1, hd => by
    obtain ⟨i1, ⟨k1, k2, k3, k4, k5, k6⟩, i3, i4⟩ := BI.spr hG h hmN hm hTc hTl d (by omega)
    have eF : bF G (bSpr G S m d) m = bF G S m := by unfold bF; rw [k3, k2 m hmN]
    have hm' : sW (bSpr G S m d) m = false := (k6 m hmN).trans hm
    rw [← eF] at i1
    obtain ⟨j1, ⟨l1, l2, l3, l4, l5, l6⟩, j3, j4, j5⟩ := i1.dir hG (d := d) (fun i _ e => by rw [e, k3, k4]; exact ⟨hTc, hTl⟩) (by omega) hm' (by omega)
    rw [eF] at j1
    refine ⟨j1, ⟨Nat.le_trans k1 l1, fun i hi => (l2 i (by omega)).trans (k2 i hi), l3.trans k3, l4.trans k4, l5.trans k5, fun i hi => (l6 i (by omega)).trans (k6 i hi)⟩, ?_, fun db hdb he => ?_⟩
    · show sN (bDir G (bSpr G S m d) m d) ≤ _
      omega
    · show sN (bDir G (bSpr G S m d) m d) + 1 ≤ _
      by_cases c : db = d
      · subst c
        obtain ⟨i, c', hi, e⟩ := he
        rw [j4 ⟨i, c', by omega, by rw [k2 m hmN, k2 i hi]; exact e⟩]
        omega
      · have := i4 db (by omega) he
        omega
