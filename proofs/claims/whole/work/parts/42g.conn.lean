/-! connected trays -/
/-- j lies beside i (rows of c cells) -/
def adjC (c i j : Nat) : Prop := (j + 1 = i ∧ ¬ j % c = c - 1) ∨ (j = i + 1 ∧ ¬ j % c = 0) ∨ j + c = i ∨ j = i + c
def Closed (c N : Nat) (op : Nat → Bool) (T : Nat → Prop) : Prop := ∀ i j, i < N → j < N → T j → adjC c i j → op i = true → T i
def Conn (c N : Nat) (op : Nat → Bool) (l : Nat) : Prop := ∀ T : Nat → Prop, T l → Closed c N op T → ∀ i, i < N → op i = true → T i
theorem flood {c N l : Nat} {op : Nat → Bool} (S : Nat → Nat → Bool) (hN : N ≤ 16) (hl : l < N) (h0 : S 0 l = true) (h0' : ∀ i, i < N → S 0 i = true → i = l)
    (mono : ∀ s i, i < N → S s i = true → S (s + 1) i = true) (stab : ∀ s, (∀ i, i < N → S (s + 1) i = S s i) → ∀ i, i < N → S (s + 1 + 1) i = S (s + 1) i)
    (snd : ∀ s (T : Nat → Prop), Closed c N op T → (∀ i, i < N → S s i = true → T i) → ∀ i, i < N → S (s + 1) i = true → T i)
    (cls : ∀ s, (∀ i, i < N → S (s + 1) i = S s i) → Closed c N op (fun i => S s i = true)) :
    (∀ i, i < N → op i = true → S 16 i = true) ↔ Conn c N op l := by
  constructor
  · intro h T hT hc
    have : ∀ s i, i < N → S s i = true → T i := by
      intro s
      induction s with
      | zero => intro i hi hs; rw [h0' i hi hs]; exact hT
      | succ s ih => exact snd s T hc ih
    exact fun i hi ho => this 16 i hi (h i hi ho)
  · intro h
    have grow : ∀ s, (∃ s', s' < s ∧ ∀ i, i < N → S (s' + 1) i = S s' i) ∨ s + 1 ≤ cnt (S s) N := by
      intro s
      induction s with
      | zero =>
        refine Or.inr ?_
        have := cnt_past hl h0
        omega
      | succ s ih =>
        rcases ih with ⟨s', h1, h2⟩ | h1
        · exact Or.inl ⟨s', by omega, h2⟩
        · by_cases e : ∀ i, i < N → S (s + 1) i = S s i
          · exact Or.inl ⟨s, by omega, e⟩
          · refine Or.inr ?_
            have ⟨i, hi, hne⟩ : ∃ i, i < N ∧ ¬ S (s + 1) i = S s i := by
              apply Classical.byContradiction
              intro z
              exact e (fun i hi => Classical.byContradiction (fun y => z ⟨i, hi, y⟩))
            have n1 : S s i = false := by
              cases e1 : S s i with
              | false => rfl
              | true => exact absurd ((mono s i hi e1).trans e1.symm) hne
            have n2 : S (s + 1) i = true := by
              cases e1 : S (s + 1) i with
              | true => rfl
              | false => exact absurd (e1.trans n1.symm) hne
            have a := cnt_drop (p := S (s + 1)) hi n2
            have b := cnt_mono (p := S s) (q := fun j => S (s + 1) j && !decide (i = j)) (n := N) (fun j hj hp => by
              rw [mono s j hj hp]
              have : ¬ i = j := fun z => by subst z; rw [n1] at hp; cases hp
              rw [decide_eq_false this]; rfl)
            omega
    have st : ∀ s' k, (∀ i, i < N → S (s' + 1) i = S s' i) → ∀ i, i < N → S (s' + k + 1) i = S (s' + k) i := by
      intro s' k hs
      induction k with
      | zero => exact hs
      | succ k ih => exact stab (s' + k) ih
    have s16 : ∀ i, i < N → S (16 + 1) i = S 16 i := by
      rcases grow 16 with ⟨s', h1, h2⟩ | h1
      · have := st s' (16 - s') h2
        rwa [show s' + (16 - s') = 16 from by omega] at this
      · have := cnt_le (S 16) N; omega
    have l16 : ∀ s, S s l = true := by
      intro s
      induction s with
      | zero => exact h0
      | succ s ih => exact mono s l hl ih
    exact h (fun i => S 16 i = true) (l16 16) (cls 16 s16)
/-- one step of the flood, by bits -/
def flN (c fc lc o r : Nat) : Nat := r ||| ((((((r ^^^ (r &&& lc)) <<< 1) ||| ((r ^^^ (r &&& fc)) >>> 1)) ||| (r <<< c)) ||| (r >>> c)) &&& o)
theorem fl_bit {c fc lc o r i : Nat} : (flN c fc lc o r).testBit i = (r.testBit i || ((((decide (1 ≤ i) && (r.testBit (i - 1) && !lc.testBit (i - 1))) || (r.testBit (1 + i) && !fc.testBit (1 + i))) || (decide (c ≤ i) && r.testBit (i - c)) || r.testBit (c + i)) && o.testBit i)) := by
  unfold flN
  simp only [Nat.testBit_or, Nat.testBit_and, Nat.testBit_shiftLeft, Nat.testBit_shiftRight, clr_bit, ge_iff_le]
def flS (c fc lc o r0 : Nat) : Nat → Nat
  | 0 => r0
  | s + 1 => flN c fc lc o (flS c fc lc o r0 s)
theorem fl_conn {c N o l fc lc : Nat} (hc : 2 ≤ c) (hN : N ≤ 16) (hcN : N % c = 0) (hl : l < N) (ho : ∀ i, N ≤ i → o.testBit i = false) (hol : o.testBit l = true) (hfc : ∀ i, i < N → fc.testBit i = decide (i % c = 0)) (hlc : ∀ i, i < N → lc.testBit i = decide (i % c = c - 1)) {r0 : Nat} (hr : ∀ i, r0.testBit i = decide (i = l)) :
    flS c fc lc o r0 16 = o ↔ Conn c N o.testBit l := by
  have out : ∀ s i, N ≤ i → (flS c fc lc o r0 s).testBit i = false := by
    intro s i hi
    induction s with
    | zero => show r0.testBit i = false; rw [hr, decide_eq_false (by omega)]
    | succ s ih => show (flN c fc lc o _).testBit i = false; rw [fl_bit, ih, ho i hi]; simp
  have sub : ∀ s i, (flS c fc lc o r0 s).testBit i = true → o.testBit i = true := by
    intro s i
    induction s with
    | zero =>
      intro h
      have : r0.testBit i = true := h
      rw [hr, decide_eq_true_eq] at this
      rw [this]; exact hol
    | succ s ih =>
      intro h
      have : (flN c fc lc o (flS c fc lc o r0 s)).testBit i = true := h
      rw [fl_bit, Bool.or_eq_true, Bool.and_eq_true] at this
      rcases this with h | h
      · exact ih h
      · exact h.2
  have step : ∀ s i, i < N → ((flS c fc lc o r0 (s + 1)).testBit i = true ↔ (flS c fc lc o r0 s).testBit i = true ∨ (o.testBit i = true ∧ ∃ j, j < N ∧ (flS c fc lc o r0 s).testBit j = true ∧ adjC c i j)) := by
    intro s i hi
    show (flN c fc lc o (flS c fc lc o r0 s)).testBit i = true ↔ _
    have O := out s
    generalize flS c fc lc o r0 s = r at *
    rw [fl_bit]
    simp only [Bool.or_eq_true, Bool.and_eq_true, decide_eq_true_eq, Bool.not_eq_true']
    constructor
    · rintro (h | ⟨(((⟨h1, h2, h3⟩ | ⟨h1, h2⟩) | ⟨h1, h2⟩) | h1), h4⟩)
      · exact Or.inl h
      · refine Or.inr ⟨h4, i - 1, by omega, h2, Or.inl ⟨by omega, fun z => ?_⟩⟩
        rw [hlc _ (by omega), decide_eq_false_iff_not] at h3
        exact h3 z
      · by_cases b : 1 + i < N
        · refine Or.inr ⟨h4, 1 + i, b, h1, Or.inr (Or.inl ⟨by omega, fun z => ?_⟩)⟩
          rw [hfc _ b, decide_eq_false_iff_not] at h2
          exact h2 z
        · rw [O _ (by omega)] at h1; cases h1
      · exact Or.inr ⟨h4, i - c, by omega, h2, Or.inr (Or.inr (Or.inl (by omega)))⟩
      · by_cases b : c + i < N
        · exact Or.inr ⟨h4, c + i, b, h1, Or.inr (Or.inr (Or.inr (by omega)))⟩
        · rw [O _ (by omega)] at h1; cases h1
    · rintro (h | ⟨h4, j, hj, hr', (⟨h1, h2⟩ | ⟨h1, h2⟩ | h1 | h1)⟩)
      · exact Or.inl h
      · refine Or.inr ⟨Or.inl (Or.inl (Or.inl ⟨by omega, ?_, ?_⟩)), h4⟩
        · rw [show i - 1 = j from by omega]; exact hr'
        · rw [show i - 1 = j from by omega, hlc j hj, decide_eq_false h2]
      · refine Or.inr ⟨Or.inl (Or.inl (Or.inr ⟨?_, ?_⟩)), h4⟩
        · rw [show 1 + i = j from by omega]; exact hr'
        · rw [show 1 + i = j from by omega, hfc j hj, decide_eq_false h2]
      · refine Or.inr ⟨Or.inl (Or.inr ⟨by omega, ?_⟩), h4⟩
        rw [show i - c = j from by omega]; exact hr'
      · refine Or.inr ⟨Or.inr ?_, h4⟩
        rw [show c + i = j from by omega]; exact hr'
  have F := flood (c := c) (N := N) (l := l) (op := o.testBit) (fun s i => (flS c fc lc o r0 s).testBit i) hN hl (by show r0.testBit l = true; rw [hr, decide_eq_true rfl]) (fun i _ h => by
      have : r0.testBit i = true := h
      rw [hr, decide_eq_true_eq] at this; exact this)
    (fun s i hi h => (step s i hi).mpr (Or.inl h))
    (fun s h i hi => by
      have e : flS c fc lc o r0 (s + 1) = flS c fc lc o r0 s := by
        apply Nat.eq_of_testBit_eq
        intro j
        by_cases hj : j < N
        · exact h j hj
        · rw [out _ j (by omega), out _ j (by omega)]
      show (flN c fc lc o (flS c fc lc o r0 (s + 1))).testBit i = (flN c fc lc o (flS c fc lc o r0 s)).testBit i
      rw [e])
    (fun s T hT h i hi hs => by
      rcases (step s i hi).mp hs with a | ⟨a, j, hj, b, d⟩
      · exact h i hi a
      · exact hT i j hi hj (h j hj b) d a)
    (fun s h i j hi hj hs ha hop => by
      have := (step s i hi).mpr (Or.inr ⟨hop, j, hj, hs, ha⟩)
      rwa [h i hi] at this)
  rw [← F]
  constructor
  · intro e i hi h
    rw [e]; exact h
  · intro h
    apply Nat.eq_of_testBit_eq
    intro i
    cases e : o.testBit i with
    | true =>
      by_cases hi : i < N
      · exact h i hi e
      · rw [ho i (by omega)] at e; cases e
    | false =>
      cases e2 : (flS c fc lc o r0 16).testBit i with
      | false => rfl
      | true => rw [sub 16 i e2] at e; cases e
