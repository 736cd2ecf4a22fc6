/-! the reference: connected cells, by passes -/
def bsW (C N : Nat) (M : Nat → Bool) (i : Nat) : Bool := ((decide (C ≤ i) && M (i - C)) || (decide (0 < i % C) && M (i - 1))) || ((decide (i % C + 1 < C) && M (i + 1)) || (decide (i + C < N) && M (i + C)))
def psW (C N : Nat) (op : Nat → Bool) (M : Nat → Bool) : Nat → Nat → Bool
  | 0 => M
  | k + 1 => ub (psW C N op M k) k (psW C N op M k k || (bsW C N (psW C N op M k) k && op k))
def swW (C N : Nat) (op : Nat → Bool) (l : Nat) : Nat → Nat → Bool
  | 0 => fun i => decide (i = l)
  | s + 1 => psW C N op (swW C N op l s) N
section SW
variable {C N l : Nat} {op M M' : Nat → Bool}
theorem psW_mono : ∀ k i, M i = true → psW C N op M k i = true
  | 0, i, h => h
  | k + 1, i, h => by
    have ih := psW_mono k i h
    show (if i = k then _ else psW C N op M k i) = true
    by_cases c : i = k
    · subst c; rw [if_pos rfl, ih]; rfl
    · rw [if_neg c]; exact ih
theorem bs_lt (hC : 0 < C) (hd : C ∣ N) {i : Nat} (hi : i < N) (h : i % C + 1 < C) : i + 1 < N := by
  obtain ⟨R, rfl⟩ := hd
  have a := Nat.div_add_mod i C
  have b : i / C < R := by rw [Nat.div_lt_iff_lt_mul hC, Nat.mul_comm]; exact hi
  have c : C * (i / C + 1) ≤ C * R := Nat.mul_le_mul_left _ b
  rw [Nat.mul_add, Nat.mul_one] at c
  omega
theorem bsW_cg (hC : 0 < C) (hd : C ∣ N) {i : Nat} (hi : i < N) (h : ∀ j, j < N → M j = M' j) : bsW C N M i = bsW C N M' i := by
  unfold bsW
  congr 1
  · congr 1
    · rw [h (i - C) (by omega)]
    · rw [h (i - 1) (by omega)]
  · congr 1
    · by_cases c : i % C + 1 < C
      · rw [h (i + 1) (bs_lt hC hd hi c)]
      · rw [decide_eq_false c]; rfl
    · by_cases c : i + C < N
      · rw [h (i + C) c]
      · rw [decide_eq_false c]; rfl
theorem psW_cg (hC : 0 < C) (hd : C ∣ N) (h : ∀ j, j < N → M j = M' j) : ∀ k, k ≤ N → ∀ i, i < N → psW C N op M k i = psW C N op M' k i
  | 0, _, i, hi => h i hi
  | k + 1, hk, i, hi => by
    have ih := psW_cg hC hd h k (by omega)
    show (if i = k then _ else psW C N op M k i) = (if i = k then _ else psW C N op M' k i)
    by_cases c : i = k
    · subst c; rw [if_pos rfl, if_pos rfl, ih i hi, bsW_cg hC hd hi ih]
    · rw [if_neg c, if_neg c]; exact ih i hi
theorem bsW_adj (hC : 0 < C) (hd : C ∣ N) {i : Nat} (hi : i < N) : bsW C N M i = true ↔ ∃ j, j < N ∧ adjC C i j ∧ M j = true := by
  unfold bsW adjC
  simp only [Bool.or_eq_true, Bool.and_eq_true, decide_eq_true_eq]
  have dm := Nat.div_add_mod i C
  constructor
  · rintro ((⟨h1, h2⟩ | ⟨h1, h2⟩) | (⟨h1, h2⟩ | ⟨h1, h2⟩))
    · exact ⟨i - C, by omega, Or.inr (Or.inr (Or.inl (by omega))), h2⟩
    · refine ⟨i - 1, by omega, Or.inl ⟨by
        have : 0 < i := by
          apply Classical.byContradiction
          intro z
          have : i = 0 := by omega
          rw [this, Nat.zero_mod] at h1; omega
        omega, fun z => ?_⟩, h2⟩
      have e : i = i - 1 + 1 := by
        have : 0 < i := by
          apply Classical.byContradiction
          intro z
          have : i = 0 := by omega
          rw [this, Nat.zero_mod] at h1; omega
        omega
      have : i % C = 0 := by
        rw [e]
        have dm2 := Nat.div_add_mod (i - 1) C
        have : i - 1 + 1 = C * ((i - 1) / C + 1) := by rw [Nat.mul_add, Nat.mul_one]; omega
        rw [this, Nat.mul_mod_right]
      omega
    · refine ⟨i + 1, bs_lt hC hd hi h1, Or.inr (Or.inl ⟨rfl, fun z => ?_⟩), h2⟩
      have : (i + 1) % C = i % C + 1 := by
        have := rc_mod (C := C) (r := i / C) (k := i % C + 1) h1
        rw [← this]
        congr 1
        rw [Nat.mul_comm (i / C) C]; omega
      omega
    · exact ⟨i + C, h1, Or.inr (Or.inr (Or.inr rfl)), h2⟩
  · rintro ⟨j, hj, (⟨h1, h2⟩ | ⟨h1, h2⟩ | h1 | h1), hM⟩
    · subst h1
      refine Or.inl (Or.inr ⟨?_, hM⟩)
      have m := Nat.mod_lt j hC
      have := rc_mod (C := C) (r := j / C) (k := j % C + 1) (by omega)
      have dj := Nat.div_add_mod j C
      have e : j / C * C + (j % C + 1) = j + 1 := by rw [Nat.mul_comm]; omega
      rw [e] at this
      omega
    · subst h1
      refine Or.inr (Or.inl ⟨?_, hM⟩)
      have m := Nat.mod_lt i hC
      apply Classical.byContradiction
      intro z
      apply h2
      have : i + 1 = C * (i / C + 1) := by rw [Nat.mul_add, Nat.mul_one]; omega
      rw [this, Nat.mul_mod_right]
    · subst h1
      exact Or.inl (Or.inl ⟨by omega, by rw [Nat.add_sub_cancel]; exact hM⟩)
    · subst h1
      exact Or.inr (Or.inr ⟨hj, hM⟩)
theorem psW_snd (hC : 0 < C) (hd : C ∣ N) {T : Nat → Prop} (hT : Closed C N op T) (h : ∀ i, i < N → M i = true → T i) : ∀ k, k ≤ N → ∀ i, i < N → psW C N op M k i = true → T i
  | 0, _, i, hi, hm => h i hi hm
  | k + 1, hk, i, hi, hm => by
    have ih := psW_snd hC hd hT h k (by omega)
    have hm2 : (if i = k then (psW C N op M k k || (bsW C N (psW C N op M k) k && op k)) else psW C N op M k i) = true := hm
    by_cases c : i = k
    · subst c
      rw [if_pos rfl, Bool.or_eq_true, Bool.and_eq_true] at hm2
      rcases hm2 with h1 | ⟨h1, h2⟩
      · exact ih i hi h1
      · obtain ⟨j, hj, ha, hM⟩ := (bsW_adj hC hd hi).mp h1
        exact hT i j hi hj (ih j hj hM) ha h2
    · rw [if_neg c] at hm2
      exact ih i hi hm2
theorem psW_sub (h : ∀ i, i < N → M i = true → op i = true) : ∀ k, k ≤ N → ∀ i, i < N → psW C N op M k i = true → op i = true
  | 0, _, i, hi, hm => h i hi hm
  | k + 1, hk, i, hi, hm => by
    have ih := psW_sub h k (by omega)
    have hm2 : (if i = k then (psW C N op M k k || (bsW C N (psW C N op M k) k && op k)) else psW C N op M k i) = true := hm
    by_cases c : i = k
    · subst c
      rw [if_pos rfl, Bool.or_eq_true, Bool.and_eq_true] at hm2
      rcases hm2 with h1 | ⟨h1, h2⟩
      · exact ih i hi h1
      · exact h2
    · rw [if_neg c] at hm2
      exact ih i hi hm2
theorem psW_up : ∀ j k i, psW C N op M k i = true → psW C N op M (k + j) i = true
  | 0, k, i, h => h
  | j + 1, k, i, h => by
    have ih := psW_up j k i h
    show (if i = k + j then (psW C N op M (k + j) (k + j) || (bsW C N (psW C N op M (k + j)) (k + j) && op (k + j))) else psW C N op M (k + j) i) = true
    by_cases c : i = k + j
    · rw [if_pos c, ← c]
      rw [← c] at ih
      rw [ih]; rfl
    · rw [if_neg c]; exact ih
theorem sw_conn (hC : 0 < C) (hd : C ∣ N) (hN : N ≤ 16) (hl : l < N) : (∀ i, i < N → op i = true → swW C N op l 16 i = true) ↔ Conn C N op l := by
  refine flood (swW C N op l) hN hl (decide_eq_true rfl) (fun i _ h => of_decide_eq_true h) (fun s i _ h => psW_mono N i h) (fun s h => ?_) (fun s T hT h => psW_snd hC hd hT h N (Nat.le_refl _)) (fun s h i j hi hj hM ha ho => ?_)
  · exact psW_cg hC hd h N (Nat.le_refl _)
  · have hM' : swW C N op l s j = true := hM
    show swW C N op l s i = true
    rw [← h i hi]
    have up : ∀ x, psW C N op (swW C N op l s) (i + 1) x = true → psW C N op (swW C N op l s) N x = true := fun x hx => by
      have := psW_up (N - (i + 1)) (i + 1) x hx
      rwa [show i + 1 + (N - (i + 1)) = N from by omega] at this
    show psW C N op (swW C N op l s) N i = true
    refine up i ?_
    show (if i = i then _ else _) = true
    rw [if_pos rfl, (bsW_adj (M := psW C N op (swW C N op l s) i) hC hd hi).mpr ⟨j, hj, ha, psW_mono i j hM'⟩, ho]
    rw [Bool.and_self, Bool.or_true]
theorem sw_sub (ho : op l = true) : ∀ s i, i < N → swW C N op l s i = true → op i = true
  | 0, i, _, h => by rw [of_decide_eq_true h]; exact ho
  | s + 1, i, hi, h => psW_sub (sw_sub ho s) N (Nat.le_refl _) i hi h
theorem cnt_same {p q : Nat → Bool} : ∀ {n : Nat}, (∀ i, i < n → p i = true → q i = true) → (cnt p n = cnt q n ↔ ∀ i, i < n → q i = true → p i = true)
  | 0, _ => ⟨fun _ i hi => absurd hi (Nat.not_lt_zero _), fun _ => rfl⟩
  | n + 1, h => by
    have ih := cnt_same (p := p) (q := q) (n := n) (fun i hi => h i (by omega))
    have mo := cnt_mono (p := p) (q := q) (n := n) (fun i hi => h i (by omega))
    cases a : p n with
    | true =>
      have b := h n (by omega) a
      rw [cS_t a, cS_t b]
      constructor
      · intro e i hi hq
        by_cases c : i = n
        · rw [c]; exact a
        · exact ih.mp (by omega) i (by omega) hq
      · intro e
        have := ih.mpr (fun i hi hq => e i (by omega) hq)
        omega
    | false =>
      cases b : q n with
      | false =>
        rw [cS_f a, cS_f b]
        constructor
        · intro e i hi hq
          by_cases c : i = n
          · rw [c, b] at hq; cases hq
          · exact ih.mp e i (by omega) hq
        · intro e
          exact ih.mpr (fun i hi hq => e i (by omega) hq)
      | true =>
        rw [cS_f a, cS_t b]
        constructor
        · intro e; omega
        · intro e
          have := e n (by omega) b
          rw [a] at this; cases this
end SW
