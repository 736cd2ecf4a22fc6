/-! connected trays: beside each place there is another -/
theorem rc_eq {C r k r' k' : Nat} (hk : k < C) (hk' : k' < C) (e : r * C + k = r' * C + k') : r = r' ∧ k = k' := by
  have q1 := congrArg (· / C) e
  have q2 := congrArg (· % C) e
  rw [rc_div hk, rc_div hk'] at q1
  rw [rc_mod hk, rc_mod hk'] at q2
  exact ⟨q1, q2⟩
theorem adj_st {C r k r' k' : Nat} (hk : k < C) (hk' : k' < C) : adjC C (r * C + k) (r' * C + k') ↔ ∃ d, d < 4 ∧ stD d r k r' k' := by
  constructor
  · intro h
    unfold adjC at h
    rw [rc_mod hk'] at h
    rcases h with ⟨h1, h2⟩ | ⟨h1, h2⟩ | h | h
    · have := rc_eq (r := r) (r' := r') (k := k) (k' := k' + 1) hk (by omega) (by omega)
      exact ⟨1, by omega, Or.inr (Or.inl ⟨rfl, this.1.symm, this.2.symm⟩)⟩
    · have := rc_eq (r := r) (r' := r') (k := k) (k' := k' - 1) hk (by omega) (by omega)
      exact ⟨2, by omega, Or.inr (Or.inr (Or.inl ⟨rfl, this.1.symm, by omega⟩))⟩
    · have := rc_eq (r := r) (r' := r' + 1) (k := k) (k' := k') hk hk' (by rw [Nat.add_mul, Nat.one_mul]; omega)
      exact ⟨0, by omega, Or.inl ⟨rfl, this.1.symm, this.2.symm⟩⟩
    · have := rc_eq (r := r') (r' := r + 1) (k := k') (k' := k) hk' hk (by rw [Nat.add_mul, Nat.one_mul]; omega)
      exact ⟨3, by omega, Or.inr (Or.inr (Or.inr ⟨rfl, this.1, this.2⟩))⟩
  · rintro ⟨d, -, h⟩
    unfold adjC
    rw [rc_mod hk']
    rcases h with ⟨_, h1, h2⟩ | ⟨_, h1, h2⟩ | ⟨_, h1, h2⟩ | ⟨_, h1, h2⟩
    · subst h2
      right; right; left
      rw [← h1, Nat.add_mul, Nat.one_mul]; omega
    · subst h1
      left
      exact ⟨by omega, by omega⟩
    · subst h1
      right; left
      exact ⟨by omega, by omega⟩
    · subst h2
      right; right; right
      rw [h1, Nat.add_mul, Nat.one_mul]; omega
theorem fst_open {N m : Nat} (h : 0 < cnt (opC m) N) : ∃ l, l < N ∧ m.testBit l = false ∧ ∀ i, i < l → m.testBit i = true := by
  obtain ⟨x, h1, h2, h3⟩ := cnt_ex (p := opC m) (d := 0) h
  refine ⟨x, h1, by simpa [opC] using h2, fun i hi => ?_⟩
  cases b : m.testBit i with
  | true => rfl
  | false =>
    have := cnt_past hi (show opC m i = true by simp [opC, b])
    omega
theorem cnt_one {p : Nat → Bool} {x : Nat} : ∀ N, (∀ i, i < N → p i = true → i = x) → cnt p N ≤ 1
  | 0, _ => Nat.zero_le _
  | N + 1, h => by
    cases b : p N with
    | false =>
      have := cnt_one (p := p) (x := x) N (fun i hi => h i (by omega))
      simp only [cnt, b]
      exact this
    | true =>
      have e := h N (by omega) b
      have : cnt p N = 0 := cnt_none (fun i hi => by
        cases c : p i with
        | false => rfl
        | true => have := h i (by omega) c; omega)
      simp only [cnt, b, this]
      decide
section EP
variable {B : BD} {R C m : Nat}
theorem ex_pos (hBr : BrOk B R C m) {p : Nat} (hp : p < bN B) : 0 < cnt (exP B p) 4 := by
  obtain ⟨hR, hC, hm, hT, hS⟩ := id hBr
  have eN : bN B = cnt (opC m) (R * C) := hS.2.2.1
  obtain ⟨r, k, o, rfl⟩ := op_of (R := R) (C := C) (m := m) (p := p) (by omega) (by omega)
  apply Classical.byContradiction
  intro hno
  have none : ∀ d, d < 4 → bNB B (4 * Pc C m r k + d) = -1 := fun d hd => by
    apply Classical.byContradiction
    intro z
    have := cnt_past hd (show exP B (Pc C m r k) d = true from decide_eq_true z)
    omega
  have noadj : ∀ j, j < R * C → m.testBit j = false → ¬ adjC C (r * C + k) j := fun j hj hb ha => by
    have hx : j / C * C + j % C = j := by rw [Nat.mul_comm]; exact Nat.div_add_mod j C
    have hk : j % C < C := Nat.mod_lt _ (by omega)
    rw [← hx] at ha
    obtain ⟨d, hd, s⟩ := (adj_st o.2.1 hk).mp ha
    have oj : Op R C m (j / C) (j % C) := ⟨by rw [Nat.div_lt_iff_lt_mul (by omega)]; exact hj, hk, by rw [hx]; exact hb⟩
    have := nb_op hS o oj s
    rw [none d hd] at this
    omega
  have ci := rc_lt o.1 o.2.1
  obtain ⟨l, l1, l2, l3⟩ := fst_open (N := R * C) (m := m) (by have := hT.1; omega)
  have hcon := hT.2 l l1 ⟨l2, l3⟩
  by_cases c : r * C + k = l
  · have all := hcon (fun i => i = l) rfl (fun i j hi hj hTj ha ho => by
      exfalso
      rw [hTj, ← c] at ha
      refine noadj i hi (by simpa [opC] using ho) ?_
      unfold adjC at ha ⊢
      have hc2 : 2 ≤ C := hC.1
      rw [c] at ha ⊢
      have e1 : ∀ a b : Nat, a + 1 = b → ¬ a % C = C - 1 → ¬ b % C = 0 := fun a b h1 h2 h3 => by
        subst h1
        have hx : a / C * C + a % C = a := by rw [Nat.mul_comm]; exact Nat.div_add_mod a C
        have hk : a % C < C := Nat.mod_lt _ (by omega)
        have : (a + 1) % C = a % C + 1 := by
          have := rc_mod (r := a / C) (k := a % C + 1) (C := C) (by omega)
          rw [← this]
          congr 1
          omega
        omega
      have e2 : ∀ a b : Nat, a + 1 = b → ¬ b % C = 0 → ¬ a % C = C - 1 := fun a b h1 h2 h3 => by
        subst h1
        have hx : a / C * C + a % C = a := by rw [Nat.mul_comm]; exact Nat.div_add_mod a C
        apply h2
        have : a + 1 = (a / C + 1) * C := by rw [Nat.add_mul, Nat.one_mul]; omega
        rw [this, Nat.mul_mod_left]
      rcases ha with ⟨h1, h2⟩ | ⟨h1, h2⟩ | h | h
      · exact Or.inr (Or.inl ⟨h1.symm, e1 l i h1 h2⟩)
      · exact Or.inl ⟨h1.symm, e2 i l h1.symm h2⟩
      · exact Or.inr (Or.inr (Or.inr (by omega)))
      · exact Or.inr (Or.inr (Or.inl (by omega))))
    have := cnt_one (p := opC m) (x := l) (R * C) all
    have := hT.1
    omega
  · have all := hcon (fun i => m.testBit i = false ∧ ¬ i = r * C + k) ⟨l2, fun z => c z.symm⟩ (fun i j hi hj hTj ha ho => ⟨by simpa [opC] using ho, fun z => noadj j hj hTj.1 (by rw [← z]; exact ha)⟩)
    exact (all (r * C + k) ci (by simp [opC, o.2.2])).2 rfl
end EP
