/-! shortest ways on a connected tray have less steps than it has places -/
section CW
variable {nb : Nat → Int}
theorem wlk_snoc {n : Nat} : ∀ k p q, p < n → wlk nb n (k + 1) p q → ∃ x, x < n ∧ wlk nb n k p x ∧ isNb nb x q = true
  | 0, p, q, hp, h => ⟨p, hp, rfl, h⟩
  | k + 1, p, q, hp, h => by
    obtain ⟨y, hy, hn, hw⟩ := h
    obtain ⟨x, hx, h1, h2⟩ := wlk_snoc k y q hy hw
    exact ⟨x, hx, wlk_cons hy hn h1, h2⟩
theorem wlk_ext {n k p x q : Nat} (hx : x < n) (h : wlk nb n k p x) (e : isNb nb x q = true) : wlk nb n (k + 1) p q := wlk_app k 1 p x q hx h e
theorem cnt_full {p : Nat → Bool} : ∀ {n : Nat}, n ≤ cnt p n → ∀ i, i < n → p i = true
  | 0, _, i, hi => absurd hi (Nat.not_lt_zero _)
  | n + 1, h, i, hi => by
    have h1 := cnt_le p n
    have e : cnt p (n + 1) = cnt p n + if p n then 1 else 0 := rfl
    cases b : p n with
    | false => rw [b] at e; simp only [Bool.false_eq_true, if_false] at e; omega
    | true =>
      rw [b] at e; simp only [if_true] at e
      by_cases c : i = n
      · rw [c]; exact b
      · exact cnt_full (p := p) (n := n) (by omega) i (by omega)
theorem conn_len {n : Nat} (hn : 0 < n) (hall : ∀ p q, p < n → q < n → ∃ j, wlk nb n j p q) {p q : Nat} (hp : p < n) (hq : q < n) : ∃ j, j < n ∧ wlk nb n j p q := by
  let S : Nat → Nat → Bool := fun s q => @decide (∃ i, i ≤ s ∧ wlk nb n i p q) (Classical.propDecidable _)
  have hS : ∀ s q, S s q = true ↔ ∃ i, i ≤ s ∧ wlk nb n i p q := fun s q => @decide_eq_true_iff _ (Classical.propDecidable _)
  have mono : ∀ s q, S s q = true → S (s + 1) q = true := fun s q h => by
    obtain ⟨i, h1, h2⟩ := (hS s q).mp h
    exact (hS _ _).mpr ⟨i, by omega, h2⟩
  have grow : ∀ s, (∃ s', s' < s ∧ ∀ i, i < n → S (s' + 1) i = S s' i) ∨ s + 1 ≤ cnt (S s) n := by
    intro s
    induction s with
    | zero =>
      refine Or.inr ?_
      have := cnt_past hp (show S 0 p = true from (hS 0 p).mpr ⟨0, Nat.le_refl _, rfl⟩)
      omega
    | succ s ih =>
      rcases ih with ⟨s', h1, h2⟩ | h1
      · exact Or.inl ⟨s', by omega, h2⟩
      · by_cases e : ∀ i, i < n → S (s + 1) i = S s i
        · exact Or.inl ⟨s, by omega, e⟩
        · refine Or.inr ?_
          have ⟨i, hi, hne⟩ : ∃ i, i < n ∧ ¬ S (s + 1) i = S s i := by
            apply Classical.byContradiction
            intro z
            exact e (fun i hi => Classical.byContradiction (fun y => z ⟨i, hi, y⟩))
          have n1 : S s i = false := by
            cases e1 : S s i with
            | false => rfl
            | true => exact absurd ((mono s i e1).trans e1.symm) hne
          have n2 : S (s + 1) i = true := by
            cases e1 : S (s + 1) i with
            | true => rfl
            | false => exact absurd (e1.trans n1.symm) hne
          have a := cnt_drop (p := S (s + 1)) hi n2
          have b := cnt_mono (p := S s) (q := fun j => S (s + 1) j && !decide (i = j)) (n := n) (fun j hj hp => by
            rw [mono s j hp]
            have : ¬ i = j := fun z => by subst z; rw [n1] at hp; cases hp
            rw [decide_eq_false this]; rfl)
          omega
  rcases grow (n - 1) with ⟨s', h1, h2⟩ | h1
  · have all : ∀ j q, q < n → wlk nb n j p q → S s' q = true := by
      intro j
      induction j with
      | zero => intro q hq h; exact (hS _ _).mpr ⟨0, Nat.zero_le _, h⟩
      | succ j ih =>
        intro q hq h
        obtain ⟨x, hx, w1, w2⟩ := wlk_snoc j p q hp h
        obtain ⟨i, i1, i2⟩ := (hS _ _).mp (ih x hx w1)
        rw [← h2 q hq]
        exact (hS _ _).mpr ⟨i + 1, by omega, wlk_ext hx i2 w2⟩
    obtain ⟨j, hj⟩ := hall p q hp hq
    obtain ⟨i, i1, i2⟩ := (hS _ _).mp (all j q hq hj)
    exact ⟨i, by omega, i2⟩
  · obtain ⟨i, i1, i2⟩ := (hS _ _).mp (cnt_full (p := S (n - 1)) (n := n) (by omega) q hq)
    exact ⟨i, by omega, i2⟩
end CW
section CN
variable {B : BD} {R C m : Nat}
theorem isNb_sym (hS : BSpec B R C m) (hC : 0 < C) {p q : Nat} (hp : p < bN B) (h : isNb (bNB B) p q = true) : isNb (bNB B) q p = true := by
  obtain ⟨r, k, o, rfl⟩ := op_of (R := R) (C := C) (m := m) (p := p) hC (by rw [← hS.2.2.1]; exact hp)
  obtain ⟨r', k', d, o', rfl, s⟩ := isNb_geo hS o h
  refine isNb_d.mpr ⟨3 - d, by omega, nb_op hS o' o ?_⟩
  rcases s with ⟨rfl, e1, e2⟩ | ⟨rfl, e1, e2⟩ | ⟨rfl, e1, e2⟩ | ⟨rfl, e1, e2⟩
  · exact Or.inr (Or.inr (Or.inr ⟨rfl, e1.symm, e2.symm⟩))
  · exact Or.inr (Or.inr (Or.inl ⟨rfl, e1.symm, e2.symm⟩))
  · exact Or.inr (Or.inl ⟨rfl, e1.symm, e2.symm⟩)
  · exact Or.inl ⟨rfl, e1.symm, e2.symm⟩
theorem wlk_sym (hS : BSpec B R C m) (hC : 0 < C) : ∀ k p q, p < bN B → q < bN B → wlk (bNB B) (bN B) k p q → wlk (bNB B) (bN B) k q p
  | 0, p, q, _, _, h => Eq.symm h
  | k + 1, p, q, hp, hq, h => by
    obtain ⟨x, hx, h1, h2⟩ := wlk_snoc k p q hp h
    exact wlk_cons hx (isNb_sym hS hC hx h2) (wlk_sym hS hC k p x hp hx h1)
theorem br_conn (hBr : BrOk B R C m) {p q : Nat} (hp : p < bN B) (hq : q < bN B) : ∃ j, j < bN B ∧ wlk (bNB B) (bN B) j p q := by
  obtain ⟨hR, hC, hm, hT, hS⟩ := id hBr
  have hC0 : 0 < C := by omega
  have eN : bN B = cnt (opC m) (R * C) := hS.2.2.1
  obtain ⟨l, l1, l2, l3⟩ := fst_open (N := R * C) (m := m) (by have := hT.1; omega)
  have hcon := hT.2 l l1 ⟨l2, l3⟩
  have dm : ∀ x, x / C * C + x % C = x := fun x => by rw [Nat.mul_comm]; exact Nat.div_add_mod x C
  have opx : ∀ x, x < R * C → m.testBit x = false → Op R C m (x / C) (x % C) := fun x hx hb => ⟨by rw [Nat.div_lt_iff_lt_mul hC0]; exact hx, Nat.mod_lt _ hC0, by rw [dm]; exact hb⟩
  have pcx : ∀ x, Pc C m (x / C) (x % C) = cnt (opC m) x := fun x => by unfold Pc; rw [dm]
  have lt : ∀ x, x < R * C → m.testBit x = false → cnt (opC m) x < bN B := fun x hx hb => by
    have := cnt_past hx (show opC m x = true by simp [opC, hb])
    omega
  have reach : ∀ i, i < R * C → opC m i = true → m.testBit i = false ∧ ∃ j, wlk (bNB B) (bN B) j (cnt (opC m) l) (cnt (opC m) i) :=
    hcon (fun i => m.testBit i = false ∧ ∃ j, wlk (bNB B) (bN B) j (cnt (opC m) l) (cnt (opC m) i)) ⟨l2, 0, rfl⟩ (fun i j hi hj hTj ha ho => by
      have bi : m.testBit i = false := by simpa [opC] using ho
      obtain ⟨bj, k, hk⟩ := hTj
      refine ⟨bi, k + 1, wlk_ext (lt j hj bj) hk ?_⟩
      rw [← dm i, ← dm j] at ha
      obtain ⟨d, hd, s⟩ := (adj_st (Nat.mod_lt _ hC0) (Nat.mod_lt _ hC0)).mp ha
      have e := nb_op hS (opx i hi bi) (opx j hj bj) s
      rw [pcx, pcx] at e
      exact isNb_sym hS hC0 (lt i hi bi) (isNb_d.mpr ⟨d, hd, e⟩))
  have from0 : ∀ q, q < bN B → ∃ j, wlk (bNB B) (bN B) j (cnt (opC m) l) q := fun q hq => by
    obtain ⟨r, k, o, rfl⟩ := op_of (R := R) (C := C) (m := m) (p := q) hC0 (by rw [← eN]; exact hq)
    exact (reach (r * C + k) (rc_lt o.1 o.2.1) (by simp [opC, o.2.2])).2
  refine conn_len (by omega) (fun p q hp hq => ?_) hp hq
  obtain ⟨a, ha⟩ := from0 p hp
  obtain ⟨b, hb⟩ := from0 q hq
  exact ⟨a + b, wlk_app a b p _ q (lt l l1 l2) (wlk_sym hS hC0 a _ _ (lt l l1 l2) hp ha) hb⟩
end CN
