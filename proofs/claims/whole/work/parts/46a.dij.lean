/-! least costs: what makes them, and how they are found from the goals -/
/-- from x a goal is reached by k steps that cost v -/
def Wk (E : Nat → Nat → Nat → Prop) (G : Nat → Prop) : Nat → Nat → Nat → Prop
  | 0, x, v => G x ∧ v = 0
  | k + 1, x, v => ∃ c y u, E x c y ∧ Wk E G k y u ∧ v = c + u
def Opt (E : Nat → Nat → Nat → Prop) (G : Nat → Prop) (f : Nat → Int) : Prop := (∀ x, G x → f x = 0) ∧ (∀ x c y, E x c y → ¬ f y = -1 → ¬ f x = -1 ∧ f x ≤ c + f y) ∧ (∀ x, ¬ f x = -1 → ∃ k v, Wk E G k x v ∧ f x = (v : Int))
section DJ
variable {E : Nat → Nat → Nat → Prop} {G : Nat → Prop}
theorem Opt.walk {f : Nat → Int} (h : Opt E G f) : ∀ k x v, Wk E G k x v → ¬ f x = -1 ∧ f x ≤ v
  | 0, x, v, hw => by obtain ⟨h1, rfl⟩ := hw; have := h.1 x h1; omega
  | k + 1, x, v, hw => by
    obtain ⟨c, y, u, h1, h2, rfl⟩ := hw
    have a := h.walk k y u h2
    have b := h.2.1 x c y h1 a.1
    exact ⟨b.1, by omega⟩
theorem Opt.rng {f : Nat → Int} (h : Opt E G f) (x : Nat) : f x = -1 ∨ 0 ≤ f x := by
  by_cases c : f x = -1
  · exact Or.inl c
  · obtain ⟨k, v, _, e⟩ := h.2.2 x c
    exact Or.inr (by omega)
theorem Opt.un {f g : Nat → Int} (hf : Opt E G f) (hg : Opt E G g) (x : Nat) : f x = g x := by
  by_cases c : f x = -1
  · by_cases d : g x = -1
    · rw [c, d]
    · obtain ⟨k, v, h1, h2⟩ := hg.2.2 x d
      exact absurd c (hf.walk k x v h1).1
  · obtain ⟨k, v, h1, h2⟩ := hf.2.2 x c
    have a := hg.walk k x v h1
    obtain ⟨k', v', h3, h4⟩ := hg.2.2 x a.1
    have b := hf.walk k' x v' h3
    omega
/-- while it goes on: what waits lies at L or beyond, what was taken at L or before, with all that leads to it reckoned; m is being dealt with, D tells what of it was done -/
def DI (E : Nat → Nat → Nat → Prop) (G : Nat → Prop) (f : Nat → Int) (wt : Nat → Bool) (L : Nat) (D : Nat → Nat → Nat → Prop) : Prop :=
  (∀ x, G x → f x = 0) ∧ (∀ x, ¬ f x = -1 → ∃ k v, Wk E G k x v ∧ f x = (v : Int)) ∧ (∀ x, wt x = true → ¬ f x = -1 ∧ (L : Int) ≤ f x) ∧ (∀ x, ¬ f x = -1 → wt x = false → f x ≤ L ∧ ∀ c y, D y c x → ¬ f y = -1 ∧ f y ≤ c + f x)
theorem DI.mono {f : Nat → Int} {wt : Nat → Bool} {L : Nat} {D D' : Nat → Nat → Nat → Prop} (h : DI E G f wt L D) (hd : ∀ y c x, ¬ f x = -1 → wt x = false → D' y c x → D y c x) : DI E G f wt L D' :=
  ⟨h.1, h.2.1, h.2.2.1, fun x h1 h2 => ⟨(h.2.2.2 x h1 h2).1, fun c y h3 => (h.2.2.2 x h1 h2).2 c y (hd y c x h1 h2 h3)⟩⟩
/-- all is reckoned -/
theorem DI.opt {f : Nat → Int} {wt : Nat → Bool} {L : Nat} (h : DI E G f wt L E) (hw : ∀ x, wt x = false) : Opt E G f :=
  ⟨h.1, fun x c y h1 h2 => (h.2.2.2 y h2 (hw y)).2 c x h1, h.2.1⟩
/-- m is taken -/
theorem DI.take {f : Nat → Int} {wt : Nat → Bool} {L v m : Nat} (h : DI E G f wt L E) (hm : wt m = true) (hv : f m = (v : Int)) (hl : ∀ x, wt x = true → f m ≤ f x) : DI E G f (ub wt m false) v (fun y c x => E y c x ∧ ¬ x = m) := by
  have hL := (h.2.2.1 m hm).2
  refine ⟨h.1, h.2.1, fun x hx => ?_, fun x h1 h2 => ?_⟩
  · unfold ub at hx
    split at hx
    · cases hx
    · exact ⟨(h.2.2.1 x hx).1, by have := hl x hx; omega⟩
  · by_cases c : x = m
    · subst c; exact ⟨by omega, fun c y h3 => absurd rfl h3.2⟩
    · unfold ub at h2
      rw [if_neg c] at h2
      have := h.2.2.2 x h1 h2
      exact ⟨by omega, fun c y h3 => this.2 c y h3.1⟩
/-- y is offered by m at c more -/
theorem DI.offer {f : Nat → Int} {wt : Nat → Bool} {L m y c : Nat} {D : Nat → Nat → Nat → Prop} (h : DI E G f wt L D) (hm : f m = (L : Int)) (hwm : wt m = false) (hE : E y c m) :
    (¬ f y = -1 ∧ f y ≤ c + L → DI E G f wt L (fun y' c' x' => D y' c' x' ∨ (y' = y ∧ c' = c ∧ x' = m))) ∧
    (¬ (¬ f y = -1 ∧ f y ≤ c + L) → (wt y = true ∨ f y = -1) ∧ DI E G (up f y (c + L)) (ub wt y true) L (fun y' c' x' => D y' c' x' ∨ (y' = y ∧ c' = c ∧ x' = m))) := by
  refine ⟨fun hk => ?_, fun hk => ?_⟩
  · refine ⟨h.1, h.2.1, h.2.2.1, fun x h1 h2 => ⟨(h.2.2.2 x h1 h2).1, fun c' y' h3 => ?_⟩⟩
    rcases h3 with h3 | ⟨rfl, rfl, rfl⟩
    · exact (h.2.2.2 x h1 h2).2 c' y' h3
    · rw [hm]; exact hk
  · have hy : wt y = true ∨ f y = -1 := by
      cases e : wt y with
      | true => exact Or.inl rfl
      | false =>
        refine Or.inr ?_
        apply Classical.byContradiction
        intro z
        exact hk ⟨z, by have := (h.2.2.2 y z e).1; omega⟩
    have hyG : ¬ G y := fun z => by have := h.1 y z; exact hk (by omega)
    have hym : ¬ y = m := fun z => by subst z; exact hk ⟨by omega, by omega⟩
    have low : ∀ x, ¬ f x = -1 → ¬ up f y (c + L) x = -1 ∧ up f y (c + L) x ≤ f x := fun x hx => by
      by_cases e : x = y
      · subst e; rw [up_eq]; omega
      · rw [up_ne e]; exact ⟨hx, Int.le_refl _⟩
    refine ⟨hy, fun x hx => ?_, fun x hx => ?_, fun x hx => ?_, fun x h1 h2 => ?_⟩
    · rw [up_ne (fun z => hyG (by rw [← z]; exact hx))]; exact h.1 x hx
    · by_cases e : x = y
      · subst e
        obtain ⟨k, v, h3, h4⟩ := h.2.1 m (by omega)
        exact ⟨k + 1, c + v, ⟨c, m, v, hE, h3, rfl⟩, by rw [up_eq]; omega⟩
      · rw [up_ne e] at hx ⊢
        exact h.2.1 x hx
    · by_cases e : x = y
      · subst e; rw [up_eq]; omega
      · unfold ub at hx
        rw [if_neg e] at hx
        rw [up_ne e]
        exact h.2.2.1 x hx
    · by_cases e : x = y
      · subst e; unfold ub at h2; rw [if_pos rfl] at h2; cases h2
      · rw [up_ne e] at h1 ⊢
        unfold ub at h2
        rw [if_neg e] at h2
        have a := h.2.2.2 x h1 h2
        refine ⟨a.1, fun c' y' h3 => ?_⟩
        rcases h3 with h3 | ⟨rfl, rfl, rfl⟩
        · have b := a.2 c' y' h3
          have := low y' b.1
          exact ⟨this.1, by omega⟩
        · rw [up_eq, hm]; omega
end DJ
/-- a count that one more is added to -/
theorem cnt_ub {p : Nat → Bool} {i n : Nat} (hi : i < n) (h : p i = false) : cnt (ub p i true) n = cnt p n + 1 := by
  have := cnt_drop (p := ub p i true) (x := i) hi (if_pos rfl)
  rw [← this]
  congr 1
  refine cnt_congr (fun j _ => ?_)
  unfold ub
  by_cases c : j = i
  · rw [if_pos c, c, h]; simp
  · rw [if_neg c, decide_eq_false (fun z => c z.symm)]; simp
theorem cnt_ub0 {p : Nat → Bool} {i n : Nat} (hi : i < n) (h : p i = true) : cnt (ub p i false) n + 1 = cnt p n := by
  rw [← cnt_drop hi h]
  congr 1
  refine cnt_congr (fun j _ => ?_)
  unfold ub
  by_cases c : j = i
  · rw [if_pos c, c]; simp
  · rw [if_neg c, decide_eq_false (fun z => c z.symm)]; simp
