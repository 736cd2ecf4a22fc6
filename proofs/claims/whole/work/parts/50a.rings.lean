/-! rings: what is done, by numbers alone -/
/-- how many, their ranks, from which ends; how many counted, met, where the latest rings begin and end -/
abbrev RS : Type := Nat × (Nat → Nat) × (Nat → Nat) × Nat × Bool × (Nat → Nat) × (Nat → Nat)
def rN (s : RS) : Nat := s.1
def rR (s : RS) : Nat → Nat := s.2.1
def rF (s : RS) : Nat → Nat := s.2.2.1
def rC (s : RS) : Nat := s.2.2.2.1
def rM (s : RS) : Bool := s.2.2.2.2.1
def rA (s : RS) : Nat → Nat := s.2.2.2.2.2.1
def rB (s : RS) : Nat → Nat := s.2.2.2.2.2.2
def rPut (s : RS) (r : Nat) : RS := if fi (rR s) r (rN s) = rN s then (rN s + 1, un (rR s) (rN s) r, un (rF s) (rN s) 0, rC s, rM s, rA s, rB s) else s
def rAdd (s : RS) (i e : Nat) : RS := (rN s, rR s, un (rF s) i (rF s i ||| 2 ^ e), rC s + 1, (rM s || decide (¬ rF s i = 0)), rA s, rB s)
def rFind (lim e : Nat) (s : RS) (r : Nat) : Option RS := if (rF (rPut s r) (fi (rR s) r (rN s))).testBit e = true then some (rPut s r) else if lim ≤ rC s then none else some (rAdd (rPut s r) (fi (rR s) r (rN s)) e)
def rDirs (G : GR) (lim e x : Nat) : Nat → RS → Option RS
  | 0, s => some s
  | c + 1, s => match gN G x (3 - c) with
    | none => rDirs G lim e x c s
    | some p => match rFind lim e s p.1 with
      | none => none
      | some s' => rDirs G lim e x c s'
def rAll (G : GR) (lim e : Nat) : Nat → Nat → RS → Option RS
  | 0, _, s => some s
  | c + 1, i, s => match rDirs G lim e (rR s i) 4 s with
    | none => none
    | some s' => rAll G lim e c (i + 1) s'
def rFrom (s : RS) (e : Nat) : RS := (rN s, rR s, rF s, rC s, rM s, un (rA s) e (rN s), rB s)
def rTo (s : RS) (e : Nat) : RS := (rN s, rR s, rF s, rC s, rM s, rA s, un (rB s) e (rN s))
def rGrow (G : GR) (lim e : Nat) (s : RS) : Option RS := match rAll G lim e (rB s e - rA s e) (rA s e) (rFrom s e) with
  | none => none
  | some s' => some (rTo s' e)
/-- moves, how many counted, rings -/
def rLoop (G : GR) (lim : Nat) : Nat → Nat → RS → Int × Nat × Nat
  | 0, t, s => if rM s = true then ((t : Int), rC s, t) else (-2, rC s, t)
  | f + 1, t, s => if rM s = true then ((t : Int), rC s, t) else match rGrow G lim (t % 2) s with
    | none => (-2, rC s, t)
    | some s' => if rC s' = rC s then (-1, rC s', t) else rLoop G lim f (t + 1) s'
def rS0 : RS := (0, (fun _ => 0), (fun _ => 0), 0, false, (fun _ => 0), fun _ => 0)
def rRes (G : GR) (r g lim : Nat) : Int × Nat × Nat := match rFind lim 0 (rFrom rS0 0) r with
  | none => (-2, 0, 0)
  | some s => match rFind lim 1 (rFrom (rTo s 0) 1) g with
    | none => (-2, 0, 0)
    | some s' => rLoop G lim lim 0 (rTo s' 1)
def rInv (V : Nat → Prop) (lim : Nat) (s : RS) : Prop := (∀ i j, i < rN s → j < rN s → rR s i = rR s j → i = j) ∧ (∀ i, i < rN s → V (rR s i) ∧ rF s i < 4 ∧ ¬ rF s i = 0) ∧ rN s ≤ rC s ∧ rC s ≤ lim ∧ ∀ e, rA s e ≤ rN s ∧ rB s e ≤ rN s
theorem find_ok {V : Nat → Prop} {lim e r : Nat} {s s' : RS} (h : rInv V lim s) (he : e < 2) (hV : V r) (hs : rFind lim e s r = some s') : rInv V lim s' ∧ rC s ≤ rC s' ∧ rN s ≤ rN s' ∧ (∀ i, i < rN s → rR s' i = rR s i) ∧ rA s' = rA s ∧ rB s' = rB s := by
  obtain ⟨h1, h2, h3, h4, h5⟩ := h
  have fl := fi_le (rR s) r (rN s)
  have or4 : ∀ x : Nat, x < 4 → x ||| 2 ^ e < 4 ∧ ¬ x ||| 2 ^ e = 0 := fun x hx => by
    refine ⟨Nat.or_lt_two_pow (n := 2) hx (Nat.pow_lt_pow_right (by omega) he), fun z => ?_⟩
    have : (x ||| 2 ^ e).testBit e = true := by rw [Nat.testBit_or, Nat.testBit_two_pow_self, Bool.or_true]
    rw [z, Nat.zero_testBit] at this; cases this
  unfold rFind at hs
  by_cases cn : fi (rR s) r (rN s) = rN s
  · have no := fi_no cn
    have ep : rPut s r = (rN s + 1, un (rR s) (rN s) r, un (rF s) (rN s) 0, rC s, rM s, rA s, rB s) := if_pos cn
    rw [ep, cn] at hs
    have t0 : (rF ((rN s + 1, un (rR s) (rN s) r, un (rF s) (rN s) 0, rC s, rM s, rA s, rB s) : RS) (rN s)).testBit e = false := by
      show (un (rF s) (rN s) 0 (rN s)).testBit e = false
      rw [un_eq, Nat.zero_testBit]
    rw [t0, if_neg Bool.false_ne_true] at hs
    by_cases c2 : lim ≤ rC s
    · rw [if_pos c2] at hs; cases hs
    · rw [if_neg c2] at hs
      injection hs with hs
      subst hs
      refine ⟨⟨fun i j hi hj => ?_, fun i hi => ?_, ?_, ?_, fun e' => ?_⟩, by show rC s ≤ rC s + 1; omega, by show rN s ≤ rN s + 1; omega, fun i hi => un_ne (by omega), rfl, rfl⟩
      · have hi' : i < rN s + 1 := hi
        have hj' : j < rN s + 1 := hj
        show un (rR s) (rN s) r i = un (rR s) (rN s) r j → i = j
        by_cases a : i = rN s <;> by_cases b : j = rN s
        · intro _; omega
        · rw [a, un_eq, un_ne b]; intro q; exact absurd q.symm (no j (by omega))
        · rw [b, un_eq, un_ne a]; intro q; exact absurd q (no i (by omega))
        · rw [un_ne a, un_ne b]; exact h1 i j (by omega) (by omega)
      · have hi' : i < rN s + 1 := hi
        show V (un (rR s) (rN s) r i) ∧ un (un (rF s) (rN s) 0) (rN s) (un (rF s) (rN s) 0 (rN s) ||| 2 ^ e) i < 4 ∧ ¬ un (un (rF s) (rN s) 0) (rN s) (un (rF s) (rN s) 0 (rN s) ||| 2 ^ e) i = 0
        by_cases a : i = rN s
        · rw [a, un_eq, un_eq, un_eq]; exact ⟨hV, or4 0 (by omega)⟩
        · rw [un_ne a, un_ne a, un_ne a]; exact h2 i (by omega)
      · show rN s + 1 ≤ rC s + 1
        omega
      · show rC s + 1 ≤ lim
        omega
      · have := h5 e'
        exact ⟨by show rA s e' ≤ rN s + 1; omega, by show rB s e' ≤ rN s + 1; omega⟩
  · have ep : rPut s r = s := if_neg cn
    rw [ep] at hs
    by_cases c1 : (rF s (fi (rR s) r (rN s))).testBit e = true
    · rw [if_pos c1] at hs
      injection hs with hs
      subst hs
      exact ⟨⟨h1, h2, h3, h4, h5⟩, Nat.le_refl _, Nat.le_refl _, fun _ _ => rfl, rfl, rfl⟩
    · rw [if_neg c1] at hs
      by_cases c2 : lim ≤ rC s
      · rw [if_pos c2] at hs; cases hs
      · rw [if_neg c2] at hs
        injection hs with hs
        subst hs
        refine ⟨⟨h1, fun i hi => ?_, by show rN s ≤ rC s + 1; omega, by show rC s + 1 ≤ lim; omega, h5⟩, by show rC s ≤ rC s + 1; omega, Nat.le_refl _, fun _ _ => rfl, rfl, rfl⟩
        show V (rR s i) ∧ un (rF s) (fi (rR s) r (rN s)) (rF s (fi (rR s) r (rN s)) ||| 2 ^ e) i < 4 ∧ ¬ un (rF s) (fi (rR s) r (rN s)) (rF s (fi (rR s) r (rN s)) ||| 2 ^ e) i = 0
        have hi' : i < rN s := hi
        by_cases a : i = fi (rR s) r (rN s)
        · rw [a, un_eq]
          exact ⟨(h2 _ (by omega)).1, or4 _ (h2 _ (by omega)).2.1⟩
        · rw [un_ne a]; exact h2 i hi'
