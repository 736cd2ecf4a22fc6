/-! the reference: a ring grows -/
def MetI (s : RS) : Prop := rM s = true ↔ ∃ i, i < rN s ∧ (rF s i).testBit 0 = true ∧ (rF s i).testBit 1 = true
def GI (s : RS) (f : Nat → Int) (e N0 : Nat) (cu A B : Nat → Nat) : Prop := (∀ e' i, e' < 2 → i < rN s → (f (4101 * e' + i) = (cu e' : Nat) ↔ A e' ≤ i ∧ i < B e') ∧ f (4101 * e' + i) ≤ (cu e' : Nat) + (if e' = e then 1 else 0)) ∧ (rM s = false → ∀ i, i < rN s → (f (4101 * e + i) = (cu e : Nat) + 1 ↔ N0 ≤ i)) ∧ N0 ≤ rN s ∧ ∀ e', e' < 2 → B e' ≤ N0
theorem bit_c {x e : Nat} (hx : x < 4) (h0 : ¬ x = 0) (he : e < 2) (h : x.testBit e = false) : (x ||| 2 ^ e).testBit 0 = true ∧ (x ||| 2 ^ e).testBit 1 = true := by
  have h1 : x = 1 ∨ x = 2 ∨ x = 3 := by omega
  have h2 : e = 0 ∨ e = 1 := by omega
  rcases h1 with rfl | rfl | rfl <;> rcases h2 with rfl | rfl <;> first | exact ⟨by decide, by decide⟩ | exact absurd h (by decide)
theorem add_met {V : Nat → Prop} {lim e r : Nat} {s : RS} (hI : rInv V lim s) (hm : MetI s) (he : e < 2) (tb : (rF (rPut s r) (fi (rR s) r (rN s))).testBit e = false) : MetI (rAdd (rPut s r) (fi (rR s) r (rN s)) e) := by
  obtain ⟨h1, h2, h3, h4, h5⟩ := hI
  have fl := fi_le (rR s) r (rN s)
  by_cases c : fi (rR s) r (rN s) = rN s
  · have ep : rPut s r = (rN s + 1, un (rR s) (rN s) r, un (rF s) (rN s) 0, rC s, rM s, rA s, rB s) := if_pos c
    rw [ep, c]
    unfold MetI
    have eM : rM (rAdd (rN s + 1, un (rR s) (rN s) r, un (rF s) (rN s) 0, rC s, rM s, rA s, rB s) (rN s) e) = (rM s || decide (¬ un (rF s) (rN s) 0 (rN s) = 0)) := rfl
    rw [eM, un_eq, decide_eq_false (by omega), Bool.or_false]
    have eF : ∀ i, rF (rAdd (rN s + 1, un (rR s) (rN s) r, un (rF s) (rN s) 0, rC s, rM s, rA s, rB s) (rN s) e) i = if i = rN s then 0 ||| 2 ^ e else rF s i := fun i => by
      show un (un (rF s) (rN s) 0) (rN s) (un (rF s) (rN s) 0 (rN s) ||| 2 ^ e) i = _
      by_cases z : i = rN s
      · rw [z, un_eq, un_eq, if_pos rfl]
      · rw [un_ne z, un_ne z, if_neg z]
    have eN : rN (rAdd (rN s + 1, un (rR s) (rN s) r, un (rF s) (rN s) 0, rC s, rM s, rA s, rB s) (rN s) e) = rN s + 1 := rfl
    rw [eN]
    refine hm.trans ⟨fun ⟨i, a, b⟩ => ⟨i, by omega, by rw [eF, if_neg (by omega)]; exact b⟩, fun ⟨i, a, b1, b2⟩ => ?_⟩
    rw [eF] at b1 b2
    by_cases z : i = rN s
    · rw [if_pos z] at b1 b2
      exfalso
      have h2 : e = 0 ∨ e = 1 := by omega
      rcases h2 with rfl | rfl
      · exact absurd b2 (by decide)
      · exact absurd b1 (by decide)
    · rw [if_neg z] at b1 b2
      exact ⟨i, by omega, b1, b2⟩
  · have ep : rPut s r = s := if_neg c
    rw [ep] at tb ⊢
    obtain ⟨-, x4, x0⟩ := h2 (fi (rR s) r (rN s)) (by omega)
    have bc := bit_c x4 x0 he tb
    unfold MetI
    have eM : rM (rAdd s (fi (rR s) r (rN s)) e) = (rM s || decide (¬ rF s (fi (rR s) r (rN s)) = 0)) := rfl
    rw [eM, decide_eq_true x0, Bool.or_true]
    refine ⟨fun _ => ⟨fi (rR s) r (rN s), (by show fi (rR s) r (rN s) < rN s; omega), ?_⟩, fun _ => rfl⟩
    have eF : rF (rAdd s (fi (rR s) r (rN s)) e) (fi (rR s) r (rN s)) = rF s (fi (rR s) r (rN s)) ||| 2 ^ e := un_eq
    rw [eF]
    exact bc
theorem add_gi {V : Nat → Prop} {lim e r N0 : Nat} {s : RS} {f : Nat → Int} {cu A B : Nat → Nat} (hI : rInv V lim s) (hN : rN s < 2000) (h : GI s f e N0 cu A B) (he : e < 2) (hf : ∀ e i, e < 2 → i < rN s → (f (4101 * e + i) = -1 ↔ (rF s i).testBit e = false)) (tb : (rF (rPut s r) (fi (rR s) r (rN s))).testBit e = false) : GI (rAdd (rPut s r) (fi (rR s) r (rN s)) e) (rgF f s r e (cu e + 1)) e N0 cu A B := by
  obtain ⟨h1, h2, h3, h4, h5⟩ := hI
  obtain ⟨g1, g2, g3, g4⟩ := h
  have fl := fi_le (rR s) r (rN s)
  unfold rgF
  by_cases c : fi (rR s) r (rN s) = rN s
  · have ep : rPut s r = (rN s + 1, un (rR s) (rN s) r, un (rF s) (rN s) 0, rC s, rM s, rA s, rB s) := if_pos c
    rw [if_pos c, ep, c]
    have eM : rM (rAdd (rN s + 1, un (rR s) (rN s) r, un (rF s) (rN s) 0, rC s, rM s, rA s, rB s) (rN s) e) = rM s := by
      show (rM s || decide (¬ un (rF s) (rN s) 0 (rN s) = 0)) = rM s
      rw [un_eq, decide_eq_false (by omega), Bool.or_false]
    have eN : rN (rAdd (rN s + 1, un (rR s) (rN s) r, un (rF s) (rN s) 0, rC s, rM s, rA s, rB s) (rN s) e) = rN s + 1 := rfl
    have eOld : ∀ e' i, e' < 2 → i < rN s → up (up (up f (rN s) (-1)) (4101 + rN s) (-1)) (4101 * e + rN s) ((cu e + 1 : Nat) : Int) (4101 * e' + i) = f (4101 * e' + i) := fun e' i he' hi => by
      rw [up_ne (by omega), up_ne (by omega), up_ne (by omega)]
    have eNew : ∀ e', e' < 2 → up (up (up f (rN s) (-1)) (4101 + rN s) (-1)) (4101 * e + rN s) ((cu e + 1 : Nat) : Int) (4101 * e' + rN s) = if e' = e then ((cu e + 1 : Nat) : Int) else -1 := fun e' he' => by
      by_cases y : e' = e
      · rw [y, up_eq, if_pos rfl]
      · rw [up_ne (by omega), if_neg y]
        by_cases y0 : e' = 0
        · rw [y0, up_ne (by omega), show 4101 * 0 + rN s = rN s from by omega, up_eq]
        · rw [show 4101 * e' + rN s = 4101 + rN s from by omega, up_eq]
    refine ⟨fun e' i he' hi => ?_, fun hm i hi => ?_, by rw [eN]; omega, g4⟩
    · rw [eN] at hi
      by_cases z : i = rN s
      · have := g4 e' he'
        rw [z, eNew e' he']
        by_cases y : e' = e
        · rw [if_pos y, if_pos y, y]
          rw [y] at this
          exact ⟨⟨fun q => by omega, fun q => by omega⟩, by omega⟩
        · rw [if_neg y, if_neg y]
          exact ⟨⟨fun q => by omega, fun q => by omega⟩, by omega⟩
      · rw [eOld e' i he' (by omega)]
        exact g1 e' i he' (by omega)
    · rw [eN] at hi
      rw [eM] at hm
      by_cases z : i = rN s
      · rw [z, eNew e he, if_pos rfl]
        exact ⟨fun _ => g3, fun _ => by omega⟩
      · rw [eOld e i he (by omega)]
        exact g2 hm i (by omega)
  · have ep : rPut s r = s := if_neg c
    rw [if_neg c]
    rw [ep] at tb ⊢
    have lt : fi (rR s) r (rN s) < rN s := by omega
    obtain ⟨-, x4, x0⟩ := h2 _ lt
    have eM : rM (rAdd s (fi (rR s) r (rN s)) e) = true := by
      show (rM s || decide (¬ rF s (fi (rR s) r (rN s)) = 0)) = true
      rw [decide_eq_true x0, Bool.or_true]
    have fm := (hf e _ he lt).mpr tb
    have eN : rN (rAdd s (fi (rR s) r (rN s)) e) = rN s := rfl
    refine ⟨fun e' i he' hi => ?_, fun hm => by (rw [eM] at hm; cases hm), g3, g4⟩
    rw [eN] at hi
    have old := g1 e' i he' hi
    by_cases z : e' = e ∧ i = fi (rR s) r (rN s)
    · obtain ⟨z1, z2⟩ := z
      rw [z1, z2, up_eq, if_pos rfl]
      rw [z1, z2, fm] at old
      have o1 := old.1
      refine ⟨⟨fun q => by omega, fun q => ?_⟩, by omega⟩
      have := o1.mpr q
      omega
    · rw [up_ne (by omega)]
      exact old
