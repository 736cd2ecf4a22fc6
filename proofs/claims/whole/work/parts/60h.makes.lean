/-! the reference: makes -/
def Za (w : jW) (a N : Nat) : Prop := ∃ f : Nat → Int, w[a]? = some (zA N f)
def Ba (w : jW) (a N : Nat) : Prop := ∃ p : Nat → Bool, w[a]? = some (bA N p)
theorem Za.fr {w w1 : jW} {a N : Nat} (h : Za w a N) (e : w1[a]? = w[a]?) : Za w1 a N := by
  obtain ⟨f, hf⟩ := h
  exact ⟨f, e.trans hf⟩
theorem Ba.fr {w w1 : jW} {a N : Nat} (h : Ba w a N) (e : w1[a]? = w[a]?) : Ba w1 a N := by
  obtain ⟨f, hf⟩ := h
  exact ⟨f, e.trans hf⟩
theorem ZR.za {w : jW} {a N n : Nat} {f : Nat → Int} (h : ZR w a N n f) : Za w a N := by
  obtain ⟨f', hf, -⟩ := h
  exact ⟨f', hf⟩
section MK4
variable {w : jW} {g : Nat → Int} {Q : (Option Value ⊕ Nat) → jW → Prop} {R C m : Nat} {B : BD}
theorem makes_ok (h : w[100]? = some (mO g)) (h5 : g 5 = R) (h6 : g 6 = C) (hBr : BrOk B R C m) {iw : Nat → Bool} (h105 : w[105]? = some (bA 16 iw)) (hiw : ∀ c, c < 16 → iw c = (decide (c < R * C) && m.testBit c))
    (hz : Za w 101 16 ∧ Za w 102 16 ∧ Za w 103 64 ∧ Za w 104 256 ∧ Za w 106 16 ∧ Za w 107 16 ∧ Za w 108 16 ∧ Ba w 109 16 ∧ Za w 111 4 ∧ Ba w 117 2)
    (hQ : ∀ w1 g1, frP mkP w w1 → w1[100]? = some (mO g1) → (∀ k, k < 16 → ¬ k = 7 → g1 k = g k) → (g1 17 = 0 ∧ g1 32 = 0 ∧ g1 46 = 0 ∧ g1 47 = 0 ∧ g1 48 = 0 ∧ g1 49 = 0) → MB w1 g1 B R C m → Row w1 106 (bN B) (tO (bN B)) → MA w1 (bN B) (vO (bN B), (fun _ => 1), 0) → ZR w1 111 4 4 (fun _ => 0) → (∃ kp, w1[117]? = some (bA 2 kp) ∧ kp 0 = false ∧ kp 1 = false) → Q (.inl none) w1) : jmw jm163 [.ref 100] w Q := by
  have n16 := hBr.n16
  obtain ⟨⟨co, z1⟩, ⟨op, z2⟩, ⟨nr, z3⟩, ⟨st, z4⟩, ⟨f6, z6⟩, ⟨f7, z7⟩, ⟨f8, z8⟩, ⟨f9, z9⟩, ⟨mm, z11⟩, ⟨kp, z17⟩⟩ := hz
  refine mk1_ok h h5 h6 hBr z1 z2 h105 hiw (fun w1 co1 op1 f1 c0 c1 e1 c2 e2 => ?_)
  refine mk6_ok c0 (g := up g 7 (bN B : Nat)) h5 h6 rfl hBr c1 e1 c2 e2 ((f1.2 103 (by omega)).trans z3) (fun w2 nr2 f2 c3 e3 => ?_)
  have o2 : ∀ i, ¬ (i = 100 ∨ i = 101 ∨ i = 102 ∨ i = 103) → w2[i]? = w[i]? := fun i hi => (f2.2 i (by omega)).trans (f1.2 i (by omega))
  have d0 := (f2.2 100 (by omega)).trans c0
  refine mk12_ok d0 rfl hBr c3 e3 ((o2 104 (by omega)).trans z4) (fun w3 st3 f3 c4 e4 => ?_)
  have o3 : ∀ i, ¬ (100 ≤ i ∧ i < 105) → w3[i]? = w[i]? := fun i hi => (f3.2 i (by omega)).trans (o2 i (by omega))
  refine mk14_ok ((f3.2 100 (by omega)).trans d0) rfl ⟨by omega, n16.2⟩ ((o3 106 (by omega)).trans z6) ((o3 107 (by omega)).trans z7) ((o3 108 (by omega)).trans z8) ((o3 109 (by omega)).trans z9) ((o3 111 (by omega)).trans z11) ((o3 117 (by omega)).trans z17) (fun w4 g4 f4 c5 e5 zz mz kz hr ha => ?_)
  have o4 : ∀ i, ¬ mkP i → w4[i]? = w[i]? := fun i hi => by
    have hi2 : ¬ ((100 ≤ i ∧ i < 105) ∨ (106 ≤ i ∧ i < 110) ∨ i = 111 ∨ i = 117) := hi
    exact (f4.2 i (by omega)).trans (o3 i (by omega))
  refine hQ w4 g4 ⟨f4.1.trans (f3.1.trans (f2.1.trans f1.1)), o4⟩ c5 (fun k hk h7 => by rw [e5 k hk, up_ne h7]) zz ⟨⟨?_, ?_, ?_⟩, ⟨co1, ?_, e1⟩, ⟨op1, ?_, fun i hi => ?_⟩, ⟨nr2, ?_, fun k hk => ?_⟩, ⟨st3, (f4.2 104 (by omega)).trans c4, e4⟩, iw, (o4 105 (by decide)).trans h105, hiw⟩ hr ha mz kz
  · rw [e5 5 (by omega)]; exact h5
  · rw [e5 6 (by omega)]; exact h6
  · rw [e5 7 (by omega)]; rfl
  · rw [f4.2 101 (by omega), f3.2 101 (by omega), f2.2 101 (by omega)]; exact c1
  · rw [f4.2 102 (by omega), f3.2 102 (by omega), f2.2 102 (by omega)]; exact c2
  · rw [e2 i hi, hBr.2.2.2.2.2.2.2.1 i hi]
  · rw [f4.2 103 (by omega), f3.2 103 (by omega)]; exact c3
  · have := e3 (k / 4) (k % 4) (by omega) (by omega)
    rwa [show 4 * (k / 4) + k % 4 = k from by omega] at this
end MK4
