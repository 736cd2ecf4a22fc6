/-! the reference: states of a search -/
def RSt (w : jW) (g : Nat → Int) (n : Nat) (G : GR) (B : BS) : Prop := g 42 = sN B ∧ (∃ tt, w[128]? = some (zA 65616 tt) ∧ ∀ i, i < sN B → ∃ tl pl, Arr n tl pl ∧ rkT n tl = sR B i ∧ ∀ k, k < n → tt (16 * i + k) = (tl k : Nat)) ∧ (∃ c, w[129]? = some (zA 4101 c) ∧ ∀ i, i < sN B → c i = (sC B i : Nat)) ∧ (∃ e, w[130]? = some (zA 4101 e) ∧ ∀ i, i < sN B → e i = (gH G (sR B i) : Nat)) ∧ (∃ p, w[131]? = some (zA 4101 p) ∧ ∀ i, i < sN B → p i = sP B i) ∧ (∃ m, w[132]? = some (zA 4101 m) ∧ ∀ i, i < sN B → m i = sM B i) ∧ (∃ t, w[135]? = some (bA 4101 t) ∧ ∀ i, i < sN B → t i = !sW B i) ∧ (∃ rk, w[134]? = some (lA 4101 rk) ∧ ∀ i, i < sN B → rk i = zL (sR B i : Int)) ∧ ∃ bu hm, w[133]? = some (zA 16384 bu) ∧ HF (sN B) (sR B) hm bu
section FS
variable {w w1 : jW} {g g1 : Nat → Int} {n : Nat} {G : GR} {B : BS} {S : ST} {Q : (Option Value ⊕ Nat) → jW → Prop}
theorem RSt.fr (h : RSt w g n G B) (e : ∀ i, 128 ≤ i → i < 136 → w1[i]? = w[i]?) (eg : g1 42 = g 42) : RSt w1 g1 n G B := by
  obtain ⟨h1, ⟨tt, a1, a2⟩, ⟨c, b1, b2⟩, ⟨e', c1, c2⟩, ⟨p, d1, d2⟩, ⟨m, e1, e2⟩, ⟨t, f1, f2⟩, ⟨rk, g1, g2⟩, bu, hm, k1, k2⟩ := h
  exact ⟨eg.trans h1, ⟨tt, (e _ (by omega) (by omega)).trans a1, a2⟩, ⟨c, (e _ (by omega) (by omega)).trans b1, b2⟩, ⟨e', (e _ (by omega) (by omega)).trans c1, c2⟩, ⟨p, (e _ (by omega) (by omega)).trans d1, d2⟩, ⟨m, (e _ (by omega) (by omega)).trans e1, e2⟩, ⟨t, (e _ (by omega) (by omega)).trans f1, f2⟩, ⟨rk, (e _ (by omega) (by omega)).trans g1, g2⟩, bu, hm, (e _ (by omega) (by omega)).trans k1, k2⟩
theorem RSt.raw (h : RSt w g n G B) : ∀ i, 128 ≤ i → i < 136 → RawC w i := fun i h1 h2 => by
  obtain ⟨-, ⟨tt, a1, -⟩, ⟨c, b1, -⟩, ⟨e', c1, -⟩, ⟨p, d1, -⟩, ⟨m, e1, -⟩, ⟨t, f1, -⟩, ⟨rk, g1, -⟩, bu, hm, k1, -⟩ := h
  rcases (show i = 128 ∨ i = 129 ∨ i = 130 ∨ i = 131 ∨ i = 132 ∨ i = 133 ∨ i = 134 ∨ i = 135 by omega) with rfl | rfl | rfl | rfl | rfl | rfl | rfl | rfl
  · exact z_raw ⟨_, a1⟩ rfl
  · exact z_raw ⟨_, b1⟩ rfl
  · exact z_raw ⟨_, c1⟩ rfl
  · exact z_raw ⟨_, d1⟩ rfl
  · exact z_raw ⟨_, e1⟩ rfl
  · exact z_raw ⟨_, k1⟩ rfl
  · exact l_raw ⟨_, g1⟩ rfl
  · exact b_raw ⟨_, f1⟩ rfl
abbrev fsP (i : Nat) : Prop := i = 100 ∨ i = 121 ∨ i = 122 ∨ (128 ≤ i ∧ i < 136)
/-- where a state is -/
theorem fi_of {r i : Nat} {hm : Nat → Nat} {bu : Nat → Int} (h : HF (sN B) (sR B) hm bu) (hi : i < sN B) (e : sR B i = r) : fi (sR B) r (sN B) = i := fi_is hi e h.2.2.1
end FS
