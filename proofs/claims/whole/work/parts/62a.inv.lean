/-! the reference's invariant -/
def MK (w : jW) (g : Nat → Int) (k : Nat × (Nat → Nat)) : Prop := g 17 = k.1 ∧ ∃ bk, w[110]? = some (zA 200 bk) ∧ ∀ i, i < k.1 → bk (k.1 - 1 - i) = ((3 - k.2 i : Nat) : Int)
def MM (w : jW) (mc : (Nat → Nat) × (Nat → Nat → Nat)) : Prop := (∃ mm, w[111]? = some (zA 4 mm) ∧ ∀ k, k < 4 → mm k = (mc.1 k : Nat)) ∧ ∃ ml, w[112]? = some (zA 32 ml) ∧ ∀ k, k < 4 → ∀ j, j < mc.1 k → ml (8 * k + j) = (mc.2 k j : Nat)
def MG (w : jW) (n : Nat) (im : Nat → Option (LI × AI)) : Prop := (∃ p, w[117]? = some (bA 2 p) ∧ ∀ k, k < 2 → p k = (im k).isSome) ∧ ∃ f1 f2 f3 p4, w[113]? = some (zA 32 f1) ∧ w[114]? = some (zA 32 f2) ∧ w[115]? = some (zA 32 f3) ∧ w[116]? = some (bA 32 p4) ∧ ∀ k, k < 2 → ∀ y, im k = some y → ∀ j, j < n → f1 (16 * k + j) = (y.1.1 j : Nat) ∧ f2 (16 * k + j) = (y.2.1 j : Nat) ∧ f3 (16 * k + j) = (y.2.2.1 j : Nat) ∧ p4 (16 * k + j) = y.2.2.2.testBit j
def MW (w : jW) (g : Nat → Int) (y : Nat × (Nat → Int)) (r : Nat × Nat × Nat) : Prop := (g 46 = y.1 ∧ g 47 = r.1 ∧ g 48 = r.2.1 ∧ g 49 = r.2.2) ∧ ∃ f, w[137]? = some (zA 4101 f) ∧ ∀ j, j < y.1 → f j = y.2 j
/-- the cells that hold nothing that lasts: their kinds and lengths -/
def rwS (i : Nat) : Nat × Nat := if i = 118 then (1, 16) else if i = 119 then (1, 16) else if i = 120 then (1, 16) else if i = 121 then (0, 4) else if i = 122 then (0, 4) else if i = 123 then (0, 6) else if i = 124 then (0, 2) else if i = 125 then (0, 13122) else if i = 126 then (0, 4) else if i = 127 then (0, 16) else if i = 128 then (0, 65616) else if i = 129 then (0, 4101) else if i = 130 then (0, 4101) else if i = 131 then (0, 4101) else if i = 132 then (0, 4101) else if i = 133 then (0, 16384) else if i = 134 then (2, 4101) else if i = 135 then (1, 4101) else if i = 136 then (0, 16) else if i = 137 then (0, 4101) else if i = 138 then (0, 4101) else if i = 139 then (0, 1001) else if i = 140 then (0, 1001) else if i = 141 then (0, 1001) else if i = 142 then (0, 8202) else if i = 143 then (0, 720) else if i = 144 then (0, 2880) else if i = 145 then (0, 2880) else if i = 146 then (0, 720) else (0, 720)
def La (w : jW) (a N : Nat) : Prop := ∃ f : Nat → Int64, w[a]? = some (lA N f)
def RawC (w : jW) (i : Nat) : Prop := if (rwS i).1 = 0 then Za w i (rwS i).2 else if (rwS i).1 = 1 then Ba w i (rwS i).2 else La w i (rwS i).2
def MR (w : jW) : Prop := ∀ i, 118 ≤ i → i < 148 → RawC w i
theorem La.fr {w w1 : jW} {a N : Nat} (h : La w a N) (e : w1[a]? = w[a]?) : La w1 a N := by
  obtain ⟨f, hf⟩ := h
  exact ⟨f, e.trans hf⟩
theorem RawC.fr {w w1 : jW} {i : Nat} (h : RawC w i) (e : w1[i]? = w[i]?) : RawC w1 i := by
  unfold RawC at *
  split
  · rw [if_pos ‹_›] at h; exact h.fr e
  · rw [if_neg ‹_›] at h
    split
    · rw [if_pos ‹_›] at h; exact h.fr e
    · rw [if_neg ‹_›] at h; exact h.fr e
theorem MR.fr {w w1 : jW} (h : MR w) (e : ∀ i, 118 ≤ i → i < 148 → w1[i]? = w[i]?) : MR w1 := fun i h1 h2 => (h i h1 h2).fr (e i h1 h2)
/-- some cells are new -/
theorem MR.up {w w1 : jW} (h : MR w) (P : Nat → Prop) (e : ∀ i, 118 ≤ i → i < 148 → ¬ P i → w1[i]? = w[i]?) (hp : ∀ i, 118 ≤ i → i < 148 → P i → RawC w1 i) : MR w1 := fun i h1 h2 =>
  Classical.byCases (fun c : P i => hp i h1 h2 c) (fun c => (h i h1 h2).fr (e i h1 h2 c))
def MIg (w : jW) (g : Nat → Int) (S : ST) : Prop := MB w g (xB S) (xR S) (xC S) (xM S) ∧ Row w 106 (xN S) (xY S).1 ∧ MA w (xN S) (xA S) ∧ g 13 = xL S ∧ MK w g (xK S) ∧ MM w (xMc S) ∧ MG w (xN S) (xI S) ∧ MPr w g (xN S) (xPr S) ∧ MW w g (xWy S) (xRp S) ∧ MR w
def MI (w : jW) (S : ST) : Prop := ∃ g, w[100]? = some (mO g) ∧ MIg w g S
abbrev kP (i : Nat) : Prop := 100 ≤ i ∧ i < 148
/-- fields that last -/
def gEq (g g1 : Nat → Int) : Prop := g1 5 = g 5 ∧ g1 6 = g 6 ∧ g1 7 = g 7 ∧ g1 13 = g 13 ∧ g1 17 = g 17 ∧ g1 32 = g 32 ∧ g1 46 = g 46 ∧ g1 47 = g 47 ∧ g1 48 = g 48 ∧ g1 49 = g 49
theorem gEq.rf (g : Nat → Int) : gEq g g := ⟨rfl, rfl, rfl, rfl, rfl, rfl, rfl, rfl, rfl, rfl⟩
theorem gEq.tr {g g1 g2 : Nat → Int} (h : gEq g g1) (h2 : gEq g1 g2) : gEq g g2 := by
  obtain ⟨a1, a2, a3, a4, a5, a6, a7, a8, a9, a10⟩ := h
  obtain ⟨b1, b2, b3, b4, b5, b6, b7, b8, b9, b10⟩ := h2
  exact ⟨b1.trans a1, b2.trans a2, b3.trans a3, b4.trans a4, b5.trans a5, b6.trans a6, b7.trans a7, b8.trans a8, b9.trans a9, b10.trans a10⟩
theorem gEq.up8 {g : Nat → Int} {v : Int} : gEq g (up g 8 v) := ⟨rfl, rfl, rfl, rfl, rfl, rfl, rfl, rfl, rfl, rfl⟩
section MIF
variable {w w1 : jW} {g g1 : Nat → Int}
theorem MK.fr {k : Nat × (Nat → Nat)} (h : MK w g k) (e : w1[110]? = w[110]?) (e17 : g1 17 = g 17) : MK w1 g1 k := by
  obtain ⟨h1, bk, h2, h3⟩ := h
  exact ⟨e17.trans h1, bk, e.trans h2, h3⟩
theorem MM.fr {mc : (Nat → Nat) × (Nat → Nat → Nat)} (h : MM w mc) (e1 : w1[111]? = w[111]?) (e2 : w1[112]? = w[112]?) : MM w1 mc := by
  obtain ⟨⟨mm, h1, h2⟩, ml, h3, h4⟩ := h
  exact ⟨⟨mm, e1.trans h1, h2⟩, ml, e2.trans h3, h4⟩
theorem MG.fr {n : Nat} {im : Nat → Option (LI × AI)} (h : MG w n im) (e : ∀ i, 113 ≤ i → i < 118 → w1[i]? = w[i]?) : MG w1 n im := by
  obtain ⟨⟨p, h1, h2⟩, f1, f2, f3, p4, h3, h4, h5, h6, h7⟩ := h
  exact ⟨⟨p, (e _ (by omega) (by omega)).trans h1, h2⟩, f1, f2, f3, p4, (e _ (by omega) (by omega)).trans h3, (e _ (by omega) (by omega)).trans h4, (e _ (by omega) (by omega)).trans h5, (e _ (by omega) (by omega)).trans h6, h7⟩
theorem MW.fr {y : Nat × (Nat → Int)} {r : Nat × Nat × Nat} (h : MW w g y r) (e : w1[137]? = w[137]?) (e1 : g1 46 = g 46) (e2 : g1 47 = g 47) (e3 : g1 48 = g 48) (e4 : g1 49 = g 49) : MW w1 g1 y r := by
  obtain ⟨⟨h1, h2, h3, h4⟩, f, h5, h6⟩ := h
  exact ⟨⟨e1.trans h1, e2.trans h2, e3.trans h3, e4.trans h4⟩, f, e.trans h5, h6⟩
/-- only scratch cells have changed -/
theorem MIg.keep {S : ST} (h : MIg w g S) (e : ∀ i, 101 ≤ i → i < 118 → w1[i]? = w[i]?) (e2 : ∀ i, 123 ≤ i → i < 126 → w1[i]? = w[i]?) (e3 : w1[137]? = w[137]?) (hg : gEq g g1) (hr : MR w1) : MIg w1 g1 S := by
  obtain ⟨h1, h2, h3, h4, h5, h6, h7, h8, h9, h10⟩ := h
  obtain ⟨a1, a2, a3, a4, a5, a6, a7, a8, a9, a10⟩ := hg
  exact ⟨h1.fr (fun i _ _ => e i (by omega) (by omega)) a1 a2 a3, h2.fr (e _ (by omega) (by omega)), h3.fr (fun i _ _ => e i (by omega) (by omega)), a4.trans h4, h5.fr (e _ (by omega) (by omega)) a5, h6.fr (e _ (by omega) (by omega)) (e _ (by omega) (by omega)), h7.fr (fun i _ _ => e i (by omega) (by omega)), h8.fr e2 a6, h9.fr e3 a7 a8 a9 a10, hr⟩
theorem MIg.thr {S : ST} (h : MIg w g S) (f : frM w w1) (hg : gEq g g1) : MIg w1 g1 S := h.keep (fun i _ _ => f.2 i (by omega)) (fun i _ _ => f.2 i (by omega)) (f.2 _ (by omega)) hg (h.2.2.2.2.2.2.2.2.2.fr (fun i _ _ => f.2 i (by omega)))
theorem frM.k (f : frM w w1) : frP kP w w1 := frP_up f (fun i hi => by subst hi; decide)
end MIF
