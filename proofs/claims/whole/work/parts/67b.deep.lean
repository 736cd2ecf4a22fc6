/-! the reference: deepens -/
def DPt (w : jW) (g : Nat → Int) (S : ST) (s : DS) : Prop := (g 50 = 0 ∧ g 51 = (dK s : Nat) ∧ g 54 = byL (dL s) ∧ g 56 = 0) ∧ RowK w 136 (xN S) (dR s (dD s)) ∧ (∃ as, w[138]? = some (zA 4101 as) ∧ ∀ i, i < dD s → as i = (dW s i : Nat)) ∧ (∃ nx, w[139]? = some (zA 1001 nx) ∧ ∀ i, i ≤ dD s → nx i = (dX s i : Nat)) ∧ (∃ cs, w[140]? = some (zA 1001 cs) ∧ ∀ i, i ≤ dD s → cs i = (dC s i : Nat)) ∧ ∃ fr, w[141]? = some (zA 1001 fr) ∧ fr 0 = -1 ∧ ∀ i, i < dD s → fr (i + 1) = (gpK S (dR s i) : Nat)
abbrev deP (i : Nat) : Prop := i = 100 ∨ i = 121 ∨ i = 122 ∨ i = 136 ∨ (138 ≤ i ∧ i < 142)
def gD (g g1 : Nat → Int) : Prop := ∀ k, ¬ (k = 50 ∨ k = 51 ∨ k = 54 ∨ k = 56) → g1 k = g k
theorem gD.rf (g : Nat → Int) : gD g g := fun _ _ => rfl
theorem gD.tr {g g1 g2 : Nat → Int} (h : gD g g1) (h2 : gD g1 g2) : gD g g2 := fun k hk => (h2 k hk).trans (h k hk)
theorem gD.eq {g g1 : Nat → Int} (h : gD g g1) : gEq g g1 := ⟨h _ (by omega), h _ (by omega), h _ (by omega), h _ (by omega), h _ (by omega), h _ (by omega), h _ (by omega), h _ (by omega), h _ (by omega), h _ (by omega)⟩
theorem gD.up {g g1 : Nat → Int} (h : gD g g1) {k : Nat} {v : Int} (hk : k = 50 ∨ k = 51 ∨ k = 54 ∨ k = 56) : gD g (up g1 k v) := fun j hj => (up_ne (fun e : j = k => hj (by rw [e]; exact hk))).trans (h j hj)
theorem back_iff {S : ST} (hS : SOk S) {k lim bd : Nat} {s : DS} (hI : dInv (xGr S k) (VR (xN S)) lim bd s) {d q : Nat} (hd : d < 4) (eq : bNB (xB S) (4 * gpK S (dR s (dD s)) + d) = (q : Int)) {fr : Nat → Int} (h0 : fr 0 = -1) (hf : ∀ i, i < dD s → fr (i + 1) = (gpK S (dR s i) : Nat)) : ((q : Int) = fr (dD s)) ↔ (0 < dD s ∧ d = 3 - dW s (dD s - 1)) := by
  obtain ⟨i1, i2, i3, i4, i5⟩ := hI
  by_cases c : dD s = 0
  · rw [c, h0]
    exact ⟨fun z => by omega, fun z => by omega⟩
  · obtain ⟨e, he⟩ : ∃ e, dD s = e + 1 := ⟨dD s - 1, by omega⟩
    have hfe := hf e (by omega)
    obtain ⟨w4, c', hc⟩ := i4 e (by omega)
    have hV := (i3 e (by omega)).1
    have hV1 := (i3 (e + 1) (by omega)).1
    rw [he] at eq ⊢
    rw [hfe]
    obtain ⟨-, -, -, -, bk, -⟩ := (hS.cons k).1 _ _ _ _ hV w4 hc
    rcases gp_nb (k := k) hS hV1 (show 3 - dW s e < 4 by omega) with ⟨-, z⟩ | ⟨q', r', c'', y1, y2, y3, y4⟩
    · rw [bk] at z; cases z
    · rw [bk] at y3
      injection y3 with y3
      injection y3 with y3 y5
      subst y3
      rw [y4]
      rw [show e + 1 - 1 = e from rfl]
      constructor
      · intro z
        have : q = q' := by omega
        subst this
        exact ⟨by omega, nb_un hS.good (gp_lt hS hV1) hd (by omega) eq y1⟩
      · rintro ⟨-, z⟩
        subst z
        rw [y1] at eq
        omega
section KD
variable {w : jW} {g : Nat → Int} {S : ST} {Q : (Option Value ⊕ Nat) → jW → Prop} {r k : Nat}
/-- the end of a step that did not go on: the move is undone -/
theorem dUndo_ok (hS : SOk S) {w1 : jW} {g1 : Nat → Int} (X1 : SX w1 g1 S) {r r' d c : Nat} (row : RowK w1 136 (xN S) r') (hV : VR (xN S) r) (hd : d < 4) (hg : gN (xGr S k) r d = some (r', c)) (hQ : ∀ w2, frP (fun i => i = 136) w1 w2 → SX w2 g1 S → RowK w2 136 (xN S) r → ∀ v : Int, Q (.inl (some (.int (zI v)))) w2) : jmw jm187 [.ref 100, .ref 136, .int (zI ((3 - d : Nat) : Int))] w1 Q := by
  obtain ⟨-, -, -, -, bk, -⟩ := (hS.cons k).1 _ _ _ _ hV hd hg
  refine kGoes_ok (k := k) hS X1 (by omega) row (show 3 - d < 4 by omega) (fun z => ?_) (fun r2 c2 w2 hy f2 row2 _ => ?_)
  · rw [bk] at z; cases z
  · rw [bk] at hy
    injection hy with hy
    injection hy with hy _
    subst hy
    exact hQ w2 f2 (X1.mv f2 (fun i hi => by
      have : i = 136 := hi
      subst this
      exact ⟨by decide, z_raw row2.za rfl⟩)) row2 _
theorem RowX {w1 w2 : jW} {g1 : Nat → Int} {r : Nat} (X1 : SX w1 g1 S) (f2 : frP (fun i => i = 136) w1 w2) (row2 : RowK w2 136 (xN S) r) : SX w2 g1 S := X1.mv f2 (fun i hi => by
  have : i = 136 := hi
  subst this
  exact ⟨by decide, z_raw row2.za rfl⟩)
theorem SX.put1 {w1 : jW} {g1 : Nat → Int} {a N : Nat} {f : Nat → Int} {c : jC} (X1 : SX w1 g1 S) (h1 : w1[a]? = some c) (hs : scr a) (e : rwS a = (0, N)) : SX (w1.set a (zA N f)) g1 S := X1.mv (P := fun i => i = a) (frP_set _ rfl) (fun i hi => by
  have : i = a := hi
  subst this
  exact ⟨hs, z_raw ⟨f, by rw [jset_self, h1]; rfl⟩ e⟩)
end KD
