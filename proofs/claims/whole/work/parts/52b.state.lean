/-! the tray as a whole: what it is, by numbers alone; how it lies in the class's cells -/
/-- what lies where; goals, weights, free ones -/
abbrev LI : Type := (Nat → Nat) × (Nat → Nat)
abbrev AI : Type := (Nat → Nat) × (Nat → Nat) × Nat
/-- the board with rows, columns, walls; what lies; the aim; parts; limit; moves back; macros; images; way; report -/
abbrev ST : Type := (BD × Nat × Nat × Nat) × LI × AI × PR × Nat × (Nat × (Nat → Nat)) × ((Nat → Nat) × (Nat → Nat → Nat)) × (Nat → Option (LI × AI)) × (Nat × (Nat → Int)) × (Nat × Nat × Nat)
def xB (S : ST) : BD := S.1.1
def xR (S : ST) : Nat := S.1.2.1
def xC (S : ST) : Nat := S.1.2.2.1
def xM (S : ST) : Nat := S.1.2.2.2
def xY (S : ST) : LI := S.2.1
def xA (S : ST) : AI := S.2.2.1
def xPr (S : ST) : PR := S.2.2.2.1
def xL (S : ST) : Nat := S.2.2.2.2.1
def xK (S : ST) : Nat × (Nat → Nat) := S.2.2.2.2.2.1
def xMc (S : ST) : (Nat → Nat) × (Nat → Nat → Nat) := S.2.2.2.2.2.2.1
def xI (S : ST) : Nat → Option (LI × AI) := S.2.2.2.2.2.2.2.1
def xWy (S : ST) : Nat × (Nat → Int) := S.2.2.2.2.2.2.2.2.1
def xRp (S : ST) : Nat × Nat × Nat := S.2.2.2.2.2.2.2.2.2
def uY (S : ST) (y : LI) : ST := (S.1, y, S.2.2)
def uA (S : ST) (a : AI) : ST := (S.1, S.2.1, a, S.2.2.2)
def uPr (S : ST) (p : PR) : ST := (S.1, S.2.1, S.2.2.1, p, S.2.2.2.2)
def uL (S : ST) (l : Nat) : ST := (S.1, S.2.1, S.2.2.1, S.2.2.2.1, l, S.2.2.2.2.2)
def uK (S : ST) (k : Nat × (Nat → Nat)) : ST := (S.1, S.2.1, S.2.2.1, S.2.2.2.1, S.2.2.2.2.1, k, S.2.2.2.2.2.2)
def uMc (S : ST) (m : (Nat → Nat) × (Nat → Nat → Nat)) : ST := (S.1, S.2.1, S.2.2.1, S.2.2.2.1, S.2.2.2.2.1, S.2.2.2.2.2.1, m, S.2.2.2.2.2.2.2)
def uI (S : ST) (i : Nat → Option (LI × AI)) : ST := (S.1, S.2.1, S.2.2.1, S.2.2.2.1, S.2.2.2.2.1, S.2.2.2.2.2.1, S.2.2.2.2.2.2.1, i, S.2.2.2.2.2.2.2.2)
def uWy (S : ST) (y : Nat × (Nat → Int)) : ST := (S.1, S.2.1, S.2.2.1, S.2.2.2.1, S.2.2.2.2.1, S.2.2.2.2.2.1, S.2.2.2.2.2.2.1, S.2.2.2.2.2.2.2.1, y, S.2.2.2.2.2.2.2.2.2)
def uRp (S : ST) (r : Nat × Nat × Nat) : ST := (S.1, S.2.1, S.2.2.1, S.2.2.2.1, S.2.2.2.2.1, S.2.2.2.2.2.1, S.2.2.2.2.2.2.1, S.2.2.2.2.2.2.2.1, S.2.2.2.2.2.2.2.2.1, r)
def xN (S : ST) : Nat := bN (xB S)
/-- an aim in order -/
def AOk (n : Nat) (a : AI) : Prop := (∃ gi, Arr n gi a.1) ∧ (∀ t, t < n → 1 ≤ a.2.1 t ∧ a.2.1 t ≤ 9) ∧ a.2.2 < 65536 ∧ ∀ t, a.2.2.testBit t = true → t < n
def BrOk (B : BD) (R C m : Nat) : Prop := (2 ≤ R ∧ R ≤ 4) ∧ (2 ≤ C ∧ C ≤ 4) ∧ m < 2 ^ (R * C) ∧ TrayOk R C m ∧ BSpec B R C m
def SOk (S : ST) : Prop := BrOk (xB S) (xR S) (xC S) (xM S) ∧ Arr (xN S) (xY S).1 (xY S).2 ∧ AOk (xN S) (xA S) ∧ PrOk (xB S) (xA S).1 (xA S).2.1 (xA S).2.2 (xPr S) ∧ qN (xPr S) ≤ 2 ∧ (1 ≤ xL S ∧ xL S ≤ 1000) ∧ ((xK S).1 ≤ 200 ∧ ∀ i, i < (xK S).1 → (xK S).2 i < 4) ∧ (∀ k, k < 4 → (xMc S).1 k ≤ 8 ∧ ∀ j, j < (xMc S).1 k → (xMc S).2 k j < 4) ∧ (∀ k, k < 2 → ∀ y, xI S k = some y → Arr (xN S) y.1.1 y.1.2 ∧ AOk (xN S) y.2) ∧ (xWy S).1 < 1000
theorem SOk.good {S : ST} (h : SOk S) : BGood (xB S) := by
  obtain ⟨⟨h1, h2, h3, h4, h5⟩, _⟩ := h
  exact ⟨xR S, xC S, xM S, h1, h2, h3, h4, h5⟩
theorem SOk.rng {S : ST} (h : SOk S) : 3 ≤ xN S ∧ xN S ≤ 16 := h.good.rng
abbrev stC (rn rc wl lim : Nat) : jC := .inr (11, [.ref 1, .ref 30, .ref 33, .ref 36, .ref 37, .ref 38, .ref 39, .ref 44, .ref 45, .int (zI rn), .int (zI rc), .ref 46, .ref 58, .ref 65, .ref 76, .ref 86, .int (zI wl), .ref 87, .int (zI lim)])
/-- the kept images -/
def CKp (w : jW) (n : Nat) (im : Nat → Option (LI × AI)) : Prop := (∃ rf : Nat → Option Nat, w[36]? = some (.inl (3, 2, .inr (.inr rf))) ∧ rf 0 = some 88 ∧ rf 1 = some 94) ∧ (∃ rf : Nat → Option Nat, w[37]? = some (.inl (4, 2, .inr (.inr rf))) ∧ rf 0 = some 91 ∧ rf 1 = some 97) ∧ (∃ p : Nat → Bool, w[38]? = some (bA 2 p) ∧ ∀ k, k < 2 → p k = (im k).isSome) ∧
  ∀ k, k < 2 → (∃ m tl pl pk, LieAt w (88 + 6 * k) m tl pl pk) ∧ (∃ m go we fb, AimAt w (91 + 6 * k) m go we fb) ∧ ∀ y, im k = some y → (∃ pk, LieR w (88 + 6 * k) n y.1.1 y.1.2 pk) ∧ AimAt w (91 + 6 * k) n y.2.1 y.2.2.1 y.2.2.2
def CMc (w : jW) (m : (Nat → Nat) × (Nat → Nat → Nat)) : Prop := (∃ rf : Nat → Option Nat, w[39]? = some (.inl (6, 4, .inr (.inr rf))) ∧ ∀ k, k < 4 → rf k = some (40 + k)) ∧ (∃ ml, w[44]? = some (nA 4 ml) ∧ ∀ k, k < 4 → ml k = m.1 k) ∧ ∀ k, k < 4 → ∃ mc, w[40 + k]? = some (nA 8 mc) ∧ ∀ j, j < m.1 k → mc j = m.2 k j
def CBk (w : jW) (k : Nat × (Nat → Nat)) (wl lim : Nat) : Prop := ∃ rn rm, w[0]? = some (stC rn k.1 wl lim) ∧ rn < 200 ∧ w[45]? = some (nA 200 rm) ∧ ∀ i, i < k.1 → rm ((rn + 199 - i) % 200) = k.2 i
def CWy (w : jW) (y : Nat × (Nat → Int)) (r : Nat × Nat × Nat) : Prop := (∃ wy, w[86]? = some (zA 1000 wy) ∧ ∀ j, j < y.1 → wy j = y.2 j) ∧ ∃ rp, w[87]? = some (nA 3 rp) ∧ rp 0 = r.1 ∧ rp 1 = r.2.1 ∧ rp 2 = r.2.2
def CI (w : jW) (S : ST) : Prop := SOk S ∧ PzS w (xB S) (xA S).1 (xA S).2.1 (xA S).2.2 (xPr S) ∧ (Scr w ∧ ∃ wt K Sx, Ag w wt K Sx) ∧ (∃ pk, LieR w 30 (xN S) (xY S).1 (xY S).2 pk) ∧ Lraw w 33 ∧ CKp w (xN S) (xI S) ∧ CMc w (xMc S) ∧ CBk w (xK S) (xWy S).1 (xL S) ∧ (BFraw w ∧ DFraw w ∧ RRraw w) ∧ AsAt w (xB S) (xA S).1 (xA S).2.1 (xA S).2.2 ∧ CWy w (xWy S) (xRp S)
section FRX
variable {w w1 : jW}
theorem CKp.fr {n : Nat} {im : Nat → Option (LI × AI)} (h : CKp w n im) (e : ∀ i, (36 ≤ i ∧ i < 39) ∨ (88 ≤ i ∧ i < 100) → w1[i]? = w[i]?) : CKp w1 n im := by
  obtain ⟨⟨rf, a1, a2⟩, ⟨rf2, b1, b2⟩, ⟨p, c1, c2⟩, d⟩ := h
  refine ⟨⟨rf, (e _ (by omega)).trans a1, a2⟩, ⟨rf2, (e _ (by omega)).trans b1, b2⟩, ⟨p, (e _ (by omega)).trans c1, c2⟩, fun k hk => ?_⟩
  obtain ⟨⟨m, tl, pl, pk, d1⟩, ⟨m2, go, we, fb, d2⟩, d3⟩ := d k hk
  refine ⟨⟨m, tl, pl, pk, d1.fr (fun i _ _ => e i (by omega))⟩, ⟨m2, go, we, fb, d2.fr (fun i _ _ => e i (by omega))⟩, fun y hy => ?_⟩
  obtain ⟨⟨pk', f1⟩, f2⟩ := d3 y hy
  exact ⟨⟨pk', f1.fr (fun i _ _ => e i (by omega))⟩, f2.fr (fun i _ _ => e i (by omega))⟩
theorem CMc.fr {m : (Nat → Nat) × (Nat → Nat → Nat)} (h : CMc w m) (e : ∀ i, 39 ≤ i → i < 45 → w1[i]? = w[i]?) : CMc w1 m := by
  obtain ⟨⟨rf, a1, a2⟩, ⟨ml, b1, b2⟩, d⟩ := h
  refine ⟨⟨rf, (e _ (by omega) (by omega)).trans a1, a2⟩, ⟨ml, (e _ (by omega) (by omega)).trans b1, b2⟩, fun k hk => ?_⟩
  obtain ⟨mc, c1, c2⟩ := d k hk
  exact ⟨mc, (e _ (by omega) (by omega)).trans c1, c2⟩
theorem CBk.fr {k : Nat × (Nat → Nat)} {wl lim : Nat} (h : CBk w k wl lim) (e : ∀ i, i = 0 ∨ i = 45 → w1[i]? = w[i]?) : CBk w1 k wl lim := by
  obtain ⟨rn, rm, h1, h2, h3, h4⟩ := h
  exact ⟨rn, rm, (e _ (by omega)).trans h1, h2, (e _ (by omega)).trans h3, h4⟩
theorem CWy.fr {y : Nat × (Nat → Int)} {r : Nat × Nat × Nat} (h : CWy w y r) (e : ∀ i, i = 86 ∨ i = 87 → w1[i]? = w[i]?) : CWy w1 y r := by
  obtain ⟨⟨wy, a1, a2⟩, ⟨rp, b1, b2⟩⟩ := h
  exact ⟨⟨wy, (e _ (by omega)).trans a1, a2⟩, rp, (e _ (by omega)).trans b1, b2⟩
theorem Ag.frx (h : ∃ wt K S, Ag w wt K S) (e : ∀ i, 13 ≤ i → i < 18 → w1[i]? = w[i]?) : ∃ wt K S, Ag w1 wt K S := by
  obtain ⟨wt, K, S, h⟩ := h
  exact ⟨wt, K, S, h.fr e⟩
theorem LieR.frx {a n : Nat} {tl pl : Nat → Nat} (h : ∃ pk, LieR w a n tl pl pk) (e : ∀ i, a ≤ i → i < a + 3 → w1[i]? = w[i]?) : ∃ pk, LieR w1 a n tl pl pk := by
  obtain ⟨pk, h⟩ := h
  exact ⟨pk, h.fr e⟩
end FRX
