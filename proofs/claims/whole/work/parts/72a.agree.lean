/-! both sides of the law: what is common to all calls -/
theorem CI.fr {w w1 : jW} {S : ST} (h : CI w S) (e : ∀ i, i < 100 → w1[i]? = w[i]?) : CI w1 S := by
  obtain ⟨hS, hz, ⟨hs, hag⟩, hl, hside, hkp, hmc, hbk, ⟨hbf, hdf, hrr⟩, has, hwy⟩ := id h
  exact h.mid (fun i hi => e i (by omega)) (hs.fr (fun i _ _ => e i (by omega))) (Ag.frx hag (fun i _ _ => e i (by omega))) (hside.fr (fun i _ _ => e i (by omega))) ⟨hbf.fr (fun i _ _ => e i (by omega)), hdf.fr (fun i _ _ => e i (by omega)), hrr.fr (fun i _ _ => e i (by omega))⟩ (has.fr (fun i _ _ => e i (by omega)))
theorem MIg.fr {w w1 : jW} {g : Nat → Int} {S : ST} (h : MIg w g S) (e : ∀ i, 100 ≤ i → i < 148 → w1[i]? = w[i]?) : MIg w1 g S := h.keep (fun i _ _ => e i (by omega) (by omega)) (fun i _ _ => e i (by omega) (by omega)) (e _ (by omega) (by omega)) (gEq.rf g) (h.mr.fr (fun i _ _ => e i (by omega) (by omega)))
theorem MI.fr {w w1 : jW} {S : ST} (h : MI w S) (e : ∀ i, 100 ≤ i → i < 148 → w1[i]? = w[i]?) : MI w1 S := by
  obtain ⟨g, c, hI⟩ := h
  exact ⟨g, (e _ (by omega) (by omega)).trans c, hI.fr e⟩
theorem prZ_px {p : PR} : PX (prZ p) := fun i hi => absurd hi (Nat.not_lt_zero _)
theorem prAdd_px {pr : PR} {m c n : Nat} {ts : Nat → Nat} {f : Nat → Int} {fb : Nat} (h : PX pr) (hp : ptOk n fb m) (hc : c = (ptl m n).1) (ht : ∀ j, j < c → ts j = (ptl m n).2.1 j) : PX (prAdd pr m c ts f) := fun p hp' t ht' => by
  have hp2 : p < qN pr + 1 := hp'
  by_cases z : p = qN pr
  · subst z
    obtain ⟨e1, e2, e3, -⟩ := prAdd_new (pr := pr) (m := m) (c := c) (ts := ts) (f := f)
    rw [e1] at ht'
    rw [e2, e3]
    have tn := (hp.2.1 t ht').2.1
    have pc := ptl_cnt m n
    have k : cnt m.testBit t < c := by
      rw [hc, pc]
      exact cnt_past tn ht'
    refine ⟨cnt m.testBit t, k, ?_⟩
    rw [ht _ k]
    obtain ⟨a1, a2, a3⟩ := ptl_at m n (cnt m.testBit t) (by rw [← hc]; exact k)
    generalize (ptl m n).2.1 (cnt m.testBit t) = u at *
    rcases Nat.lt_trichotomy u t with y | y | y
    · have := cnt_past y a2; omega
    · exact y
    · have := cnt_past y ht'; omega
  · obtain ⟨e1, e2, e3, -⟩ := prAdd_old (pr := pr) (m := m) (c := c) (ts := ts) (f := f) z
    rw [e1] at ht'
    rw [e2, e3]
    exact h p (by omega) t ht'
def AgT (ty : Nat) (es : List Nat) (r : Option Value ⊕ Nat) : Prop := (ty = 0 ∧ ∃ x, r = .inl (some (.int x))) ∨ (ty = 1 ∧ ∃ x, r = .inl (some (.long x))) ∨ (ty = 2 ∧ ∃ b : Bool, r = .inl (some (.int (zI (if b = true then 1 else 0))))) ∨ ∃ e, r = .inr e ∧ e ∈ es
def AgV (code : Nat → Nat) (r : Option Value ⊕ Nat) (v2 : Value) (c : Nat) : Prop := match r with
  | .inl v => c = 0 ∧ v = some v2
  | .inr e => c = code e
def AgP (ty : Nat) (code : Nat → Nat) (r r2 : Option Value ⊕ Nat) (w2 w3 : jW) : Prop := ∃ S1 c, CI w3 S1 ∧ PX (xPr S1) ∧ MT w3 S1 ((c : Nat) : Int) ∧ frP kP w2 w3 ∧ ∃ v2, r2 = .inl (some v2) ∧ ((ty = 1 ∧ ∃ x, v2 = .long x) ∨ (¬ ty = 1 ∧ ∃ x, v2 = .int x)) ∧ AgV code r v2 c
def Agree (ty : Nat) (es : List Nat) (code : Nat → Nat) (N : jM) (rargs : List Value) (w : jW) (r : Option Value ⊕ Nat) (w1 : jW) : Prop := AgT ty es r ∧ frP cP w w1 ∧ ∀ w2, frP (fun i => i = 148) w1 w2 → jmw N rargs w2 (fun r2 w3 => AgP ty code r r2 w2 w3)
/-- both have the same tray -/
def LJ (w : jW) (S : ST) : Prop := CI w S ∧ MI w S ∧ PX (xPr S)
section AG
variable {w w1 w2 w3 : jW} {S S1 : ST} {ty : Nat} {es : List Nat} {code : Nat → Nat}
theorem fr148 (f2 : frP (fun i => i = 148) w1 w2) (f3 : frP kP w2 w3) : ∀ i, i < 100 → w3[i]? = w1[i]? := fun i hi => (f3.2 i (by show ¬ (100 ≤ i ∧ i < 148); omega)).trans (f2.2 i (by omega))
theorem LJ.mi2 (h : LJ w S) (f1 : frP cP w w1) (f2 : frP (fun i => i = 148) w1 w2) : MI w2 S := h.2.1.fr (fun i h1 h2 => (f2.2 i (by omega)).trans (f1.2 i (by show ¬ i < 100; omega)))
theorem agI {x : Int32} (c1 : CI w1 S1) (px : PX (xPr S1)) (f2 : frP (fun i => i = 148) w1 w2) (f3 : frP kP w2 w3) (m3 : MT w3 S1 0) (ht : ¬ ty = 1) : AgP ty code (.inl (some (.int x))) (.inl (some (.int x))) w2 w3 := ⟨S1, 0, c1.fr (fr148 f2 f3), px, m3, f3, _, rfl, Or.inr ⟨ht, _, rfl⟩, rfl, rfl⟩
theorem agL {x : Int64} (c1 : CI w1 S1) (px : PX (xPr S1)) (f2 : frP (fun i => i = 148) w1 w2) (f3 : frP kP w2 w3) (m3 : MT w3 S1 0) : AgP 1 code (.inl (some (.long x))) (.inl (some (.long x))) w2 w3 := ⟨S1, 0, c1.fr (fr148 f2 f3), px, m3, f3, _, rfl, Or.inl ⟨rfl, _, rfl⟩, rfl, rfl⟩
theorem agE {e c : Nat} {x : Int32} (c1 : CI w1 S1) (px : PX (xPr S1)) (f2 : frP (fun i => i = 148) w1 w2) (f3 : frP kP w2 w3) (m3 : MT w3 S1 (c : Int)) (hc : c = code e) (ht : ¬ ty = 1) : AgP ty code (.inr e) (.inl (some (.int x))) w2 w3 := ⟨S1, c, c1.fr (fr148 f2 f3), px, m3, f3, _, rfl, Or.inr ⟨ht, _, rfl⟩, hc⟩
theorem agEl {e c : Nat} {x : Int64} (c1 : CI w1 S1) (px : PX (xPr S1)) (f2 : frP (fun i => i = 148) w1 w2) (f3 : frP kP w2 w3) (m3 : MT w3 S1 (c : Int)) (hc : c = code e) : AgP 1 code (.inr e) (.inl (some (.long x))) w2 w3 := ⟨S1, c, c1.fr (fr148 f2 f3), px, m3, f3, _, rfl, Or.inl ⟨rfl, _, rfl⟩, hc⟩
theorem tyI {x : Int32} : AgT 0 es (.inl (some (.int x))) := Or.inl ⟨rfl, x, rfl⟩
theorem tyL {x : Int64} : AgT 1 es (.inl (some (.long x))) := Or.inr (Or.inl ⟨rfl, x, rfl⟩)
theorem tyB {b : Bool} : AgT 2 es (.inl (some (.int (zI (if b = true then 1 else 0))))) := Or.inr (Or.inr (Or.inl ⟨rfl, b, rfl⟩))
theorem tyE {e : Nat} (h : e ∈ es) : AgT ty es (.inr e) := Or.inr (Or.inr (Or.inr ⟨e, rfl, h⟩))
end AG
