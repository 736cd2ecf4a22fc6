/-! the reference: tables of parts, the numbers -/
abbrev enR (g : Nat) (p : Nat → Nat) (c : Nat) : Nat := 9 * ecR p c + g
/-- a digit of a place; t = c is the gap -/
def dgR (c x t : Nat) : Nat := x / 9 ^ (c - t) % 9
/-- the class's number for the reference's -/
def nuR (c x : Nat) : Nat := x % 9 * 9 ^ c + x / 9
def rMv (B : BD) (we ts : Nat → Nat) (c g : Nat) (p : Nat → Nat) (d y cost : Nat) : Prop := ∃ q : Nat, bNB B (4 * g + d) = (q : Int) ∧ (((∀ j, j < c → ¬ p j = q) ∧ y = enR q p c ∧ cost = 0) ∨ ∃ j, j < c ∧ p j = q ∧ y = enR q (un p j g) c ∧ cost = we (ts j))
def rE (B : BD) (we ts : Nat → Nat) (c : Nat) (x cost y : Nat) : Prop := ∃ g p d, pV (bN B) c g p ∧ x = enR g p c ∧ d < 4 ∧ rMv B we ts c g p d y cost
def rG (B : BD) (go ts : Nat → Nat) (c : Nat) (x : Nat) : Prop := ∃ g, g < bN B ∧ (∀ j, j < c → ¬ go (ts j) = g) ∧ x = enR g (fun j => go (ts j)) c
theorem enc_ec (g : Nat) (p : Nat → Nat) : ∀ c, enc g p c = g * 9 ^ c + ecR p c
  | 0 => by show g = g * 9 ^ 0 + 0; omega
  | c + 1 => by
    show enc g p c * 9 + p c = g * 9 ^ (c + 1) + (9 * ecR p c + p c)
    rw [enc_ec g p c, Nat.pow_succ, Nat.add_mul, Nat.mul_assoc]
    omega
theorem nu_en {g c : Nat} {p : Nat → Nat} (hg : g < 9) : nuR c (enR g p c) = enc g p c := by
  rw [enc_ec]
  unfold nuR enR
  rw [show (9 * ecR p c + g) % 9 = g from by omega, show (9 * ecR p c + g) / 9 = ecR p c from by omega]
theorem enR_lt {g c : Nat} {p : Nat → Nat} (hg : g < 9) (hp : ∀ j, j < c → p j < 9) : enR g p c < 9 ^ (c + 1) := by
  have := ecR_lt hp
  rw [Nat.pow_succ]
  show 9 * ecR p c + g < _
  omega
/-- taken apart, and put together -/
theorem ec_dg : ∀ (c x : Nat), x < 9 ^ (c + 1) → enR (dgR c x c) (dgR c x) c = x
  | 0, x, h => by
    show 9 * 0 + x / 9 ^ (0 - 0) % 9 = x
    simp at h ⊢
    omega
  | c + 1, x, h => by
    have hx : x / 9 < 9 ^ (c + 1) := by rw [Nat.pow_succ] at h; omega
    have ih := ec_dg c (x / 9) hx
    have e : ∀ t, t ≤ c → dgR (c + 1) x t = dgR c (x / 9) t := fun t ht => by
      unfold dgR
      rw [show c + 1 - t = (c - t) + 1 from by omega, Nat.pow_succ, Nat.mul_comm, Nat.div_div_eq_div_mul]
    have e2 : dgR (c + 1) x (c + 1) = x % 9 := by
      unfold dgR; rw [Nat.sub_self, Nat.pow_zero, Nat.div_one]
    show 9 * (9 * ecR (dgR (c + 1) x) c + dgR (c + 1) x c) + dgR (c + 1) x (c + 1) = x
    rw [e2, e c (Nat.le_refl _), ecR_cg (p' := dgR c (x / 9)) (fun j hj => e j (by omega))]
    have ih' : 9 * ecR (dgR c (x / 9)) c + dgR c (x / 9) c = x / 9 := ih
    omega
theorem dg_en : ∀ (c g : Nat) (p : Nat → Nat), g < 9 → (∀ j, j < c → p j < 9) → dgR c (enR g p c) c = g ∧ ∀ t, t < c → dgR c (enR g p c) t = p t
  | c, g, p, hg, hp => by
    have h1 := ec_dg c (enR g p c) (enR_lt hg hp)
    have d9 : ∀ t, dgR c (enR g p c) t < 9 := fun t => Nat.mod_lt _ (by omega)
    generalize dgR c (enR g p c) = u at *
    have h2 : 9 * ecR u c + u c = 9 * ecR p c + g := h1
    have u9 := d9 c
    have e1 : u c = g := by omega
    have e2 : ecR u c = ecR p c := by omega
    have inj : ∀ k, k ≤ c → ecR u k = ecR p k → ∀ t, t < k → u t = p t := by
      intro k
      induction k with
      | zero => intro _ _ t ht; omega
      | succ k ih =>
        intro hk e t ht
        have a1 := d9 k
        have a2 := hp k (by omega)
        have e' : 9 * ecR u k + u k = 9 * ecR p k + p k := e
        have e3 : ecR u k = ecR p k := by omega
        by_cases z : t = k
        · subst z; omega
        · exact ih (by omega) e3 t (by omega)
    exact ⟨e1, inj c (Nat.le_refl _) e2⟩
theorem enR_inj {c g g' : Nat} {p p' : Nat → Nat} (hg : g < 9) (hp : ∀ j, j < c → p j < 9) (hg' : g' < 9) (hp' : ∀ j, j < c → p' j < 9) (e : enR g p c = enR g' p' c) : g = g' ∧ ∀ j, j < c → p j = p' j := by
  have a := dg_en c g p hg hp
  have b := dg_en c g' p' hg' hp'
  rw [e] at a
  exact ⟨a.1.symm.trans b.1, fun j hj => (a.2 j hj).symm.trans (b.2 j hj)⟩
section FR
variable {B : BD} {go we ts : Nat → Nat} {c : Nat}
/-- a move can be gone back -/
theorem rMv_rev (hN : NbOk (bN B) (bNB B)) {g d y cost : Nat} {p : Nat → Nat} (hV : pV (bN B) c g p) (hd : d < 4) (h : rMv B we ts c g p d y cost) : ∃ g' p', pV (bN B) c g' p' ∧ y = enR g' p' c ∧ pMv B we ts c g' p' (3 - d) (enc g p c) cost := by
  obtain ⟨q, e1, h⟩ := h
  obtain ⟨v1, v2, v3⟩ := id hV
  rcases hN g d v1 hd with z | ⟨q', z, hq, hne, hb⟩
  · rw [z] at e1; omega
  · have : q' = q := by rw [z] at e1; omega
    subst this
    rcases h with ⟨h1, h2, h3⟩ | ⟨j, hj, h1, h2, h3⟩
    · exact ⟨q', p, ⟨hq, fun i hi => ⟨(v2 i hi).1, h1 i hi⟩, v3⟩, h2, g, hb, Or.inl ⟨fun i hi => (v2 i hi).2, rfl, h3⟩⟩
    · have gj : ∀ i, i < c → ¬ i = j → un p j g i = p i := fun i _ hi => un_ne hi
      refine ⟨q', un p j g, ⟨hq, fun i hi => ?_, fun i k hi hk e => ?_⟩, h2, g, hb, Or.inr ⟨j, hj, un_eq, ?_, h3⟩⟩
      · by_cases c1 : i = j
        · subst c1; rw [un_eq]; exact ⟨v1, fun z => hne z.symm⟩
        · rw [un_ne c1]; exact ⟨(v2 i hi).1, fun z => c1 (v3 i j hi hj (by rw [z, h1]))⟩
      · by_cases c1 : i = j
        · by_cases c2 : k = j
          · rw [c1, c2]
          · rw [c1, un_eq, un_ne c2] at e
            exact absurd e.symm (v2 k hk).2
        · by_cases c2 : k = j
          · rw [c2, un_eq, un_ne c1] at e
            exact absurd e (v2 i hi).2
          · rw [un_ne c1, un_ne c2] at e; exact v3 i k hi hk e
      · rw [enc_ec, enc_ec]
        congr 1
        refine ecR_cg (fun i hi => ?_)
        by_cases c1 : i = j
        · subst c1; rw [un_eq, h1]
        · rw [un_ne c1, un_ne c1]
theorem pMv_rev (hN : NbOk (bN B) (bNB B)) {g d y cost : Nat} {p : Nat → Nat} (hV : pV (bN B) c g p) (hd : d < 4) (h : pMv B we ts c g p d y cost) : ∃ g' p', pV (bN B) c g' p' ∧ y = enc g' p' c ∧ rMv B we ts c g' p' (3 - d) (enR g p c) cost := by
  obtain ⟨q, e1, h⟩ := h
  obtain ⟨v1, v2, v3⟩ := id hV
  rcases hN g d v1 hd with z | ⟨q', z, hq, hne, hb⟩
  · rw [z] at e1; omega
  · have : q' = q := by rw [z] at e1; omega
    subst this
    rcases h with ⟨h1, h2, h3⟩ | ⟨j, hj, h1, h2, h3⟩
    · exact ⟨q', p, ⟨hq, fun i hi => ⟨(v2 i hi).1, h1 i hi⟩, v3⟩, h2, g, hb, Or.inl ⟨fun i hi => (v2 i hi).2, rfl, h3⟩⟩
    · refine ⟨q', un p j g, ⟨hq, fun i hi => ?_, fun i k hi hk e => ?_⟩, h2, g, hb, Or.inr ⟨j, hj, un_eq, ?_, h3⟩⟩
      · by_cases c1 : i = j
        · subst c1; rw [un_eq]; exact ⟨v1, fun z => hne z.symm⟩
        · rw [un_ne c1]; exact ⟨(v2 i hi).1, fun z => c1 (v3 i j hi hj (by rw [z, h1]))⟩
      · by_cases c1 : i = j
        · by_cases c2 : k = j
          · rw [c1, c2]
          · rw [c1, un_eq, un_ne c2] at e
            exact absurd e.symm (v2 k hk).2
        · by_cases c2 : k = j
          · rw [c2, un_eq, un_ne c1] at e
            exact absurd e (v2 i hi).2
          · rw [un_ne c1, un_ne c2] at e; exact v3 i k hi hk e
      · show 9 * ecR p c + g = 9 * ecR (un (un p j g) j q') c + g
        rw [ecR_cg (p := p) (p' := un (un p j g) j q') (fun i hi => by
          by_cases c1 : i = j
          · subst c1; rw [un_eq, h1]
          · rw [un_ne c1, un_ne c1])]
/-- the class's table, told by the reference's numbers -/
theorem opt_R (hN : NbOk (bN B) (bNB B)) (hn : bN B ≤ 9) (hg : ∀ j, j < c → go (ts j) < bN B) (hi : ∀ i j, i < c → j < c → go (ts i) = go (ts j) → i = j) {f : Nat → Int} (h : Opt (pE B we ts c) (pG B go ts c) f) : Opt (rE B we ts c) (rG B go ts c) (fun x => if x < 9 ^ (c + 1) then f (nuR c x) else -1) := by
  have val : ∀ {g p}, pV (bN B) c g p → enR g p c < 9 ^ (c + 1) ∧ nuR c (enR g p c) = enc g p c := fun {g p} hV =>
    ⟨enR_lt (by have := hV.1; omega) (fun j hj => by have := (hV.2.1 j hj).1; omega), nu_en (by have := hV.1; omega)⟩
  have gV : ∀ {g}, g < bN B → (∀ j, j < c → ¬ go (ts j) = g) → pV (bN B) c g (fun j => go (ts j)) := fun {g} h1 h2 => ⟨h1, fun j hj => ⟨hg j hj, h2 j hj⟩, hi⟩
  refine ⟨?_, ?_, ?_⟩
  · rintro x ⟨g, h1, h2, rfl⟩
    obtain ⟨a, b⟩ := val (gV h1 h2)
    dsimp only
    rw [if_pos a, b]
    exact h.1 _ ⟨g, h1, h2, rfl⟩
  · rintro x cost y ⟨g, p, d, hV, rfl, hd, hm⟩ hy
    obtain ⟨g', p', hV', rfl, hm'⟩ := rMv_rev hN hV hd hm
    obtain ⟨a, b⟩ := val hV
    obtain ⟨a', b'⟩ := val hV'
    dsimp only at hy ⊢
    rw [if_pos a', b'] at hy ⊢
    rw [if_pos a, b]
    exact h.2.1 _ _ _ ⟨g', p', 3 - d, hV', rfl, by omega, hm'⟩ hy
  · have tr : ∀ k X v, Wk (pE B we ts c) (pG B go ts c) k X v → ∀ g p, pV (bN B) c g p → X = enc g p c → Wk (rE B we ts c) (rG B go ts c) k (enR g p c) v := by
      intro k
      induction k with
      | zero =>
        rintro X v ⟨⟨g0, h1, h2, e1⟩, rfl⟩ g p hV e
        have inj := enc_inj (c := c) (fun j hj => ⟨by have := hg j hj; omega, by have := (hV.2.1 j hj).1; omega⟩) (e1.symm.trans e)
        refine ⟨⟨g0, h1, h2, ?_⟩, rfl⟩
        show 9 * ecR p c + g = 9 * ecR (fun j => go (ts j)) c + g0
        rw [inj.1, ecR_cg (p := p) (p' := fun j => go (ts j)) (fun j hj => (inj.2 j hj).symm)]
      | succ k ih =>
        rintro X v ⟨cost, Y, u, ⟨g1, p1, d, hV1, rfl, hd, hm⟩, hw, rfl⟩ g p hV e
        obtain ⟨g', p', hV', e', hm'⟩ := pMv_rev hN hV1 hd hm
        have inj := enc_inj (c := c) (fun j hj => ⟨by have := (hV'.2.1 j hj).1; omega, by have := (hV.2.1 j hj).1; omega⟩) (e'.symm.trans e)
        have ee : enR g p c = enR g' p' c := by
          show 9 * ecR p c + g = 9 * ecR p' c + g'
          rw [inj.1, ecR_cg (p := p) (p' := p') (fun j hj => (inj.2 j hj).symm)]
        rw [ee]
        exact ⟨cost, enR g1 p1 c, u, ⟨g', p', 3 - d, hV', rfl, by omega, hm'⟩, ih _ _ hw g1 p1 hV1 rfl, rfl⟩
    intro x hx
    dsimp only at hx ⊢
    by_cases c1 : x < 9 ^ (c + 1)
    · rw [if_pos c1] at hx ⊢
      obtain ⟨k, v, hw, e⟩ := h.2.2 _ hx
      obtain ⟨g, p, hV, eX⟩ := wk_valid hN hg hi k _ v hw
      refine ⟨k, v, ?_, e⟩
      obtain ⟨a, b⟩ := val hV
      have : x = enR g p c := by
        -- the two numbers tell the same
        have hx9 := ec_dg c x c1
        have nx := nu_en (c := c) (g := dgR c x c) (p := dgR c x) (Nat.mod_lt _ (by omega))
        rw [hx9, eX] at nx
        have inj := enc_inj (c := c) (fun j hj => ⟨by have := (hV.2.1 j hj).1; omega, Nat.mod_lt _ (by omega)⟩) nx
        rw [← hx9]
        show 9 * ecR (dgR c x) c + dgR c x c = 9 * ecR p c + g
        rw [inj.1, ecR_cg (p := dgR c x) (p' := p) (fun j hj => (inj.2 j hj).symm)]
      rw [this]
      exact tr k _ v hw g p hV eX
    · rw [if_neg c1] at hx; exact absurd rfl hx
end FR
