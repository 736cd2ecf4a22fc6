/-! the reference: tables, what holds of them -/
section FT
variable {B : BD} {go we ts : Nat → Nat} {c : Nat}
theorem rMv_det {g d y1 c1 y2 c2 : Nat} {p : Nat → Nat} (hV : pV (bN B) c g p) (h1 : rMv B we ts c g p d y1 c1) (h2 : rMv B we ts c g p d y2 c2) : y1 = y2 ∧ c1 = c2 := by
  obtain ⟨q, e, h⟩ := h1
  obtain ⟨q', e', h'⟩ := h2
  have : q' = q := by omega
  subst this
  rcases h with ⟨a1, a2, a3⟩ | ⟨j, hj, a1, a2, a3⟩
  · rcases h' with ⟨b1, b2, b3⟩ | ⟨k, hk, b1, b2, b3⟩
    · exact ⟨by rw [a2, b2], by rw [a3, b3]⟩
    · exact absurd b1 (a1 k hk)
  · rcases h' with ⟨b1, b2, b3⟩ | ⟨k, hk, b1, b2, b3⟩
    · exact absurd a1 (b1 j hj)
    · have : j = k := hV.2.2 j k hj hk (by rw [a1, b1])
      subst this
      exact ⟨by rw [a2, b2], by rw [a3, b3]⟩
theorem rMv_cg {g d y cost : Nat} {p p' : Nat → Nat} (h : rMv B we ts c g p d y cost) (e : ∀ j, j < c → p j = p' j) : rMv B we ts c g p' d y cost := by
  obtain ⟨q, e1, h⟩ := h
  refine ⟨q, e1, ?_⟩
  rcases h with ⟨a1, a2, a3⟩ | ⟨j, hj, a1, a2, a3⟩
  · refine Or.inl ⟨fun j hj => by rw [← e j hj]; exact a1 j hj, ?_, a3⟩
    rw [a2]
    show 9 * ecR p c + q = 9 * ecR p' c + q
    rw [ecR_cg e]
  · refine Or.inr ⟨j, hj, by rw [← e j hj]; exact a1, ?_, a3⟩
    rw [a2]
    show 9 * ecR (un p j g) c + q = 9 * ecR (un p' j g) c + q
    rw [ecR_cg (p := un p j g) (p' := un p' j g) (fun i hi => by
      by_cases z : i = j
      · subst z; rw [un_eq, un_eq]
      · rw [un_ne z, un_ne z]; exact e i hi)]
theorem pV_cg {n g : Nat} {p p' : Nat → Nat} (h : pV n c g p) (e : ∀ j, j < c → p j = p' j) : pV n c g p' :=
  ⟨h.1, fun j hj => by rw [← e j hj]; exact h.2.1 j hj, fun i j hi hj z => h.2.2 i j hi hj (by rw [e i hi, e j hj]; exact z)⟩
theorem rG_iff (hn : bN B ≤ 9) (hg : ∀ j, j < c → go (ts j) < bN B) (hi : ∀ i j, i < c → j < c → go (ts i) = go (ts j) → i = j) {x : Nat} (hx : x < 9 ^ (c + 1)) : rG B go ts c x ↔ pV (bN B) c (dgR c x c) (dgR c x) ∧ ∀ t, t < c → dgR c x t = go (ts t) := by
  constructor
  · rintro ⟨g, h1, h2, rfl⟩
    have d := dg_en c g (fun j => go (ts j)) (by omega) (fun j hj => by have := hg j hj; omega)
    refine ⟨?_, d.2⟩
    rw [d.1]
    exact pV_cg (p := fun j => go (ts j)) ⟨h1, fun j hj => ⟨hg j hj, h2 j hj⟩, hi⟩ (fun j hj => (d.2 j hj).symm)
  · rintro ⟨h1, h2⟩
    refine ⟨dgR c x c, h1.1, fun j hj => by rw [← h2 j hj]; exact (h1.2.1 j hj).2, ?_⟩
    have := ec_dg c x hx
    show x = 9 * ecR (fun j => go (ts j)) c + dgR c x c
    rw [← ecR_cg (p := dgR c x) (p' := fun j => go (ts j)) h2]
    exact this.symm
theorem nu_arr (c : Nat) : Arr (9 ^ (c + 1)) (nuR c) (fun X => X % 9 ^ c * 9 + X / 9 ^ c) := by
  have hp : 0 < 9 ^ c := Nat.pow_pos (by omega)
  unfold nuR
  rw [Nat.pow_succ]
  generalize 9 ^ c = P at *
  refine ⟨fun x hx => ?_, fun X hX => ?_⟩
  · have h1 : x / 9 < P := by omega
    have h2 : (x % 9 * P + x / 9) / P = x % 9 := by
      rw [Nat.add_comm, Nat.add_mul_div_right _ _ hp, Nat.div_eq_of_lt h1, Nat.zero_add]
    have h3 : (x % 9 * P + x / 9) % P = x / 9 := by
      rw [Nat.add_comm, Nat.add_mul_mod_self_right, Nat.mod_eq_of_lt h1]
    refine ⟨?_, ?_⟩
    · have : x % 9 * P ≤ 8 * P := Nat.mul_le_mul_right _ (by omega)
      dsimp only
      omega
    · dsimp only
      rw [h2, h3]; omega
  · have h1 : X / P < 9 := by rw [Nat.div_lt_iff_lt_mul hp, Nat.mul_comm]; exact hX
    have h2 : X % P < P := Nat.mod_lt _ hp
    refine ⟨by dsimp only; omega, ?_⟩
    dsimp only
    generalize hu : X / P = u at *
    generalize hv : X % P = v at *
    rw [show (v * 9 + u) % 9 = u from by omega, show (v * 9 + u) / 9 = v from by omega]
    have := Nat.div_add_mod X P
    rw [hu, hv] at this
    rw [Nat.mul_comm] at this
    exact this
/-- what holds of a table all the time -/
def TbI (B : BD) (go we ts : Nat → Nat) (c : Nat) (T : Nat → Int) : Prop := ∀ x, x < 9 ^ (c + 1) → 0 ≤ T x ∧ T x ≤ 1000000000 ∧ (rG B go ts c x → T x = 0) ∧ (T x = 1000000000 ∨ ∃ k v : Nat, Wk (rE B we ts c) (rG B go ts c) k x v ∧ T x = v)
/-- a table that can't be made cheaper -/
theorem TbI.done (hN : NbOk (bN B) (bNB B)) (hn : bN B ≤ 9) (hg : ∀ j, j < c → go (ts j) < bN B) (hi : ∀ i j, i < c → j < c → go (ts i) = go (ts j) → i = j) {T : Nat → Int} (h : TbI B go we ts c T) (hE : ∀ x d y cost, x < 9 ^ (c + 1) → pV (bN B) c (dgR c x c) (dgR c x) → d < 4 → rMv B we ts c (dgR c x c) (dgR c x) d y cost → T y < 1000000000 → T x ≤ T y + cost) {f : Nat → Int} (hf : Opt (pE B we ts c) (pG B go ts c) f) (hfr : ∀ x, f x ≤ 59049) (hwe : ∀ j, j < c → we (ts j) ≤ 9) :
    ∀ x, x < 9 ^ (c + 1) → T x = if f (nuR c x) = -1 then 1000000000 else f (nuR c x) := by
  have val : ∀ {g p}, pV (bN B) c g p → enR g p c < 9 ^ (c + 1) := fun {g p} hV => enR_lt (by have := hV.1; omega) (fun j hj => by have := (hV.2.1 j hj).1; omega)
  have dgE : ∀ g p d y cost, pV (bN B) c g p → d < 4 → rMv B we ts c g p d y cost → T y < 1000000000 → T (enR g p c) ≤ T y + cost := fun g p d y cost hV hd hm hy => by
    have dg := dg_en c g p (by have := hV.1; omega) (fun j hj => by have := (hV.2.1 j hj).1; omega)
    exact hE (enR g p c) d y cost (val hV) (by rw [dg.1]; exact pV_cg hV (fun j hj => (dg.2 j hj).symm)) hd (by rw [dg.1]; exact rMv_cg hm (fun j hj => (dg.2 j hj).symm)) hy
  have walk : ∀ k x v, Wk (rE B we ts c) (rG B go ts c) k x v → v < 1000000000 → T x ≤ v := by
    intro k
    induction k with
    | zero =>
      rintro x v ⟨hx, rfl⟩ _
      have hx2 := id hx
      obtain ⟨g, h1, h2, rfl⟩ := hx2
      have := (h _ (val (p := fun j => go (ts j)) (g := g) ⟨h1, fun j hj => ⟨hg j hj, h2 j hj⟩, hi⟩)).2.2.1 hx
      omega
    | succ k ih =>
      rintro x v ⟨cost, y, u, ⟨g, p, d, hV, rfl, hd, hm⟩, hw, rfl⟩ hv
      have a := ih y u hw (by omega)
      have := dgE g p d y cost hV hd hm (by omega)
      omega
  have O : Opt (rE B we ts c) (rG B go ts c) (fun x => if x < 9 ^ (c + 1) ∧ T x < 1000000000 then T x else -1) := by
    refine ⟨?_, ?_, ?_⟩
    · intro x hx
      have hx2 := id hx
      obtain ⟨g, h1, h2, rfl⟩ := hx2
      have a := val (p := fun j => go (ts j)) (g := g) ⟨h1, fun j hj => ⟨hg j hj, h2 j hj⟩, hi⟩
      have := (h _ a).2.2.1 hx
      dsimp only
      rw [if_pos ⟨a, by omega⟩]; exact this
    · rintro x cost y ⟨g, p, d, hV, rfl, hd, hm⟩ hy
      dsimp only at hy ⊢
      have a := val hV
      by_cases z : y < 9 ^ (c + 1) ∧ T y < 1000000000
      · rw [if_pos z] at hy ⊢
        have e := dgE g p d y cost hV hd hm z.2
        have ay := h y z.1
        have hc9 : cost ≤ 9 := by
          obtain ⟨q, -, (⟨-, -, hh⟩ | ⟨j, hj, -, -, hh⟩)⟩ := hm
          · omega
          · have := hwe j hj; omega
        have ty : T y ≤ 59049 := by
          rcases ay.2.2.2 with e1 | ⟨k, v, hw, ev⟩
          · omega
          · have R := opt_R hN hn hg hi hf
            have w1 := R.walk k y v hw
            obtain ⟨k2, v2, hw2, ev2⟩ := R.2.2 y w1.1
            dsimp only at ev2
            rw [if_pos z.1] at ev2
            have := hfr (nuR c y)
            have := walk k2 y v2 hw2 (by omega)
            omega
        rw [if_pos ⟨a, by omega⟩]
        exact ⟨by have := (h _ a).1; omega, by omega⟩
      · rw [if_neg z] at hy; exact absurd rfl hy
    · intro x hx
      dsimp only at hx ⊢
      by_cases z : x < 9 ^ (c + 1) ∧ T x < 1000000000
      · rw [if_pos z] at hx ⊢
        rcases (h x z.1).2.2.2 with e | ⟨k, v, hw, e⟩
        · omega
        · exact ⟨k, v, hw, e⟩
      · rw [if_neg z] at hx; exact absurd rfl hx
  intro x hx
  have u := O.un (opt_R hN hn hg hi hf) x
  rw [if_pos hx] at u
  have b := h x hx
  by_cases z : T x < 1000000000
  · rw [if_pos ⟨hx, z⟩] at u
    rw [← u, if_neg (by omega)]
  · rw [if_neg (fun q => z q.2)] at u
    rw [← u, if_pos rfl]; omega
end FT
