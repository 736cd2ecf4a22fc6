/-! places by rows and columns -/
def Pc (C m r k : Nat) : Nat := cnt (opC m) (r * C + k)
def Op (R C m r k : Nat) : Prop := r < R ∧ k < C ∧ m.testBit (r * C + k) = false
def stD (d r k r' k' : Nat) : Prop := (d = 0 ∧ r' + 1 = r ∧ k' = k) ∨ (d = 1 ∧ r' = r ∧ k' + 1 = k) ∨ (d = 2 ∧ r' = r ∧ k' = k + 1) ∨ (d = 3 ∧ r' = r + 1 ∧ k' = k)
def mh (r k r' k' : Nat) : Nat := (r - r') + (r' - r) + ((k - k') + (k' - k))
section GE
variable {R C m : Nat}
theorem op_inj {r k r' k' : Nat} (h : Op R C m r k) (h' : Op R C m r' k') (e : Pc C m r k = Pc C m r' k') : r = r' ∧ k = k' := by
  have ei : r * C + k = r' * C + k' := by
    rcases Nat.lt_trichotomy (r * C + k) (r' * C + k') with z | z | z
    · have := cnt_past z (show opC m (r * C + k) = true by simp [opC, h.2.2])
      unfold Pc at e; omega
    · exact z
    · have := cnt_past z (show opC m (r' * C + k') = true by simp [opC, h'.2.2])
      unfold Pc at e; omega
  have q1 := congrArg (· / C) ei
  have q2 := congrArg (· % C) ei
  rw [rc_div h.2.1, rc_div h'.2.1] at q1
  rw [rc_mod h.2.1, rc_mod h'.2.1] at q2
  exact ⟨q1, q2⟩
theorem op_lt {r k : Nat} (h : Op R C m r k) : Pc C m r k < cnt (opC m) (R * C) := by
  have := cnt_past (rc_lt h.1 h.2.1) (show opC m (r * C + k) = true by simp [opC, h.2.2])
  unfold Pc; omega
theorem op_of {p : Nat} (hC : 0 < C) (hp : p < cnt (opC m) (R * C)) : ∃ r k, Op R C m r k ∧ p = Pc C m r k := by
  obtain ⟨i, h1, h2, h3⟩ := pl_cell hp
  have hx : i / C * C + i % C = i := by rw [Nat.mul_comm]; exact Nat.div_add_mod i C
  refine ⟨i / C, i % C, ⟨by rw [Nat.div_lt_iff_lt_mul hC]; exact h1, Nat.mod_lt _ hC, by rw [hx]; exact h2⟩, ?_⟩
  unfold Pc
  rw [hx, h3]
theorem plo_pos {r k : Int} {q : Nat} (h : plo R C m r k = (q : Int)) : Op R C m r.toNat k.toNat ∧ q = Pc C m r.toNat k.toNat ∧ 0 ≤ r ∧ 0 ≤ k := by
  by_cases c : 0 ≤ r ∧ r < R ∧ 0 ≤ k ∧ k < C
  · rw [plo_in c] at h
    cases b : m.testBit (r.toNat * C + k.toNat) with
    | true => rw [plc_wall b] at h; omega
    | false =>
      rw [plc_open b] at h
      exact ⟨⟨by omega, by omega, b⟩, by unfold Pc; omega, c.1, c.2.2.1⟩
  · rw [plo_out c] at h; omega
theorem plo_op {r k : Nat} (h : Op R C m r k) : plo R C m (r : Int) (k : Int) = (Pc C m r k : Int) := by
  have h1 := h.1
  have h2 := h.2.1
  rw [plo_in (by omega), Int.toNat_natCast, Int.toNat_natCast, plc_open h.2.2]
  rfl
variable {B : BD}
theorem nb_V (hS : BSpec B R C m) {r k d : Nat} (h : Op R C m r k) (hd : d < 4) : bNB B (4 * Pc C m r k + d) = nbV R C m r k d := by
  have := hS.2.2.2.2.2.1 (r * C + k) d (rc_lt h.1 h.2.1) hd h.2.2
  unfold nbC at this
  rw [rc_div h.2.1, rc_mod h.2.1] at this
  exact this
theorem nb_geo (hS : BSpec B R C m) {r k d q : Nat} (h : Op R C m r k) (hd : d < 4) (e : bNB B (4 * Pc C m r k + d) = (q : Int)) : ∃ r' k', Op R C m r' k' ∧ q = Pc C m r' k' ∧ stD d r k r' k' := by
  rw [nb_V hS h hd] at e
  have : d = 0 ∨ d = 1 ∨ d = 2 ∨ d = 3 := by omega
  rcases this with rfl | rfl | rfl | rfl
  · have := plo_pos (show plo R C m ((r : Int) - 1) k = q from e)
    exact ⟨_, _, this.1, this.2.1, Or.inl ⟨rfl, by omega, by omega⟩⟩
  · have := plo_pos (show plo R C m (r : Int) ((k : Int) - 1) = q from e)
    exact ⟨_, _, this.1, this.2.1, Or.inr (Or.inl ⟨rfl, by omega, by omega⟩)⟩
  · have := plo_pos (show plo R C m (r : Int) ((k : Int) + 1) = q from e)
    exact ⟨_, _, this.1, this.2.1, Or.inr (Or.inr (Or.inl ⟨rfl, by omega, by omega⟩))⟩
  · have := plo_pos (show plo R C m ((r : Int) + 1) k = q from e)
    exact ⟨_, _, this.1, this.2.1, Or.inr (Or.inr (Or.inr ⟨rfl, by omega, by omega⟩))⟩
theorem nb_op (hS : BSpec B R C m) {r k d r' k' : Nat} (h : Op R C m r k) (h' : Op R C m r' k') (s : stD d r k r' k') : bNB B (4 * Pc C m r k + d) = (Pc C m r' k' : Int) := by
  rw [← plo_op h']
  rcases s with ⟨rfl, e1, e2⟩ | ⟨rfl, e1, e2⟩ | ⟨rfl, e1, e2⟩ | ⟨rfl, e1, e2⟩
  · rw [nb_V hS h (by omega)]
    show plo R C m ((r : Int) - 1) k = _
    rw [show (r : Int) - 1 = (r' : Int) from by omega, e2]
  · rw [nb_V hS h (by omega)]
    show plo R C m (r : Int) ((k : Int) - 1) = _
    rw [show (k : Int) - 1 = (k' : Int) from by omega, e1]
  · rw [nb_V hS h (by omega)]
    show plo R C m (r : Int) ((k : Int) + 1) = _
    rw [show (k : Int) + 1 = (k' : Int) from by omega, e1]
  · rw [nb_V hS h (by omega)]
    show plo R C m ((r : Int) + 1) k = _
    rw [show (r : Int) + 1 = (r' : Int) from by omega, e2]
theorem isNb_geo (hS : BSpec B R C m) {r k x : Nat} (h : Op R C m r k) (e : isNb (bNB B) (Pc C m r k) x = true) : ∃ r' k' d, Op R C m r' k' ∧ x = Pc C m r' k' ∧ stD d r k r' k' := by
  obtain ⟨d, hd, e⟩ := isNb_d.mp e
  obtain ⟨r', k', h1, h2, h3⟩ := nb_geo hS h hd e
  exact ⟨r', k', d, h1, h2, h3⟩
theorem isNb_op (hS : BSpec B R C m) {r k d r' k' : Nat} (h : Op R C m r k) (h' : Op R C m r' k') (s : stD d r k r' k') : isNb (bNB B) (Pc C m r k) (Pc C m r' k') = true :=
  isNb_d.mpr ⟨d, by rcases s with s | s | s | s <;> (have := s.1; omega), nb_op hS h h' s⟩
theorem stD_mh {d r k r' k' x y : Nat} (s : stD d r k r' k') : mh r k x y ≤ 1 + mh r' k' x y := by
  unfold mh
  rcases s with ⟨_, e1, e2⟩ | ⟨_, e1, e2⟩ | ⟨_, e1, e2⟩ | ⟨_, e1, e2⟩ <;> omega
theorem wlk_mh (hS : BSpec B R C m) {n : Nat} : ∀ len r k r' k', Op R C m r k → Op R C m r' k' → wlk (bNB B) n len (Pc C m r k) (Pc C m r' k') → mh r k r' k' ≤ len
  | 0, r, k, r', k', h, h', hw => by
    obtain ⟨e1, e2⟩ := op_inj h h' hw
    subst e1 e2
    unfold mh; omega
  | 1, r, k, r', k', h, h', hw => by
    obtain ⟨a, b, d, g1, g2, g3⟩ := isNb_geo hS h hw
    obtain ⟨e1, e2⟩ := op_inj h' g1 g2
    subst e1 e2
    have := stD_mh (x := r') (y := k') g3
    have z : mh r' k' r' k' = 0 := by unfold mh; omega
    omega
  | len + 2, r, k, r', k', h, h', hw => by
    obtain ⟨x, hx, hn, hw⟩ := hw
    obtain ⟨a, b, d, g1, g2, g3⟩ := isNb_geo hS h hn
    subst g2
    have := wlk_mh hS (len + 1) a b r' k' g1 h' hw
    have := stD_mh (x := r') (y := k') g3
    omega
/-- a place on a line -/
def lnr (l i : Nat) : Nat := if l < 4 then l else i
def lnk (l i : Nat) : Nat := if l < 4 then i else l - 4
theorem lnC_rk {l i : Nat} : lnC C l i = lnr l i * C + lnk l i := by
  unfold lnC lnF lnS lnr lnk
  split
  · omega
  · omega
theorem ln_op {l i : Nat} (ho : lnO R C m l) (hi : i < lnL R C l) : Op R C m (lnr l i) (lnk l i) := by
  have h := ho i hi
  rw [lnC_rk] at h
  refine ⟨?_, ?_, h⟩
  · unfold lnL at hi; unfold lnr; split at hi <;> split at hi <;> (first | omega | (split <;> omega))
  · unfold lnL at hi; unfold lnk; split at hi <;> split at hi <;> (first | omega | (split <;> omega))
/-- whether a place is on a line -/
theorem ln_on {l i r k : Nat} (ho : lnO R C m l) (hi : i < lnL R C l) (h : Op R C m r k) : Pc C m (lnr l i) (lnk l i) = Pc C m r k ↔ lnr l i = r ∧ lnk l i = k :=
  ⟨fun e => op_inj (ln_op ho hi) h e, fun e => by rw [e.1, e.2]⟩
theorem ln_spec (hS : BSpec B R C m) {l : Nat} (hl : l < 8) : (bLL B l = 0 ∧ ∀ p, p < 16 → bOL B (16 * l + p) = -1) ∨ (lnO R C m l ∧ bLL B l = lnL R C l ∧ (∀ i, i < lnL R C l → bLP B (4 * l + i) = Pc C m (lnr l i) (lnk l i) ∧ bOL B (16 * l + Pc C m (lnr l i) (lnk l i)) = i) ∧ ∀ p, p < 16 → (∀ i, i < lnL R C l → ¬ Pc C m (lnr l i) (lnk l i) = p) → bOL B (16 * l + p) = -1) := by
  have e : ∀ i, cnt (opC m) (lnC C l i) = Pc C m (lnr l i) (lnk l i) := fun i => by rw [lnC_rk]; rfl
  obtain ⟨h1, h2⟩ := hS.2.2.2.2.2.2.2 l hl
  by_cases c : lnO R C m l
  · obtain ⟨a, b, d⟩ := h1 c
    refine Or.inr ⟨c, a, fun i hi => ?_, fun p hp hno => d p hp (fun i hi => by rw [e]; exact hno i hi)⟩
    have := b i hi
    rwa [e] at this
  · exact Or.inl (h2 c)
end GE
