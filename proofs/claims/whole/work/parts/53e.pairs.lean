/-! a move and the lines -/
section LW
variable {R C m : Nat} {B : BD}
theorem nbok_self {n : Nat} {nb : Nat → Int} (h : NbOk n nb) : ∀ p, p < n → isNb nb p p = false := fun p hp => by
  cases e : isNb nb p p with
  | false => rfl
  | true =>
    obtain ⟨d, hd, e⟩ := isNb_d.mp e
    rcases h p d hp hd with z | ⟨q, e1, e2, e3, _⟩
    · omega
    · exact absurd (by omega) e3
theorem ln_st {l i : Nat} : stD (if l < 4 then 2 else 3) (lnr l i) (lnk l i) (lnr l (i + 1)) (lnk l (i + 1)) ∧ stD (if l < 4 then 1 else 0) (lnr l (i + 1)) (lnk l (i + 1)) (lnr l i) (lnk l i) := by
  by_cases c : l < 4
  · have a : ∀ i, lnr l i = l := fun i => if_pos c
    have b : ∀ i, lnk l i = i := fun i => if_pos c
    rw [if_pos c, if_pos c, a, a, b, b]
    exact ⟨Or.inr (Or.inr (Or.inl ⟨rfl, rfl, rfl⟩)), Or.inr (Or.inl ⟨rfl, rfl, rfl⟩)⟩
  · have a : ∀ i, lnr l i = i := fun i => if_neg c
    have b : ∀ i, lnk l i = l - 4 := fun i => if_neg c
    rw [if_neg c, if_neg c, a, a, b, b]
    exact ⟨Or.inr (Or.inr (Or.inr ⟨rfl, rfl, rfl⟩)), Or.inl ⟨rfl, rfl, rfl⟩⟩
theorem ln_wlk (hS : BSpec B R C m) {l : Nat} (ho : lnO R C m l) {n : Nat} (hn : n = cnt (opC m) (R * C)) : ∀ j i, i + j < lnL R C l → wlk (bNB B) n j (Pc C m (lnr l i) (lnk l i)) (Pc C m (lnr l (i + j)) (lnk l (i + j))) ∧ wlk (bNB B) n j (Pc C m (lnr l (i + j)) (lnk l (i + j))) (Pc C m (lnr l i) (lnk l i))
  | 0, i, _ => ⟨rfl, rfl⟩
  | j + 1, i, h => by
    have o1 := ln_op ho (show i < lnL R C l by omega)
    have o2 := ln_op ho (show i + 1 < lnL R C l by omega)
    have o3 := ln_op ho (show i + j < lnL R C l by omega)
    have o4 := ln_op ho (show i + j + 1 < lnL R C l by omega)
    have i1 := ln_wlk hS ho hn j (i + 1) (by omega)
    have i2 := ln_wlk hS ho hn j i (by omega)
    rw [show i + 1 + j = i + (j + 1) from by omega] at i1
    refine ⟨wlk_cons (by rw [hn]; exact op_lt o2) (isNb_op hS o1 o2 ln_st.1) i1.1, wlk_cons (by rw [hn]; exact op_lt o3) (isNb_op hS o4 o3 ln_st.2) i2.2⟩
/-- as far as it is along the line -/
theorem ln_dist (hS : BSpec B R C m) (hN : NbOk (cnt (opC m) (R * C)) (bNB B)) {l i j : Nat} (ho : lnO R C m l) (hi : i < lnL R C l) (hj : j < lnL R C l) : fwA (bNB B) (cnt (opC m) (R * C)) (Pc C m (lnr l i) (lnk l i)) (Pc C m (lnr l j) (lnk l j)) ≤ mh (lnr l i) (lnk l i) (lnr l j) (lnk l j) := by
  have hs := nbok_self hN
  have e : mh (lnr l i) (lnk l i) (lnr l j) (lnk l j) = (i - j) + (j - i) := by
    unfold mh lnr lnk
    split <;> omega
  rw [e]
  refine fw_wlk hs _ (Nat.le_refl _) _ _ _ (op_lt (ln_op ho hi)) ?_
  by_cases c : i ≤ j
  · have := (ln_wlk hS ho rfl (j - i) i (by omega)).1
    rw [show i + (j - i) = j from by omega] at this
    rwa [show i - j + (j - i) = j - i from by omega]
  · have := (ln_wlk hS ho rfl (i - j) j (by omega)).2
    rw [show j + (i - j) = i from by omega] at this
    rwa [show i - j + (j - i) = i - j from by omega]
theorem fw_mh (hS : BSpec B R C m) (hR : R ≤ 4) (hC : C ≤ 4) {r k r' k' : Nat} (h : Op R C m r k) (h' : Op R C m r' k') : mh r k r' k' ≤ fwA (bNB B) (cnt (opC m) (R * C)) (Pc C m r k) (Pc C m r' k') := by
  rcases fw_real (nb := bNB B) (n := cnt (opC m) (R * C)) _ (Nat.le_refl _) (Pc C m r k) (Pc C m r' k') with e | e
  · rw [e]
    have := h.1
    have := h.2.1
    have := h'.1
    have := h'.2.1
    unfold mh; omega
  · exact wlk_mh hS _ r k r' k' h h' e
end LW
section LQ
variable {B : BD} {go we tl tl' : Nat → Nat} {fb l : Nat}
theorem lnE {i j : Nat} (h : tl' (bLP B (4 * l + j)) = tl (bLP B (4 * l + i))) : lnQ B fb go tl' l j = lnQ B fb go tl l i ∧ lnW B we tl' l j = lnW B we tl l i ∧ lnT B go tl' l j = lnT B go tl l i := by
  unfold lnQ lnW lnT lnG
  rw [h]
  exact ⟨rfl, rfl, rfl⟩
theorem lnZ {i : Nat} (h : tl (bLP B (4 * l + i)) = 0) : lnQ B fb go tl l i = false := by
  unfold lnQ lnG
  rw [h]; rfl
/-- one place of the line is another's: more there, or less -/
theorem lv_more {L j : Nat} (hj : j < L) (h0 : tl (bLP B (4 * l + j)) = 0) (o : ∀ i, i < L → ¬ i = j → tl' (bLP B (4 * l + i)) = tl (bLP B (4 * l + i))) : lv (lnQ B fb go tl l) (lnW B we tl l) (lnT B go tl l) L 4 ≤ lv (lnQ B fb go tl' l) (lnW B we tl' l) (lnT B go tl' l) L 4 ∧ lv (lnQ B fb go tl' l) (lnW B we tl' l) (lnT B go tl' l) L 4 ≤ lv (lnQ B fb go tl l) (lnW B we tl l) (lnT B go tl l) L 4 + (if lnQ B fb go tl' l j = true then lnW B we tl' l j else 0) := by
  have z := lnZ (B := B) (go := go) (fb := fb) (l := l) h0
  have e1 : lv (lnQ B fb go tl l) (lnW B we tl l) (lnT B go tl l) L 4 = lv (ub (lnQ B fb go tl' l) j false) (lnW B we tl' l) (lnT B go tl' l) L 4 := lv_congr (fun i hi => by
    by_cases c : i = j
    · subst c
      refine ⟨z.trans (if_pos rfl).symm, fun q => ?_⟩
      have : ub (lnQ B fb go tl' l) i false i = false := if_pos rfl
      rw [this] at q; cases q
    · have := lnE (go := go) (we := we) (fb := fb) (o i hi c)
      refine ⟨?_, fun _ => ⟨this.2.1.symm, this.2.2.symm⟩⟩
      unfold ub
      rw [if_neg c]
      exact this.1.symm) 4
  have zz : ub (lnQ B fb go tl' l) j false j = false := if_pos rfl
  have a := lv_add (we := lnW B we tl' l) (tg := lnT B go tl' l) zz L 4
  cases d : lnQ B fb go tl' l j with
  | true =>
    have e2 : ub (ub (lnQ B fb go tl' l) j false) j true = lnQ B fb go tl' l := funext fun i => by
      unfold ub
      by_cases c : i = j
      · rw [if_pos c, c, d]
      · rw [if_neg c, if_neg c]
    rw [e2] at a
    rw [e1, if_pos rfl]
    exact a
  | false =>
    have e2 : ub (lnQ B fb go tl' l) j false = lnQ B fb go tl' l := funext fun i => by
      unfold ub
      by_cases c : i = j
      · rw [if_pos c, c, d]
      · rw [if_neg c]
    rw [e1, e2]
    exact ⟨Nat.le_refl _, by rw [if_neg (by decide)]; exact Nat.le_refl _⟩
theorem lv_same {L : Nat} (o : ∀ i, i < L → tl' (bLP B (4 * l + i)) = tl (bLP B (4 * l + i))) : lv (lnQ B fb go tl' l) (lnW B we tl' l) (lnT B go tl' l) L 4 = lv (lnQ B fb go tl l) (lnW B we tl l) (lnT B go tl l) L 4 :=
  lv_congr (fun i hi => by
    have := lnE (go := go) (we := we) (fb := fb) (o i hi)
    exact ⟨this.1, fun _ => this.2⟩) 4
/-- along the line -/
theorem lv_along {L a : Nat} (ha : a + 1 < L) (h0 : tl (bLP B (4 * l + (a + 1))) = 0) (h1 : tl' (bLP B (4 * l + a)) = 0) (h2 : tl' (bLP B (4 * l + (a + 1))) = tl (bLP B (4 * l + a))) (o : ∀ i, i < L → ¬ i = a → ¬ i = a + 1 → tl' (bLP B (4 * l + i)) = tl (bLP B (4 * l + i))) : lv (lnQ B fb go tl' l) (lnW B we tl' l) (lnT B go tl' l) L 4 = lv (lnQ B fb go tl l) (lnW B we tl l) (lnT B go tl l) L 4 := by
  have s := lnE (go := go) (we := we) (fb := fb) h2
  -- beyond L nothing counts
  have e1 : ∀ (t : Nat → Nat), lv (lnQ B fb go t l) (lnW B we t l) (lnT B go t l) L 4 = lv (fun i => if i < L then lnQ B fb go t l i else false) (fun i => if i < L then lnW B we t l i else 0) (fun i => if i < L then lnT B go t l i else 0) L 4 := fun t => lv_congr (fun j hj => ⟨(if_pos hj).symm, fun _ => ⟨(if_pos hj).symm, (if_pos hj).symm⟩⟩) 4
  rw [e1 tl', e1 tl]
  refine lv_swap (a := a) (fun j n1 n2 => ?_) ?_ ?_ ?_ (fun _ => ?_) L (by omega) 4
  · by_cases c : j < L
    · have := lnE (go := go) (we := we) (fb := fb) (o j c n1 n2)
      simp only [if_pos c]
      exact ⟨this.1, fun _ => this.2⟩
    · simp only [if_neg c]
      exact ⟨trivial, fun _ => ⟨trivial, trivial⟩⟩
  · show (if a + 1 < L then _ else _) = _
    rw [if_pos ha]; exact lnZ h0
  · show (if a < L then _ else _) = _
    rw [if_pos (by omega)]; exact lnZ h1
  · show (if a + 1 < L then _ else _) = (if a < L then _ else _)
    rw [if_pos ha, if_pos (by omega)]; exact s.1
  · show (if a + 1 < L then _ else _) = (if a < L then _ else _) ∧ (if a + 1 < L then _ else _) = (if a < L then _ else _)
    rw [if_pos ha, if_pos (by omega), if_pos ha, if_pos (by omega)]; exact s.2
end LQ
