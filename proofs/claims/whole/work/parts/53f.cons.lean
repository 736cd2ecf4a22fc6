/-! estimates and moves -/
theorem sm_le0 {f g : Nat → Nat} : ∀ {n : Nat}, (∀ i, i < n → f i ≤ g i) → sm f n ≤ sm g n
  | 0, _ => Nat.le_refl _
  | n + 1, h => by
    have := sm_le0 (n := n) (fun i hi => h i (by omega))
    have := h n (by omega)
    show sm f n + f n ≤ sm g n + g n
    omega
theorem sm_leX {f g : Nat → Nat} {j X : Nat} : ∀ {n : Nat}, j < n → (∀ i, i < n → ¬ i = j → f i ≤ g i) → f j ≤ g j + X → sm f n ≤ sm g n + X
  | 0, h, _, _ => absurd h (Nat.not_lt_zero _)
  | n + 1, h, o, hj => by
    show sm f n + f n ≤ sm g n + g n + X
    by_cases c : j = n
    · have := sm_le0 (f := f) (g := g) (n := n) (fun i hi => o i (by omega) (by omega))
      rw [c] at hj; omega
    · have := sm_leX (n := n) (by omega) (fun i hi hne => o i (by omega) hne) hj
      have := o n (by omega) (fun z => c z.symm)
      omega
section MV
variable {pl : Nat → Nat} {g q t : Nat}
theorem mvP_0 : mvP pl g q t 0 = q := un_eq
theorem mvP_t (h : ¬ t = 0) : mvP pl g q t t = g := by unfold mvP; rw [un_ne h, un_eq]
theorem mvP_o {s : Nat} (h0 : ¬ s = 0) (h1 : ¬ s = t) : mvP pl g q t s = pl s := by unfold mvP; rw [un_ne h0, un_ne h1]
variable {tl : Nat → Nat}
theorem mvT_q : mvT tl g q q = 0 := un_eq
theorem mvT_g (h : ¬ g = q) : mvT tl g q g = tl q := by unfold mvT; rw [un_ne h, un_eq]
theorem mvT_o {p : Nat} (h0 : ¬ p = q) (h1 : ¬ p = g) : mvT tl g q p = tl p := by unfold mvT; rw [un_ne h0, un_ne h1]
end MV
section CO
variable {B : BD} {go we tl pl : Nat → Nat} {fb q d t : Nat}
theorem dsp_mv (ht : 0 < t ∧ t < bN B) {g : Nat} : sm (dspF fb go we pl) (bN B) ≤ sm (dspF fb go we (mvP pl g q t)) (bN B) + we t := by
  refine sm_leX ht.2 (fun i hi hne => ?_) ?_
  · unfold dspF
    by_cases c : i = 0
    · rw [if_pos (Or.inl c)]; exact Nat.zero_le _
    · rw [mvP_o c hne]; exact Nat.le_refl _
  · have : dspF fb go we pl t ≤ we t := by unfold dspF; split <;> omega
    omega
theorem way_mv (ht : 0 < t ∧ t < bN B) (hp : pl t = q) {g : Nat} (hs : bST B (16 * q + go t) ≤ 1 + bST B (16 * g + go t)) : sm (wayF B fb go we pl) (bN B) ≤ sm (wayF B fb go we (mvP pl g q t)) (bN B) + we t := by
  refine sm_leX ht.2 (fun i hi hne => ?_) ?_
  · unfold wayF
    by_cases c : i = 0
    · rw [if_pos (Or.inl c)]; exact Nat.zero_le _
    · rw [mvP_o c hne]; exact Nat.le_refl _
  · unfold wayF
    by_cases c : t = 0 ∨ fb.testBit t = true
    · rw [if_pos c]; exact Nat.zero_le _
    · rw [if_neg c, if_neg c, mvP_t (by omega), hp]
      have := Nat.mul_le_mul_left (we t) hs
      rw [Nat.mul_add, Nat.mul_one] at this
      omega
theorem way_mv2 (ht : 0 < t ∧ t < bN B) (hp : pl t = q) (hb : fb.testBit t = false) {g : Nat} (hs : bST B (16 * g + go t) = bST B (16 * q + go t) + 1) : sm (wayF B fb go we (mvP pl g q t)) (bN B) = sm (wayF B fb go we pl) (bN B) + we t := by
  have c : ¬ (t = 0 ∨ fb.testBit t = true) := by
    rintro (z | z)
    · omega
    · rw [hb] at z; cases z
  have := sm_ch (f := wayF B fb go we (mvP pl g q t)) (g := wayF B fb go we pl) ht.2 (fun i hi hne => by
    unfold wayF
    by_cases c : i = 0
    · rw [if_pos (Or.inl c), if_pos (Or.inl c)]
    · rw [mvP_o c hne])
  have e1 : wayF B fb go we (mvP pl g q t) t = we t * bST B (16 * q + go t) + we t := by
    unfold wayF
    rw [if_neg c, mvP_t (by omega), hs, Nat.mul_add, Nat.mul_one]
  have e2 : wayF B fb go we pl t = we t * bST B (16 * q + go t) := by
    unfold wayF
    rw [if_neg c, hp]
  omega
def onL (l r k : Nat) : Prop := (l < 4 ∧ l = r) ∨ (4 ≤ l ∧ l - 4 = k)
theorem pairs_mv {R C m : Nat} (hBr : BrOk B R C m) (hA : Arr (bN B) tl pl) (hgo : ∀ t, t < bN B → go t < bN B) (hwe : ∀ t, t < bN B → we t ≤ 9) (hd : d < 4) (e1 : bNB B (4 * pl 0 + d) = (q : Int)) (e2 : q < bN B) (e3 : ¬ q = pl 0) (ht : tl q = t) (t0 : 0 < t ∧ t < bN B) :
    ∃ Y, sm (dtL B fb go we tl) 8 ≤ sm (dtL B fb go we (mvT tl (pl 0) q)) 8 + Y ∧ (Y = 0 ∨ (Y = we t ∧ fb.testBit t = false ∧ bST B (16 * pl 0 + go t) = bST B (16 * q + go t) + 1)) := by
  obtain ⟨hR, hC, hm, hT, hS⟩ := id hBr
  have hB : BGood B := ⟨R, C, m, hR, hC, hm, hT, hS⟩
  have n3 := hB.rng
  have hN := hB.nb
  have hL := hB.ln
  have eN : bN B = cnt (opC m) (R * C) := hS.2.2.1
  have p0 := (hA.2 0 (by omega)).1
  have A' := hA.mv (by omega) e2 e3
  have hr' : ∀ j, j < bN B → mvT tl (pl 0) q j < bN B := fun j hj => (A'.1 j hj).1
  have hr : ∀ j, j < bN B → tl j < bN B := fun j hj => (hA.1 j hj).1
  obtain ⟨rg, kg, og, eg⟩ := op_of (R := R) (C := C) (m := m) (p := pl 0) (by omega) (by omega)
  obtain ⟨rq, kq, oq, eq, sd⟩ := nb_geo hS og hd (eg ▸ e1)
  have tg0 : tl (pl 0) = 0 := (hA.2 0 (by omega)).2
  have og1 := og.1
  have og2 := og.2.1
  have oq1 := oq.1
  have oq2 := oq.2.1
  have hlp : (if d = 0 ∨ d = 3 then rq else 4 + kq) < 8 := by split <;> omega
  generalize elp : (if d = 0 ∨ d = 3 then rq else 4 + kq) = lp at hlp
  -- each line
  have line : ∀ l, l < 8 → dtL B fb go we tl l ≤ dtL B fb go we (mvT tl (pl 0) q) l ∨ (onL l rq kq ∧ ¬ onL l rg kg ∧ dtL B fb go we tl l ≤ dtL B fb go we (mvT tl (pl 0) q) l + (if fb.testBit t = false ∧ ¬ bOL B (16 * l + go t) = -1 then we t else 0)) := by
    intro l hl
    rw [dt_lv hL hr hgo hwe hl, dt_lv hL hr' hgo hwe hl]
    rcases ln_spec hS hl with ⟨h0, -⟩ | ⟨ho, eL, eP, -⟩
    · rw [h0]; exact Or.inl (Nat.le_refl _)
    · rw [eL]
      generalize eLL : lnL R C l = L at *
      have eP' : ∀ i, i < L → bLP B (4 * l + i) = Pc C m (lnr l i) (lnk l i) := fun i hi => (eP i hi).1
      have isq : ∀ i, i < L → (bLP B (4 * l + i) = q ↔ lnr l i = rq ∧ lnk l i = kq) := fun i hi => by rw [eP' i hi, eq]; exact ln_on ho (by omega) oq
      have isg : ∀ i, i < L → (bLP B (4 * l + i) = pl 0 ↔ lnr l i = rg ∧ lnk l i = kg) := fun i hi => by rw [eP' i hi, eg]; exact ln_on ho (by omega) og
      have mo : ∀ i, i < L → ¬ bLP B (4 * l + i) = q → ¬ bLP B (4 * l + i) = pl 0 → mvT tl (pl 0) q (bLP B (4 * l + i)) = tl (bLP B (4 * l + i)) := fun i _ h1 h2 => mvT_o h1 h2
      have inj : ∀ i j, i < L → j < L → lnr l i = lnr l j → lnk l i = lnk l j → i = j := fun i j _ _ h1 h2 => by
        unfold lnr at h1; unfold lnk at h2
        split at h1
        · next c => rw [if_pos c, if_pos c] at h2; exact h2
        · exact h1
      by_cases hq : ∃ i, i < L ∧ lnr l i = rq ∧ lnk l i = kq
      · obtain ⟨iq, iqL, iq1, iq2⟩ := hq
        have pq := (isq iq iqL).mpr ⟨iq1, iq2⟩
        by_cases hg : ∃ i, i < L ∧ lnr l i = rg ∧ lnk l i = kg
        · obtain ⟨ig, igL, ig1, ig2⟩ := hg
          have pg := (isg ig igL).mpr ⟨ig1, ig2⟩
          left
          have oth : ∀ i, i < L → ¬ i = iq → ¬ i = ig → mvT tl (pl 0) q (bLP B (4 * l + i)) = tl (bLP B (4 * l + i)) := fun i hi h1 h2 => mo i hi (fun z => h1 (by have := (isq i hi).mp z; exact inj i iq hi iqL (by omega) (by omega))) (fun z => h2 (by have := (isg i hi).mp z; exact inj i ig hi igL (by omega) (by omega)))
          have near : ig = iq + 1 ∨ iq = ig + 1 := by
            unfold lnr at iq1 ig1; unfold lnk at iq2 ig2; unfold stD at sd
            by_cases c : l < 4
            · rw [if_pos c] at iq1 ig1 iq2 ig2; omega
            · rw [if_neg c] at iq1 ig1 iq2 ig2; omega
          have tq : mvT tl (pl 0) q (bLP B (4 * l + iq)) = 0 := by rw [pq]; exact mvT_q
          have tg : mvT tl (pl 0) q (bLP B (4 * l + ig)) = tl (bLP B (4 * l + iq)) := by rw [pg, pq]; exact mvT_g (fun z => e3 z.symm)
          have zg : tl (bLP B (4 * l + ig)) = 0 := by rw [pg]; exact tg0
          rcases near with rfl | rfl
          · exact Nat.le_of_eq (lv_along igL zg tq tg oth).symm
          · exact Nat.le_of_eq (lv_along (tl := mvT tl (pl 0) q) (tl' := tl) iqL tq zg tg.symm (fun i hi h1 h2 => (oth i hi h2 h1).symm))
        · have ngx : ∀ i, i < L → ¬ bLP B (4 * l + i) = pl 0 := fun i hi z => hg ⟨i, hi, (isg i hi).mp z⟩
          right
          refine ⟨?_, ?_, ?_⟩
          · unfold onL; unfold lnr at iq1; unfold lnk at iq2
            by_cases c : l < 4
            · rw [if_pos c] at iq1; omega
            · rw [if_neg c] at iq2; omega
          · intro z
            refine hg ?_
            unfold onL at z
            rcases z with ⟨z1, z2⟩ | ⟨z1, z2⟩
            · refine ⟨kg, ?_, ?_, ?_⟩
              · rw [← eLL]; unfold lnL; rw [if_pos z1, if_pos (by omega)]; omega
              · unfold lnr; rw [if_pos z1]; exact z2
              · unfold lnk; rw [if_pos z1]
            · refine ⟨rg, ?_, ?_, ?_⟩
              · rw [← eLL]; unfold lnL; rw [if_neg (by omega), if_pos (by omega)]; omega
              · unfold lnr; rw [if_neg (by omega)]
              · unfold lnk; rw [if_neg (by omega)]; exact z2
          · have a := (lv_more (B := B) (go := go) (we := we) (fb := fb) (l := l) (tl := mvT tl (pl 0) q) (tl' := tl) (L := L) (j := iq) iqL (by rw [pq]; exact mvT_q) (fun i hi hne => (mo i hi (fun z => hne (by have := (isq i hi).mp z; exact inj i iq hi iqL (by omega) (by omega))) (ngx i hi)).symm)).2
            refine Nat.le_trans a (Nat.add_le_add_left ?_ _)
            have eT : lnG B tl l iq = t := by unfold lnG; rw [pq, ht]
            by_cases c : lnQ B fb go tl l iq = true
            · rw [if_pos c]
              unfold lnQ at c
              rw [eT] at c
              simp at c
              rw [if_pos ⟨by simpa using c.2.1, c.2.2⟩]
              unfold lnW
              rw [eT]; exact Nat.le_refl _
            · rw [if_neg c]; exact Nat.zero_le _
      · have nqx : ∀ i, i < L → ¬ bLP B (4 * l + i) = q := fun i hi z => hq ⟨i, hi, (isq i hi).mp z⟩
        left
        by_cases hg : ∃ i, i < L ∧ lnr l i = rg ∧ lnk l i = kg
        · obtain ⟨ig, igL, ig1, ig2⟩ := hg
          have pg := (isg ig igL).mpr ⟨ig1, ig2⟩
          exact (lv_more (j := ig) igL (by rw [pg]; exact tg0) (fun i hi hne => mo i hi (nqx i hi) (fun z => hne (by have := (isg i hi).mp z; exact inj i ig hi igL (by omega) (by omega))))).1
        · exact Nat.le_of_eq (lv_same (fun i hi => mo i hi (nqx i hi) (fun z => hg ⟨i, hi, (isg i hi).mp z⟩))).symm
  have only : ∀ l, l < 8 → onL l rq kq → ¬ onL l rg kg → l = lp := by
    intro l hl h1 h2
    rw [← elp]
    unfold onL at h1 h2
    unfold stD at sd
    by_cases c : d = 0 ∨ d = 3
    · rw [if_pos c]; omega
    · rw [if_neg c]; omega
  refine ⟨if fb.testBit t = false ∧ ¬ bOL B (16 * lp + go t) = -1 then we t else 0, sm_leX hlp (fun l hl hne => ?_) ?_, ?_⟩
  · rcases line l hl with h | ⟨h1, h2, -⟩
    · exact h
    · exact absurd (only l hl h1 h2) hne
  · rcases line lp hlp with h | ⟨-, -, h⟩
    · omega
    · exact h
  · by_cases c : fb.testBit t = false ∧ ¬ bOL B (16 * lp + go t) = -1
    · rw [if_pos c]
      right
      refine ⟨rfl, c.1, ?_⟩
      have gt := hgo t t0.2
      rcases ln_spec hS hlp with ⟨-, h0⟩ | ⟨ho, eL, eP, eO⟩
      · exact absurd (h0 (go t) (by omega)) c.2
      · have : ∃ j, j < lnL R C lp ∧ Pc C m (lnr lp j) (lnk lp j) = go t := by
          apply Classical.byContradiction
          intro z
          exact c.2 (eO (go t) (by omega) (fun i hi e => z ⟨i, hi, e⟩))
        obtain ⟨j, hj, ej⟩ := this
        have oj := ln_op ho hj
        have onq : ∃ i, i < lnL R C lp ∧ lnr lp i = rq ∧ lnk lp i = kq := by
          rw [← elp]
          unfold stD at sd
          by_cases c : d = 0 ∨ d = 3
          · rw [if_pos c]
            refine ⟨kq, ?_, ?_, ?_⟩
            · unfold lnL; rw [if_pos (by omega), if_pos (by omega)]; omega
            · unfold lnr; rw [if_pos (by omega)]
            · unfold lnk; rw [if_pos (by omega)]
          · rw [if_neg c]
            refine ⟨rq, ?_, ?_, ?_⟩
            · unfold lnL; rw [if_neg (by omega), if_pos (by omega)]; omega
            · unfold lnr; rw [if_neg (by omega)]
            · unfold lnk; rw [if_neg (by omega)]; omega
        obtain ⟨iq, iqL, iq1, iq2⟩ := onq
        have d1 := ln_dist hS (eN ▸ hN) ho iqL hj
        rw [iq1, iq2, ej, ← eq] at d1
        have d2 := fw_mh hS hR.2 hC.2 og oj
        rw [ej, ← eg] at d2
        have d3 : fwA (bNB B) (cnt (opC m) (R * C)) (pl 0) (go t) ≤ 1 + fwA (bNB B) (cnt (opC m) (R * C)) q (go t) := fw_step (nbok_self (eN ▸ hN)) (by omega) (by omega) (isNb_d.mpr ⟨d, hd, e1⟩)
        have d4 : mh rg kg (lnr lp j) (lnk lp j) = mh rq kq (lnr lp j) (lnk lp j) + 1 := by
          have oj1 := oj.1
          have oj2 := oj.2.1
          unfold mh
          unfold stD at sd
          unfold lnr lnk
          rw [← elp]
          by_cases c : d = 0 ∨ d = 3
          · rw [if_pos c, if_pos (by omega), if_pos (by omega)]; omega
          · rw [if_neg c, if_neg (by omega), if_neg (by omega)]; omega
        rw [hS.2.2.2.2.2.2.1 _ _ p0 gt, hS.2.2.2.2.2.2.1 _ _ e2 gt, eN]
        omega
    · rw [if_neg c]; exact Or.inl rfl
end CO
