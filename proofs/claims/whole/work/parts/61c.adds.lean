/-! the reference: what a line adds -/
def crA (b : Bool) (C c : Nat) : Nat := if b = true then c / C else c % C
def crB (b : Bool) (C c : Nat) : Nat := if b = true then c % C else c / C
def adP (C m l i : Nat) : Nat := cnt (opC m) (lnC C l i)
def adQ (B : BD) (C m : Nat) (fb : Nat) (go tl : Nat → Nat) (b : Bool) (ln l i : Nat) : Bool := !decide (tl (adP C m l i) = 0) && (!fb.testBit (tl (adP C m l i)) && decide (crA b C (bCO B (go (tl (adP C m l i)))) = ln))
def adW (C m : Nat) (we tl : Nat → Nat) (l i : Nat) : Nat := we (tl (adP C m l i))
def adT (B : BD) (C m : Nat) (go tl : Nat → Nat) (b : Bool) (l i : Nat) : Nat := crB b C (bCO B (go (tl (adP C m l i))))
section AP
variable {B : BD} {R C m : Nat}
theorem bco_lt (hBr : BrOk B R C m) {q : Nat} (hq : q < bN B) : bCO B q < R * C ∧ m.testBit (bCO B q) = false ∧ cnt (opC m) (bCO B q) = q := by
  obtain ⟨hR, hC, hm, hT, hS⟩ := id hBr
  obtain ⟨i, hi, oi, ci⟩ := cnt_ex (p := opC m) (d := q) (n := R * C) (by rw [← hS.2.2.1]; exact hq)
  have bi : m.testBit i = false := by simpa [opC] using oi
  have e := hS.2.2.2.2.1 i hi bi
  rw [ci] at e
  rw [e]
  exact ⟨hi, bi, ci⟩
theorem on_ln (hBr : BrOk B R C m) {b : Bool} {ln l : Nat} (hl : l = if b = true then ln else 4 + ln) (hln : ln < if b = true then R else C) (ho : lnO R C m l) {q : Nat} (hq : q < bN B) : bOL B (16 * l + q) = if crA b C (bCO B q) = ln then (crB b C (bCO B q) : Int) else -1 := by
  obtain ⟨hR, hC, hm, hT, hS⟩ := id hBr
  have n16 := hBr.n16
  obtain ⟨r, k, o, rfl⟩ := op_of (R := R) (C := C) (m := m) (p := q) (by omega) (by rw [← hS.2.2.1]; exact hq)
  have ci := rc_lt o.1 o.2.1
  have eco : bCO B (Pc C m r k) = r * C + k := hS.2.2.2.2.1 _ ci o.2.2
  have hl8 : l < 8 := by cases b <;> simp at hl hln <;> omega
  have q16 : Pc C m r k < 16 := by omega
  obtain ⟨s1, s2, s3⟩ := (hS.2.2.2.2.2.2.2 l hl8).1 ho
  have eC : ∀ i, cnt (opC m) (lnC C l i) = Pc C m (lnr l i) (lnk l i) := fun i => by rw [lnC_rk]; rfl
  have no : (∀ i, i < lnL R C l → ¬ (lnr l i = r ∧ lnk l i = k)) → bOL B (16 * l + Pc C m r k) = -1 := fun z => s3 _ q16 (fun i hi e => by
    rw [eC] at e
    exact z i hi (op_inj (ln_op ho hi) o e))
  have yes : ∀ i, i < lnL R C l → lnr l i = r → lnk l i = k → bOL B (16 * l + Pc C m r k) = i := fun i hi e1 e2 => by
    have := (s2 i hi).2
    rwa [eC, e1, e2] at this
  rw [eco]
  unfold crA crB
  cases b with
  | true =>
    simp only [if_true] at hl hln ⊢
    rw [rc_div o.2.1, rc_mod o.2.1]
    have l4 : l < 4 := by omega
    have eL : lnL R C l = C := by unfold lnL; rw [if_pos l4, if_pos (by omega)]
    have e1 : ∀ i, lnr l i = l := fun i => if_pos l4
    have e2 : ∀ i, lnk l i = i := fun i => if_pos l4
    by_cases c : r = ln
    · rw [if_pos c]; exact yes k (by rw [eL]; exact o.2.1) (by rw [e1]; omega) (e2 k)
    · rw [if_neg c]; exact no (fun i hi z => c (by rw [e1] at z; omega))
  | false =>
    simp only [Bool.false_eq_true, if_false] at hl hln ⊢
    rw [rc_div o.2.1, rc_mod o.2.1]
    have l4 : ¬ l < 4 := by omega
    have eL : lnL R C l = R := by unfold lnL; rw [if_neg l4, if_pos (by omega)]
    have e1 : ∀ i, lnr l i = i := fun i => if_neg l4
    have e2 : ∀ i, lnk l i = l - 4 := fun i => if_neg l4
    by_cases c : k = ln
    · rw [if_pos c]; exact yes r (by rw [eL]; exact o.1) (e1 r) (by rw [e2]; omega)
    · rw [if_neg c]; exact no (fun i hi z => c (by rw [e2] at z; omega))
/-- the line adds what the class says -/
theorem ad_dt (hBr : BrOk B R C m) {b : Bool} {ln l fb : Nat} {go we tl : Nat → Nat} (hl : l = if b = true then ln else 4 + ln) (hln : ln < if b = true then R else C) (htl : ∀ j, j < bN B → tl j < bN B) (hgo : ∀ t, t < bN B → go t < bN B) (hwe : ∀ t, t < bN B → we t ≤ 9) (ho : lnO R C m l) : dtL B fb go we tl l = lv (adQ B C m fb go tl b ln l) (adW C m we tl l) (adT B C m go tl b l) (lnL R C l) 4 := by
  obtain ⟨hR, hC, hm, hT, hS⟩ := id hBr
  have hG : BGood B := ⟨R, C, m, hR, hC, hm, hT, hS⟩
  have hl8 : l < 8 := by cases b <;> simp at hl hln <;> omega
  obtain ⟨s1, s2, s3⟩ := (hS.2.2.2.2.2.2.2 l hl8).1 ho
  rw [dt_lv hG.ln htl hgo hwe hl8, s1]
  refine lv_congr (fun j hj => ?_) 4
  have ep : bLP B (4 * l + j) = adP C m l j := (s2 j hj).1
  have eG : lnG B tl l j = tl (adP C m l j) := by unfold lnG; rw [ep]
  have pl : adP C m l j < bN B := by
    have := hG.ln l hl8
    rw [← ep]; exact this.2.1 j (by omega)
  have on := on_ln hBr hl hln ho (hgo _ (htl _ pl))
  have eq : lnQ B fb go tl l j = adQ B C m fb go tl b ln l j := by
    unfold lnQ adQ
    rw [eG, on]
    congr 2
    by_cases c : crA b C (bCO B (go (tl (adP C m l j)))) = ln
    · rw [if_pos c, decide_eq_true c, decide_eq_false (by omega)]; rfl
    · rw [if_neg c, decide_eq_false c, decide_eq_true rfl]; rfl
  refine ⟨eq, fun h => ⟨by unfold lnW adW; rw [eG], ?_⟩⟩
  unfold lnT adT
  rw [eG, on]
  have : crA b C (bCO B (go (tl (adP C m l j)))) = ln := by
    unfold adQ at h
    simp only [Bool.and_eq_true, decide_eq_true_eq] at h
    exact h.2.2
  rw [if_pos this, Int.toNat_natCast]
theorem ad_no (hBr : BrOk B R C m) {l fb : Nat} {go we tl : Nat → Nat} (hl8 : l < 8) (ho : ¬ lnO R C m l) : dtL B fb go we tl l = 0 := by
  have := ((hBr.2.2.2.2.2.2.2.2.2.2.2 l hl8).2 ho).1
  unfold dtL
  rw [this]; rfl
end AP
