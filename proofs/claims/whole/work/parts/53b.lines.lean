/-! what a line costs, place by place -/
/-- the least weight that must go out of the first i so that the targets of those that stay grow, and lie below x -/
def lv (q : Nat → Bool) (we tg : Nat → Nat) : Nat → Nat → Nat
  | 0, _ => 0
  | i + 1, x => if q i = true then (if tg i < x then min (lv q we tg i x + we i) (lv q we tg i (tg i)) else lv q we tg i x + we i) else lv q we tg i x
section LV
variable {q : Nat → Bool} {we tg : Nat → Nat}
theorem lv_f {i x : Nat} (h : q i = false) : lv q we tg (i + 1) x = lv q we tg i x := by
  simp only [lv, h]; rfl
theorem lv_t {i x : Nat} (h : q i = true) : lv q we tg (i + 1) x = if tg i < x then min (lv q we tg i x + we i) (lv q we tg i (tg i)) else lv q we tg i x + we i := by
  simp only [lv, h]; rfl
theorem lv_mono : ∀ i {x y : Nat}, x ≤ y → lv q we tg i y ≤ lv q we tg i x
  | 0, _, _, _ => Nat.le_refl _
  | i + 1, x, y, h => by
    have ih := lv_mono i h
    cases c : q i with
    | false => rw [lv_f c, lv_f c]; exact ih
    | true =>
      rw [lv_t c, lv_t c]
      by_cases d : tg i < x
      · rw [if_pos d, if_pos (by omega)]; omega
      · rw [if_neg d]
        split <;> omega
theorem lv_congr {q' : Nat → Bool} {we' tg' : Nat → Nat} : ∀ {i : Nat}, (∀ j, j < i → q' j = q j ∧ (q j = true → we' j = we j ∧ tg' j = tg j)) → ∀ x, lv q' we' tg' i x = lv q we tg i x
  | 0, _, _ => rfl
  | i + 1, h, x => by
    have ih := lv_congr (i := i) (fun j hj => h j (by omega))
    obtain ⟨e1, e2⟩ := h i (by omega)
    cases c : q i with
    | false => rw [lv_f c, lv_f (by rw [e1, c]), ih]
    | true =>
      obtain ⟨e3, e4⟩ := e2 c
      rw [lv_t c, lv_t (by rw [e1, c]), ih, ih, e3, e4]
/-- one more -/
theorem lv_add {j : Nat} (hj : q j = false) : ∀ i x, lv q we tg i x ≤ lv (ub q j true) we tg i x ∧ lv (ub q j true) we tg i x ≤ lv q we tg i x + we j
  | 0, _ => ⟨Nat.le_refl _, Nat.zero_le _⟩
  | i + 1, x => by
    by_cases c : i = j
    · subst c
      have e : ∀ y, lv (ub q i true) we tg i y = lv q we tg i y := fun y => lv_congr (fun k hk => ⟨by unfold ub; rw [if_neg (by omega)], fun _ => ⟨rfl, rfl⟩⟩) y
      rw [lv_f hj, lv_t (q := ub q i true) (if_pos rfl), e, e]
      by_cases d : tg i < x
      · rw [if_pos d]
        have := lv_mono (q := q) (we := we) (tg := tg) i (show tg i ≤ x by omega)
        omega
      · rw [if_neg d]; omega
    · have e : ub q j true i = q i := by unfold ub; rw [if_neg c]
      have i1 := lv_add hj i x
      have i2 := lv_add hj i (tg i)
      cases d : q i with
      | false => rw [lv_f d, lv_f (e.trans d)]; exact i1
      | true =>
        rw [lv_t d, lv_t (e.trans d)]
        split <;> omega
/-- one goes a place on -/
theorem lv_swap {q' : Nat → Bool} {we' tg' : Nat → Nat} {a : Nat} (o : ∀ j, ¬ j = a → ¬ j = a + 1 → q' j = q j ∧ (q j = true → we' j = we j ∧ tg' j = tg j)) (h0 : q (a + 1) = false) (h1 : q' a = false) (h2 : q' (a + 1) = q a) (h3 : q a = true → we' (a + 1) = we a ∧ tg' (a + 1) = tg a) : ∀ i, ¬ i = a + 1 → ∀ x, lv q' we' tg' i x = lv q we tg i x
  | 0, _, _ => rfl
  | i + 1, hi, x => by
    by_cases c : i = a + 1
    · subst c
      have e : ∀ y, lv q' we' tg' a y = lv q we tg a y := lv_congr (fun j hj => o j (by omega) (by omega))
      cases d : q a with
      | false => rw [lv_f h0, lv_f d, lv_f (h2.trans d), lv_f h1, e]
      | true =>
        obtain ⟨e1, e2⟩ := h3 d
        rw [lv_f h0, lv_t d, lv_t (h2.trans d), e1, e2, lv_f h1, lv_f h1, e, e]
    · have ih := lv_swap o h0 h1 h2 h3 i c
      by_cases c2 : i = a
      · exfalso; omega
      · obtain ⟨e1, e2⟩ := o i c2 c
        cases d : q i with
        | false => rw [lv_f d, lv_f (e1.trans d), ih]
        | true =>
          obtain ⟨e3, e4⟩ := e2 d
          rw [lv_t d, lv_t (e1.trans d), ih, ih, e3, e4]
def grw (K : Nat → Bool) (t : Nat → Nat) (c X : Nat) : Prop := (∀ j, j < c → K j = true → t j < X) ∧ ∀ a b, a < b → b < c → K a = true → K b = true → t a < t b
def outW (K : Nat → Bool) (w : Nat → Nat) (j : Nat) : Nat := if K j = true then 0 else w j
/-- of what is gathered, those that may stay -/
theorem gth_lv : ∀ i X, (∀ K, grw K (gth q we tg i).2.2 (gth q we tg i).1 X → lv q we tg i X ≤ sm (outW K (gth q we tg i).2.1) (gth q we tg i).1) ∧ ∃ K, grw K (gth q we tg i).2.2 (gth q we tg i).1 X ∧ sm (outW K (gth q we tg i).2.1) (gth q we tg i).1 = lv q we tg i X
  | 0, X => ⟨fun _ _ => Nat.zero_le _, fun _ => false, ⟨fun j hj => absurd hj (Nat.not_lt_zero _), fun a b _ hb => absurd hb (Nat.not_lt_zero _)⟩, rfl⟩
  | i + 1, X => by
    cases d : q i with
    | false =>
      rw [gth_f (by rw [d]; decide), lv_f d]
      exact gth_lv i X
    | true =>
      rw [gth_t d, lv_t d]
      generalize hg : gth q we tg i = g
      obtain ⟨c, w, t⟩ := g
      have i1 := gth_lv i X
      have i2 := gth_lv i (tg i)
      rw [hg] at i1 i2
      dsimp only at i1 i2 ⊢
      have sme : ∀ K : Nat → Bool, sm (outW K (un w c (we i))) (c + 1) = sm (outW K w) c + outW K (un w c (we i)) c := fun K => by
        show sm (outW K (un w c (we i))) c + _ = _
        congr 1
        refine sm_congr (fun j hj => ?_)
        unfold outW
        rw [un_ne (by omega)]
      have tc : ∀ j, j < c → un t c (tg i) j = t j := fun j hj => un_ne (by omega)
      refine ⟨fun K hK => ?_, ?_⟩
      · rw [sme K]
        obtain ⟨k1, k2⟩ := hK
        by_cases e : K c = true
        · have x1 := k1 c (by omega) e
          rw [un_eq] at x1
          rw [if_pos x1]
          have := i2.1 K ⟨fun j hj hk => by
            have := k2 j c hj (by omega) hk e
            rwa [un_eq, tc j hj] at this, fun a b hab hb ha hb' => by
            have := k2 a b hab (by omega) ha hb'
            rwa [tc a (by omega), tc b hb] at this⟩
          have : outW K (un w c (we i)) c = 0 := by unfold outW; rw [if_pos e]
          omega
        · have := i1.1 K ⟨fun j hj hk => by
            have := k1 j (by omega) hk
            rwa [tc j hj] at this, fun a b hab hb ha hb' => by
            have := k2 a b hab (by omega) ha hb'
            rwa [tc a (by omega), tc b hb] at this⟩
          have : outW K (un w c (we i)) c = we i := by unfold outW; rw [if_neg e, un_eq]
          split <;> omega
      · by_cases e : tg i < X ∧ lv q we tg i (tg i) ≤ lv q we tg i X + we i
        · obtain ⟨K, ⟨k1, k2⟩, k3⟩ := i2.2
          have kc : ∀ j, j < c → ub K c true j = K j := fun j hj => by unfold ub; rw [if_neg (by omega)]
          refine ⟨ub K c true, ⟨fun j hj hk => ?_, fun a b hab hb ha hb' => ?_⟩, ?_⟩
          · by_cases z : j = c
            · rw [z, un_eq]; exact e.1
            · rw [kc j (by omega)] at hk
              rw [tc j (by omega)]
              have := k1 j (by omega) hk; omega
          · rw [kc a (by omega)] at ha
            rw [tc a (by omega)]
            by_cases z : b = c
            · rw [z, un_eq]; exact k1 a (by omega) ha
            · rw [kc b (by omega)] at hb'
              rw [tc b (by omega)]
              exact k2 a b hab (by omega) ha hb'
          · rw [sme, if_pos e.1]
            have o1 : outW (ub K c true) (un w c (we i)) c = 0 := by unfold outW; rw [if_pos (show ub K c true c = true from if_pos rfl)]
            have o2 : sm (outW (ub K c true) w) c = sm (outW K w) c := sm_congr (fun j hj => by unfold outW; rw [kc j hj])
            rw [o1, o2, k3]
            omega
        · obtain ⟨K, ⟨k1, k2⟩, k3⟩ := i1.2
          have kc : ∀ j, j < c → ub K c false j = K j := fun j hj => by unfold ub; rw [if_neg (by omega)]
          have kf : ub K c false c = false := if_pos rfl
          refine ⟨ub K c false, ⟨fun j hj hk => ?_, fun a b hab hb ha hb' => ?_⟩, ?_⟩
          · by_cases z : j = c
            · rw [z, kf] at hk; cases hk
            · rw [kc j (by omega)] at hk
              rw [tc j (by omega)]
              exact k1 j (by omega) hk
          · by_cases z : b = c
            · rw [z, kf] at hb'; cases hb'
            · rw [kc a (by omega)] at ha
              rw [kc b (by omega)] at hb'
              rw [tc a (by omega), tc b (by omega)]
              exact k2 a b hab (by omega) ha hb'
          · rw [sme]
            have o1 : outW (ub K c false) (un w c (we i)) c = we i := by unfold outW; rw [kf, un_eq]; rfl
            have o2 : sm (outW (ub K c false) w) c = sm (outW K w) c := sm_congr (fun j hj => by unfold outW; rw [kc j hj])
            rw [o1, o2, k3]
            by_cases z : tg i < X
            · rw [if_pos z]
              have : ¬ lv q we tg i (tg i) ≤ lv q we tg i X + we i := fun z2 => e ⟨z, z2⟩
              omega
            · rw [if_neg z]
end LV
