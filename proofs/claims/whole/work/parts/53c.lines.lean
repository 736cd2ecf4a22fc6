/-! what a line costs, by what may stay -/
theorem clm_and {t : Nat → Nat} {T s : Nat} : ∀ o, clm t T o &&& s = 0 ↔ ∀ x, x < o → s.testBit x = true → t x < T
  | 0 => ⟨fun _ x hx => absurd hx (Nat.not_lt_zero _), fun _ => Nat.zero_and _⟩
  | o + 1 => by
    have ih := clm_and (t := t) (T := T) (s := s) o
    simp only [clm]
    by_cases c : t o < T
    · rw [if_pos c, ih]
      refine ⟨fun h x hx hs => ?_, fun h x hx => h x (by omega)⟩
      by_cases e : x = o
      · rw [e]; exact c
      · exact h x (by omega) hs
    · rw [if_neg c]
      constructor
      · intro h x hx hs
        have hz : ∀ y, (((clm t T o).testBit y || (2 ^ o).testBit y) && s.testBit y) = false := fun y => by
          rw [← Nat.testBit_or, ← Nat.testBit_and, h, Nat.zero_testBit]
        by_cases e : x = o
        · have := hz o
          rw [tb_pow, show s.testBit o = true from e ▸ hs] at this
          simp at this
        · refine ih.mp (Nat.eq_of_testBit_eq (fun y => ?_)) x (by omega) hs
          have := hz y
          rw [Nat.testBit_and, Nat.zero_testBit]
          cases a : (clm t T o).testBit y with
          | false => rfl
          | true => rw [a] at this; simpa using this
      · intro h
        refine Nat.eq_of_testBit_eq (fun y => ?_)
        have z := ih.mpr (fun x hx => h x (by omega))
        have zy : ((clm t T o).testBit y && s.testBit y) = false := by rw [← Nat.testBit_and, z, Nat.zero_testBit]
        have so : s.testBit o = false := by
          cases a : s.testBit o with
          | false => rfl
          | true => exact absurd (h o (by omega) a) c
        rw [Nat.testBit_and, Nat.testBit_or, Nat.zero_testBit, tb_pow]
        by_cases e : o = y
        · rw [← e, so, Bool.and_false]
        · rw [decide_eq_false e, Bool.or_false]; exact zy
theorem bits_of (K : Nat → Bool) : ∀ c, ∃ s, s < 2 ^ c ∧ ∀ j, j < c → s.testBit j = K j
  | 0 => ⟨0, by decide, fun j hj => absurd hj (Nat.not_lt_zero _)⟩
  | c + 1 => by
    obtain ⟨s, h1, h2⟩ := bits_of K c
    have p : 2 ^ (c + 1) = 2 ^ c + 2 ^ c := by rw [Nat.pow_succ]; omega
    cases e : K c with
    | false =>
      refine ⟨s, by omega, fun j hj => ?_⟩
      by_cases z : j = c
      · rw [z, e]; exact Nat.testBit_lt_two_pow h1
      · exact h2 j (by omega)
    | true =>
      refine ⟨s ||| 2 ^ c, Nat.or_lt_two_pow (by omega) (by omega), fun j hj => ?_⟩
      rw [Nat.testBit_or, tb_pow]
      by_cases z : j = c
      · rw [z, e, decide_eq_true rfl, Bool.or_true]
      · rw [decide_eq_false (fun q => z q.symm), Bool.or_false]; exact h2 j (by omega)
theorem gth_x {q : Nat → Bool} {we tg : Nat → Nat} {m : Nat} : ∀ {i : Nat}, (∀ x, x < i → q x = true → tg x < m) → ∀ j, j < (gth q we tg i).1 → (gth q we tg i).2.2 j < m
  | 0, _, j, hj => absurd hj (Nat.not_lt_zero _)
  | i + 1, h, j, hj => by
    cases d : q i with
    | false =>
      rw [gth_f (by rw [d]; decide)] at hj ⊢
      exact gth_x (fun x hx => h x (by omega)) j hj
    | true =>
      rw [gth_t d] at hj ⊢
      dsimp only at hj ⊢
      by_cases z : j = (gth q we tg i).1
      · rw [z, un_eq]; exact h i (by omega) d
      · rw [un_ne z]; exact gth_x (fun x hx => h x (by omega)) j (by omega)
theorem sm_bd {f : Nat → Nat} {m : Nat} : ∀ {c : Nat}, (∀ j, j < c → f j ≤ m) → sm f c ≤ m * c
  | 0, _ => Nat.zero_le _
  | c + 1, h => by
    have := sm_bd (c := c) (fun j hj => h j (by omega))
    have := h c (by omega)
    show sm f c + f c ≤ m * (c + 1)
    rw [Nat.mul_succ]; omega
theorem dtA_lv {q : Nat → Bool} {we tg : Nat → Nat} {i : Nat} (hi : i ≤ 4) (hw : ∀ x, x < i → we x ≤ 9) (ht : ∀ x, x < i → q x = true → tg x < 4) : dtA (gth q we tg i) = lv q we tg i 4 := by
  have g1 := gth_lv (q := q) (we := we) (tg := tg) i 4
  have c4 := gth_le q we tg i
  have t4 := gth_x (we := we) ht
  have w9 := gth_w (q := q) (tg := tg) hw
  generalize gth q we tg i = g at *
  obtain ⟨c, w, t⟩ := g
  dsimp only at g1 c4 t4 w9
  symm
  refine lsV_un ?_ (fun s hs ho => ?_) ?_
  · have := g1.1 (fun _ => false) ⟨(fun j _ h => by cases h), (fun a b _ _ h => by cases h)⟩
    have b9 : sm (outW (fun _ => false) w) c ≤ 9 * c := sm_bd (fun j hj => by unfold outW; exact w9 j hj)
    omega
  · unfold okS at ho
    have ho := of_decide_eq_true ho
    exact g1.1 s.testBit ⟨fun j hj _ => t4 j hj, fun a b hab hb ha hb' => (clm_and b).mp (ho b hb hb') a hab ha⟩
  · obtain ⟨K, ⟨k1, k2⟩, k3⟩ := g1.2
    obtain ⟨s, h1, h2⟩ := bits_of K c
    refine Or.inr ⟨s, h1, ?_, ?_⟩
    · unfold okS
      refine decide_eq_true (fun j hj hsj => (clm_and j).mpr (fun x hx hsx => ?_))
      rw [h2 x (by omega)] at hsx
      rw [h2 j hj] at hsj
      exact k2 x j hx hj hsx hsj
    · rw [← k3]
      refine sm_congr (fun j hj => ?_)
      unfold cstF outW
      rw [h2 j hj]
theorem dt_lv {B : BD} (hL : BLn B) {fb : Nat} {go we tl : Nat → Nat} (hr : ∀ j, j < bN B → tl j < bN B) (hgo : ∀ t, t < bN B → go t < bN B) (hwe : ∀ t, t < bN B → we t ≤ 9) {l : Nat} (hl : l < 8) : dtL B fb go we tl l = lv (lnQ B fb go tl l) (lnW B we tl l) (lnT B go tl l) (bLL B l) 4 := by
  obtain ⟨h1, h2, h3⟩ := hL l hl
  refine dtA_lv h1 (fun x hx => hwe _ (hr _ (h2 x hx))) (fun x hx _ => ?_)
  have := h3 _ (hgo _ (hr _ (h2 x hx)))
  unfold lnT lnG
  omega
