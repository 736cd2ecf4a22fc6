/-! shortest ways on the board -/
/-- from p to q by k steps, between them only places below m -/
def wlk (nb : Nat → Int) (m : Nat) : Nat → Nat → Nat → Prop
  | 0, p, q => p = q
  | 1, p, q => isNb nb p q = true
  | k + 2, p, q => ∃ x, x < m ∧ isNb nb p x = true ∧ wlk nb m (k + 1) x q
section WK
variable {nb : Nat → Int}
theorem wlk_split {m : Nat} : ∀ k p q, wlk nb (m + 1) k p q → wlk nb m k p q ∨ ∃ a b, a + b = k ∧ 1 ≤ a ∧ 1 ≤ b ∧ wlk nb m a p m ∧ wlk nb (m + 1) b m q
  | 0, p, q, h => Or.inl h
  | 1, p, q, h => Or.inl h
  | k + 2, p, q, h => by
    obtain ⟨x, hx, hn, hw⟩ := h
    by_cases c : x = m
    · subst c
      exact Or.inr ⟨1, k + 1, by omega, by omega, by omega, hn, hw⟩
    · rcases wlk_split (k + 1) x q hw with h | ⟨a, b, e, ha, hb, h1, h2⟩
      · exact Or.inl ⟨x, by omega, hn, h⟩
      · obtain ⟨a', rfl⟩ : ∃ a', a = a' + 1 := ⟨a - 1, by omega⟩
        exact Or.inr ⟨a' + 2, b, by omega, by omega, hb, ⟨x, by omega, hn, h1⟩, h2⟩
theorem wlk_app {n : Nat} : ∀ a b p x q, x < n → wlk nb n a p x → wlk nb n b x q → wlk nb n (a + b) p q
  | 0, b, p, x, q, _, h1, h2 => by
    have : p = x := h1
    subst this
    rw [Nat.zero_add]; exact h2
  | 1, 0, p, x, q, _, h1, h2 => by
    have : x = q := h2
    subst this
    exact h1
  | 1, b + 1, p, x, q, hx, h1, h2 => by
    rw [show 1 + (b + 1) = b + 2 from by omega]
    exact ⟨x, hx, h1, h2⟩
  | a + 2, b, p, x, q, hx, h1, h2 => by
    obtain ⟨y, hy, hn, hw⟩ := h1
    rw [show a + 2 + b = (a + b) + 2 from by omega]
    refine ⟨y, hy, hn, ?_⟩
    have := wlk_app (a + 1) b y x q hx hw h2
    rwa [show a + 1 + b = a + b + 1 from by omega] at this
theorem fw_up {m p q : Nat} : fwA nb (m + 1) p q ≤ fwA nb m p q := Nat.min_le_left _ _
theorem fw_wlk {n : Nat} (hs : ∀ p, p < n → isNb nb p p = false) : ∀ m, m ≤ n → ∀ k p q, p < n → wlk nb m k p q → fwA nb m p q ≤ k
  | 0, _, 0, p, q, hp, h => by
    have : p = q := h
    subst this
    show (if _ then _ else _) ≤ _
    rw [hs p hp, if_neg (by decide), if_pos rfl]
    exact Nat.le_refl _
  | 0, _, 1, p, q, hp, h => by
    show (if _ then _ else _) ≤ _
    rw [if_pos (show isNb nb p q = true from h)]
    exact Nat.le_refl _
  | 0, _, k + 2, p, q, hp, h => by
    obtain ⟨x, hx, _⟩ := h
    exact absurd hx (Nat.not_lt_zero _)
  | m + 1, hm, k, p, q, hp, h => by
    induction k using Nat.strongRecOn generalizing p q with
    | _ k ih =>
      rcases wlk_split k p q h with h | ⟨a, b, e, ha, hb, h1, h2⟩
      · exact Nat.le_trans fw_up (fw_wlk hs m (by omega) k p q hp h)
      · have r1 := fw_wlk hs m (by omega) a p m hp h1
        have r2 := ih b (by omega) m q (by omega) h2
        have r3 : fwA nb m m q ≤ b := by
          have : fwA nb (m + 1) m q = min (fwA nb m m q) (fwA nb m m m + fwA nb m m q) := rfl
          omega
        have : fwA nb (m + 1) p q = min (fwA nb m p q) (fwA nb m p m + fwA nb m m q) := rfl
        omega
theorem fw_real {n : Nat} : ∀ m, m ≤ n → ∀ p q, fwA nb m p q = 16 ∨ wlk nb n (fwA nb m p q) p q
  | 0, _, p, q => by
    show (if _ then _ else _) = _ ∨ wlk nb n (if _ then _ else _) p q
    by_cases c : isNb nb p q = true
    · rw [if_pos c]; exact Or.inr c
    · rw [if_neg c]
      by_cases d : p = q
      · rw [if_pos d]; exact Or.inr d
      · rw [if_neg d]; exact Or.inl rfl
  | m + 1, hm, p, q => by
    have e : fwA nb (m + 1) p q = min (fwA nb m p q) (fwA nb m p m + fwA nb m m q) := rfl
    have l1 := fw_le nb m p q
    rw [e]
    by_cases c : fwA nb m p q ≤ fwA nb m p m + fwA nb m m q
    · rw [Nat.min_eq_left c]; exact fw_real m (by omega) p q
    · rw [Nat.min_eq_right (by omega)]
      rcases fw_real (n := n) m (by omega) p m with h1 | h1
      · exfalso; omega
      · rcases fw_real (n := n) m (by omega) m q with h2 | h2
        · exfalso; omega
        · exact Or.inr (wlk_app _ _ p m q (by omega) h1 h2)
theorem wlk_cons {n p x q k : Nat} (hx : x < n) (hn : isNb nb p x = true) (h : wlk nb n k x q) : wlk nb n (k + 1) p q := by
  have := wlk_app 1 k p x q hx hn h
  rwa [Nat.add_comm] at this
theorem fw_step {n : Nat} (hs : ∀ p, p < n → isNb nb p p = false) {p x q : Nat} (hp : p < n) (hx : x < n) (hn : isNb nb p x = true) : fwA nb n p q ≤ 1 + fwA nb n x q := by
  rcases fw_real (nb := nb) n (Nat.le_refl _) x q with h | h
  · have := fw_le nb n p q; omega
  · have := fw_wlk hs n (Nat.le_refl _) _ p q hp (wlk_cons hx hn h)
    omega
end WK
