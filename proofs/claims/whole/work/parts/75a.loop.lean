/-! the law: its loop; the claim -/
theorem ofNz (n : Nat) : Int32.ofNat n = zI (n : Int) := by
  rw [Int32.ofNat_eq_ofInt] <;> rfl
theorem and31 (x : Int32) : ∃ p : Nat, p < 32 ∧ x &&& zI 31 = zI (p : Int) := by
  exact 5
def Qend (r : Option Value ⊕ Nat) (w : jW) (d : Nat) : Prop := r = .inl (some (.int 1)) ∧ w.length = 149 ∧ d ≤ 512 ∧ jsl w ≤ 5430000
section LL
variable {L : Nat} {xs : Nat → Int32}
theorem law_op {w : jW} {S : ST} {Q : (Option Value ⊕ Nat) → jW → Nat → Prop} {i d p : Nat} (h : LQ w S) (hi : i + 4 ≤ L) (hL : L ≤ 2048) (hp : p < 32) {n a b l : Nat} {is : List jI} (hnext : ∀ w1 S1 d1, LQ w1 S1 → d1 ≤ d + 1 → jatx (some (L, xs)) jmL Q 97 (LV i) [] w1 d1) : ∃ ts t, (jM_sw jmL)[0]? = some ts ∧ (if (zI (p : Int)).toInt < 0 ∨ 30 < (zI (p : Int)).toInt then ts[0]? else ts[1 + ((zI (p : Int)).toInt - 0).toNat]?) = some t ∧ jatx (some (L, xs)) jmL Q t (LV i) [] w d := by
  have hz : (zI (p : Int)).toInt = (p : Int) := zI_toInt (by omega) (by omega)
  rw [hz]
  by_cases c0 : p = 0
  · subst c0
    exact ⟨_, 2, rfl, rfl, l_tray h hi hL hnext⟩
  by_cases c1 : p = 1
  · subst c1
    exact ⟨_, 5, rfl, rfl, l_lay h hi hL hnext⟩
  by_cases c2 : p = 2
  · subst c2
    exact ⟨_, 8, rfl, rfl, l_mix h hi hL hnext⟩
  by_cases c3 : p = 3
  · subst c3
    exact ⟨_, 11, rfl, rfl, l_setGoal h hi hL hnext⟩
  by_cases c4 : p = 4
  · subst c4
    exact ⟨_, 12, rfl, rfl, l_setFree h hi hL hnext⟩
  by_cases c5 : p = 5
  · subst c5
    exact ⟨_, 21, rfl, rfl, l_setWeight h hi hL hnext⟩
  by_cases c6 : p = 6
  · subst c6
    exact ⟨_, 24, rfl, rfl, l_setLimit h hi hL hnext⟩
  by_cases c7 : p = 7
  · subst c7
    exact ⟨_, 27, rfl, rfl, l_move h hi hL hnext⟩
  by_cases c8 : p = 8
  · subst c8
    exact ⟨_, 30, rfl, rfl, l_undo h hi hL hnext⟩
  by_cases c9 : p = 9
  · subst c9
    exact ⟨_, 33, rfl, rfl, l_setMacro h hi hL hnext⟩
  by_cases c10 : p = 10
  · subst c10
    exact ⟨_, 36, rfl, rfl, l_play h hi hL hnext⟩
  by_cases c11 : p = 11
  · subst c11
    exact ⟨_, 39, rfl, rfl, l_keep h hi hL hnext⟩
  by_cases c12 : p = 12
  · subst c12
    exact ⟨_, 42, rfl, rfl, l_restore h hi hL hnext⟩
  by_cases c13 : p = 13
  · subst c13
    exact ⟨_, 45, rfl, rfl, l_tileAt h hi hL hnext⟩
  by_cases c14 : p = 14
  · subst c14
    exact ⟨_, 48, rfl, rfl, l_rank h hi hL hnext⟩
  by_cases c15 : p = 15
  · subst c15
    exact ⟨_, 49, rfl, rfl, l_inversions h hi hL hnext⟩
  by_cases c16 : p = 16
  · subst c16
    exact ⟨_, 50, rfl, rfl, l_reaches h hi hL hnext⟩
  by_cases c17 : p = 17
  · subst c17
    exact ⟨_, 55, rfl, rfl, l_estimate h hi hL hnext⟩
  by_cases c18 : p = 18
  · subst c18
    exact ⟨_, 58, rfl, rfl, l_solve h hi hL hnext⟩
  by_cases c19 : p = 19
  · subst c19
    exact ⟨_, 61, rfl, rfl, l_deepen h hi hL hnext⟩
  by_cases c20 : p = 20
  · subst c20
    exact ⟨_, 64, rfl, rfl, l_both h hi hL hnext⟩
  by_cases c21 : p = 21
  · subst c21
    exact ⟨_, 67, rfl, rfl, l_searched h hi hL hnext⟩
  by_cases c22 : p = 22
  · subst c22
    exact ⟨_, 70, rfl, rfl, l_wayAt h hi hL hnext⟩
  by_cases c23 : p = 23
  · subst c23
    exact ⟨_, 73, rfl, rfl, l_hint h hi hL hnext⟩
  by_cases c24 : p = 24
  · subst c24
    exact ⟨_, 76, rfl, rfl, l_far h hi hL hnext⟩
  by_cases c25 : p = 25
  · subst c25
    exact ⟨_, 79, rfl, rfl, l_onlyWay h hi hL hnext⟩
  by_cases c26 : p = 26
  · subst c26
    exact ⟨_, 82, rfl, rfl, l_isFair h hi hL hnext⟩
  by_cases c27 : p = 27
  · subst c27
    exact ⟨_, 87, rfl, rfl, l_part h hi hL hnext⟩
  by_cases c28 : p = 28
  · subst c28
    exact ⟨_, 90, rfl, rfl, l_meanWeight h hi hL hnext⟩
  by_cases c29 : p = 29
  · subst c29
    exact ⟨_, 93, rfl, rfl, l_settled h hi hL hnext⟩
  by_cases c30 : p = 30
  · subst c30
    exact ⟨_, 96, rfl, rfl, l_errors h hi hL hnext⟩
  obtain rfl : p = 31 := by omega
  exact ⟨_, 97, rfl, rfl, hnext w S d h (by omega)⟩
end LL
