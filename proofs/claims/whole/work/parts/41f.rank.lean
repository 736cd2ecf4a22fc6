/-! sums over a permutation; ranks -/
def sm (f : Nat → Nat) : Nat → Nat
  | 0 => 0
  | k + 1 => sm f k + f k
theorem sm_congr {f g : Nat → Nat} : ∀ {n : Nat}, (∀ i, i < n → f i = g i) → sm f n = sm g n
  | 0, _ => rfl
  | k + 1, h => by simp only [sm]; rw [sm_congr (fun i hi => h i (by omega)), h k (by omega)]
theorem sm_add (f g : Nat → Nat) : ∀ n, sm (fun i => f i + g i) n = sm f n + sm g n
  | 0 => rfl
  | k + 1 => by simp only [sm]; rw [sm_add f g k]; omega
theorem sm_zero : ∀ n, sm (fun _ => 0) n = 0
  | 0 => rfl
  | k + 1 => by simp only [sm]; rw [sm_zero k]
theorem sm_le {f g : Nat → Nat} : ∀ {n : Nat}, (∀ i, i < n → f i ≤ g i) → sm f n ≤ sm g n
  | 0, _ => Nat.le_refl _
  | k + 1, h => by have := sm_le (f := f) (g := g) (n := k) (fun i hi => h i (by omega)); have := h k (by omega); simp only [sm]; omega
theorem sm_swap (f : Nat → Nat → Nat) (m : Nat) : ∀ n, sm (fun i => sm (fun x => f i x) m) n = sm (fun x => sm (fun i => f i x) n) m
  | 0 => (sm_zero m).symm
  | k + 1 => by
    simp only [sm]
    rw [sm_swap f m k, ← sm_add]
theorem sm_one {f : Nat → Nat} {j : Nat} : ∀ {n : Nat}, sm (fun x => if j = x then f x else 0) n = if j < n then f j else 0
  | 0 => rfl
  | k + 1 => by
    simp only [sm]
    rw [sm_one]
    by_cases e : j = k
    · subst e; rw [if_neg (Nat.lt_irrefl _), if_pos rfl, if_pos (by omega)]; omega
    · rw [if_neg e]
      by_cases h : j < k
      · rw [if_pos h, if_pos (by omega)]; rfl
      · rw [if_neg h, if_neg (by omega)]
theorem sm_perm {n : Nat} {v p : Nat → Nat} (h : Arr n v p) (f : Nat → Nat) : sm (fun i => f (v i)) n = sm f n := by
  have e1 : sm (fun i => f (v i)) n = sm (fun i => sm (fun x => if v i = x then f x else 0) n) n :=
    sm_congr (fun i hi => by rw [sm_one, if_pos (h.1 i hi).1])
  rw [e1, sm_swap]
  refine sm_congr (fun x hx => ?_)
  have e2 : sm (fun i => if v i = x then f x else 0) n = sm (fun i => if p x = i then f x else 0) n := by
    refine sm_congr (fun i hi => ?_)
    by_cases e : v i = x
    · rw [if_pos e, if_pos (by rw [← e]; exact (h.1 i hi).2)]
    · rw [if_neg e, if_neg (fun c => e (by rw [← c]; exact (h.2 x hx).2))]
  rw [e2, sm_one (f := fun _ => f x), if_pos (h.2 x hx).1]
theorem cnt_sm (p : Nat → Bool) : ∀ n, cnt p n = sm (fun i => if p i then 1 else 0) n
  | 0 => rfl
  | k + 1 => by simp only [cnt, sm]; rw [cnt_sm p k]
theorem cnt_perm {n : Nat} {v p : Nat → Nat} (h : Arr n v p) (q : Nat → Bool) : cnt (fun i => q (v i)) n = cnt q n := by
  rw [cnt_sm, cnt_sm]
  exact sm_perm h (fun x => if q x then 1 else 0)
theorem cnt_mono {p q : Nat → Bool} : ∀ {n : Nat}, (∀ i, i < n → p i = true → q i = true) → cnt p n ≤ cnt q n
  | 0, _ => Nat.le_refl _
  | k + 1, h => by
    have := cnt_mono (p := p) (q := q) (n := k) (fun i hi => h i (by omega))
    simp only [cnt]
    by_cases e : p k = true
    · rw [if_pos e, if_pos (h k (by omega) e)]; omega
    · rw [if_neg e]; split <;> omega
theorem cnt_split (p q : Nat → Bool) : ∀ n, cnt p n = cnt (fun i => p i && q i) n + cnt (fun i => p i && !q i) n
  | 0 => rfl
  | k + 1 => by
    simp only [cnt]
    rw [cnt_split p q k]
    by_cases a : p k = true <;> by_cases b : q k = true <;> simp [a, b] <;> omega
theorem cnt_none {p : Nat → Bool} : ∀ {n : Nat}, (∀ i, i < n → p i = false) → cnt p n = 0
  | 0, _ => rfl
  | k + 1, h => by simp only [cnt]; rw [cnt_none (fun i hi => h i (by omega)), h k (by omega)]; rfl
theorem cnt_lt (m : Nat) : ∀ n, m ≤ n → cnt (fun x => decide (x < m)) n = m
  | 0, h => by simp only [cnt]; omega
  | k + 1, h => by
    simp only [cnt]
    by_cases e : m = k + 1
    · subst e
      have : cnt (fun x => decide (x < k + 1)) k = cnt (fun x => decide (x < k)) k := cnt_congr (fun i hi => by rw [decide_eq_true (by omega), decide_eq_true hi])
      rw [this, cnt_lt k k (Nat.le_refl _), if_pos (by simp)]
    · rw [cnt_lt m k (by omega), if_neg (by simp; omega)]; omega
/-- a count that stops early -/
theorem cnt_cut {p : Nat → Bool} {m : Nat} : ∀ {n : Nat}, m ≤ n → cnt (fun i => decide (i < m) && p i) n = cnt p m
  | 0, h => by rw [show m = 0 from by omega]; rfl
  | k + 1, h => by
    by_cases e : m = k + 1
    · subst e; exact cnt_congr (fun i hi => by rw [decide_eq_true hi, Bool.true_and])
    · simp only [cnt]
      rw [cnt_cut (by omega), if_neg (by simp; omega)]; rfl
theorem Arr.val {n : Nat} {tl pl : Nat → Nat} (h : Arr n tl pl) (hn : 0 < n) : Arr n (fun j => vO n (tl j)) (fun x => pl (tO n x)) :=
  ⟨fun j hj => ⟨vO_lt hn (h.1 j hj).1, by dsimp only; rw [tO_vO hn (h.1 j hj).1]; exact (h.1 j hj).2⟩, fun x hx => ⟨(h.2 _ (tO_lt hn hx)).1, by dsimp only; rw [(h.2 _ (tO_lt hn hx)).2, vO_tO hn hx]⟩⟩
/-- how many lesser ones come later, told by those before -/
def les (v : Nat → Nat) (k : Nat) : Nat := v k - cnt (fun i => decide (v i < v k)) k
def rkF (n : Nat) (v : Nat → Nat) : Nat → Nat
  | 0 => 0
  | k + 1 => rkF n v k * (n - k) + les v k
theorem les_eq {n : Nat} {v p : Nat → Nat} (h : Arr n v p) {k : Nat} (hk : k < n) : v k = cnt (fun i => decide (v i < v k)) k + cnt (fun i => decide (k < i) && decide (v i < v k)) n := by
  have e0 : cnt (fun i => decide (v i < v k)) n = v k := by
    rw [cnt_perm h (fun x => decide (x < v k))]
    exact cnt_lt _ _ (by have := (h.1 k hk).1; omega)
  rw [cnt_split _ (fun i => decide (i < k))] at e0
  have e1 : cnt (fun i => decide (v i < v k) && decide (i < k)) n = cnt (fun i => decide (v i < v k)) k := by
    rw [← cnt_cut (p := fun i => decide (v i < v k)) (Nat.le_of_lt hk)]
    exact cnt_congr (fun i _ => Bool.and_comm _ _)
  have e2 : cnt (fun i => decide (v i < v k) && !decide (i < k)) n = cnt (fun i => decide (k < i) && decide (v i < v k)) n := by
    refine cnt_congr (fun i _ => ?_)
    by_cases c : i = k
    · subst c; simp
    · rw [Bool.and_comm]
      congr 1
      by_cases d : i < k
      · rw [decide_eq_true d, decide_eq_false (by omega)]; rfl
      · rw [decide_eq_false d, decide_eq_true (by omega)]; rfl
  rw [e1, e2] at e0
  exact e0.symm
theorem les_pos {n : Nat} {v p : Nat → Nat} (h : Arr n v p) {k : Nat} (hk : k < n) : les v k = cnt (fun i => decide (k < i) && decide (v i < v k)) n := by
  have := les_eq h hk
  unfold les
  omega
theorem cnt_gt (k : Nat) : ∀ n, cnt (fun i => decide (k < i)) n = n - 1 - k
  | 0 => by simp only [cnt]; omega
  | m + 1 => by
    simp only [cnt]
    rw [cnt_gt k m]
    by_cases e : k < m
    · rw [if_pos (by simp [e])]; omega
    · rw [if_neg (by simp [e])]; omega
theorem les_lt {n : Nat} {v p : Nat → Nat} (h : Arr n v p) {k : Nat} (hk : k < n) : les v k < n - k := by
  rw [les_pos h hk]
  have h1 := cnt_mono (p := fun i => decide (k < i) && decide (v i < v k)) (q := fun i => decide (k < i)) (n := n) (fun i _ e => (Bool.and_eq_true _ _ ▸ e).1)
  rw [cnt_gt] at h1
  omega
theorem rkF_congr {n : Nat} {u v : Nat → Nat} : ∀ {k : Nat}, (∀ i, i < k → u i = v i) → rkF n u k = rkF n v k
  | 0, _ => rfl
  | k + 1, h => by
    simp only [rkF, les]
    rw [rkF_congr (fun i hi => h i (by omega)), h k (by omega), cnt_congr (fun i hi => by rw [h i (by omega)])]
/-- the first difference decides -/
theorem rk_lt {n : Nat} {u v p q : Nat → Nat} (hu : Arr n u p) (hv : Arr n v q) {k : Nat} (hk : k < n) (e : ∀ i, i < k → u i = v i) (lt : u k < v k) : rkF n u n < rkF n v n := by
  have hl : les u k < les v k := by
    have a := les_eq hu hk
    have b := les_eq hv hk
    unfold les
    have e1 : cnt (fun i => decide (v i < v k)) k = cnt (fun i => decide (u i < v k)) k := cnt_congr (fun i hi => by rw [e i hi])
    rw [e1] at b ⊢
    have s := cnt_split (fun i => decide (u i < v k)) (fun i => decide (u i < u k)) k
    have e2 : cnt (fun i => decide (u i < v k) && decide (u i < u k)) k = cnt (fun i => decide (u i < u k)) k := cnt_congr (fun i hi => by
      by_cases c : u i < u k
      · rw [decide_eq_true c, decide_eq_true (by omega)]; rfl
      · rw [decide_eq_false c, Bool.and_false])
    have e3 : cnt (fun i => decide (u i < v k) && !decide (u i < u k)) k ≤ v k - u k - 1 := by
      have m1 : cnt (fun i => decide (u i < v k) && !decide (u i < u k)) k ≤ cnt (fun i => decide (u i < v k) && decide (u k < u i)) n := by
        rw [← cnt_cut (p := fun i => decide (u i < v k) && !decide (u i < u k)) (Nat.le_of_lt hk)]
        refine cnt_mono (fun i hi c => ?_)
        simp only [Bool.and_eq_true, decide_eq_true_eq, Bool.not_eq_true', decide_eq_false_iff_not] at c ⊢
        refine ⟨c.2.1, ?_⟩
        have : ¬ u i = u k := fun z => by have z1 := (hu.1 i hi).2; have z2 := (hu.1 k hk).2; rw [z] at z1; omega
        omega
      rw [cnt_perm hu (fun x => decide (x < v k) && decide (u k < x))] at m1
      have m2 : cnt (fun x => decide (x < v k) && decide (u k < x)) n = v k - u k - 1 := by
        rw [cnt_cut (p := fun x => decide (u k < x)) (by have := (hv.1 k hk).1; omega), cnt_gt]
        omega
      omega
    omega
  have hR : ∀ j, k < j → j ≤ n → rkF n u j < rkF n v j := by
    intro j
    induction j with
    | zero => intro c; omega
    | succ j ih =>
      intro h1 h2
      simp only [rkF]
      have b1 := les_lt hu (show j < n by omega)
      by_cases c : j = k
      · subst c
        rw [rkF_congr e]
        omega
      · have := ih (by omega) (by omega)
        have m : (rkF n u j + 1) * (n - j) ≤ rkF n v j * (n - j) := Nat.mul_le_mul_right _ (by omega)
        rw [Nat.add_mul, Nat.one_mul] at m
        omega
  exact hR n hk (Nat.le_refl _)
/-- there is a first difference, or none -/
theorem first_diff (u v : Nat → Nat) : ∀ n, (∀ i, i < n → u i = v i) ∨ ∃ k, k < n ∧ (∀ i, i < k → u i = v i) ∧ ¬ u k = v k
  | 0 => Or.inl (fun i hi => absurd hi (by omega))
  | n + 1 => by
    rcases first_diff u v n with h | ⟨k, h1, h2, h3⟩
    · by_cases e : u n = v n
      · exact Or.inl (fun i hi => by by_cases c : i = n; (· subst c; exact e); exact h i (by omega))
      · exact Or.inr ⟨n, by omega, h, e⟩
    · exact Or.inr ⟨k, by omega, h2, h3⟩
theorem rk_inj {n : Nat} {u v p q : Nat → Nat} (hu : Arr n u p) (hv : Arr n v q) (e : rkF n u n = rkF n v n) : ∀ i, i < n → u i = v i := by
  rcases first_diff u v n with h | ⟨k, h1, h2, h3⟩
  · exact h
  · rcases Nat.lt_or_gt_of_ne h3 with c | c
    · have := rk_lt hu hv h1 h2 c; omega
    · have := rk_lt hv hu h1 (fun i hi => (h2 i hi).symm) c; omega
def fac : Nat → Nat
  | 0 => 1
  | k + 1 => fac k * (k + 1)
theorem fac_pos : ∀ n, 0 < fac n
  | 0 => by decide
  | k + 1 => Nat.mul_pos (fac_pos k) (Nat.succ_pos _)
/-- a rank is less than the number of arrangements -/
theorem rk_fac {n : Nat} {v p : Nat → Nat} (h : Arr n v p) : ∀ k, k ≤ n → (rkF n v k + 1) * fac (n - k) ≤ fac n
  | 0, _ => by simp [rkF]
  | k + 1, hk => by
    have ih := rk_fac h k (by omega)
    have b := les_lt h (show k < n by omega)
    have e : fac (n - k) = fac (n - (k + 1)) * (n - k) := by
      rw [show n - k = (n - (k + 1)) + 1 from by omega]; rfl
    simp only [rkF]
    refine Nat.le_trans ?_ ih
    rw [e, Nat.mul_comm (fac (n - (k + 1))), ← Nat.mul_assoc]
    refine Nat.mul_le_mul_right _ ?_
    rw [Nat.add_mul, Nat.one_mul]
    omega
theorem rk_lt_fac {n : Nat} {v p : Nat → Nat} (h : Arr n v p) : rkF n v n < fac n := by
  have := rk_fac h n (Nat.le_refl _)
  rw [Nat.sub_self] at this
  simp only [fac, Nat.mul_one] at this
  omega
