/-! longs as zL of integers -/
abbrev zL (n : Int) : Int64 := Int64.ofInt n
theorem zL_toInt {n : Int} (h0 : -9223372036854775808 ≤ n) (h1 : n < 9223372036854775808) : (zL n).toInt = n := Int64.toInt_ofInt_of_le (by omega) (by omega)
theorem zI_L {n : Int} (h0 : -2147483648 ≤ n) (h1 : n < 2147483648) : (zI n).toInt64 = zL n := by
  apply Int64.toInt_inj.mp
  rw [Int32.toInt_toInt64, zI_toInt h0 h1, zL_toInt (by omega) (by omega)]
theorem zL_I (n : Int) : (zL n).toInt32 = zI n := Int64.toInt32_ofInt
theorem zL_add (a b : Int) : zL a + zL b = zL (a + b) := (Int64.ofInt_add a b).symm
theorem zL_sub (a b : Int) : zL a - zL b = zL (a - b) := (Int64.ofInt_sub a b).symm
theorem zL_mul (a b : Int) : zL a * zL b = zL (a * b) := (Int64.ofInt_mul a b).symm
theorem zL_eq {a b : Int} (h0 : -9223372036854775808 ≤ a) (h1 : a < 9223372036854775808) (h2 : -9223372036854775808 ≤ b) (h3 : b < 9223372036854775808) : (zL a = zL b) = (a = b) := by
  apply propext
  constructor
  · intro h
    have := congrArg Int64.toInt h
    rwa [zL_toInt h0 h1, zL_toInt h2 h3] at this
  · rintro rfl; rfl
theorem zL_lt {a b : Int} (h0 : -9223372036854775808 ≤ a) (h1 : a < 9223372036854775808) (h2 : -9223372036854775808 ≤ b) (h3 : b < 9223372036854775808) : (zL a < zL b) = (a < b) := by
  rw [Int64.lt_iff_toInt_lt, zL_toInt h0 h1, zL_toInt h2 h3]
theorem zL_le {a b : Int} (h0 : -9223372036854775808 ≤ a) (h1 : a < 9223372036854775808) (h2 : -9223372036854775808 ≤ b) (h3 : b < 9223372036854775808) : (zL a ≤ zL b) = (a ≤ b) := by
  rw [Int64.le_iff_toInt_le, zL_toInt h0 h1, zL_toInt h2 h3]
theorem zL_div {a b : Int} (h0 : 0 ≤ a) (h1 : a < 9223372036854775808) (h2 : 0 < b) (h3 : b < 9223372036854775808) : zL a / zL b = zL (a / b) := by
  apply Int64.toInt_inj.mp
  have h4 : a / b ≤ a := Int.ediv_le_self b h0
  have h5 : 0 ≤ a / b := Int.ediv_nonneg h0 (by omega)
  rw [Int64.toInt_div, zL_toInt (by omega) h1, zL_toInt (by omega) h3, zL_toInt (by omega) (by omega), Int.tdiv_eq_ediv_of_nonneg h0, Int.bmod_eq_of_le (by omega) (by omega)]
theorem zI_div {a b : Int} (h0 : 0 ≤ a) (h1 : a < 2147483648) (h2 : 0 < b) (h3 : b < 2147483648) : zI a / zI b = zI (a / b) := by
  apply Int32.toInt_inj.mp
  have h4 : a / b ≤ a := Int.ediv_le_self b h0
  have h5 : 0 ≤ a / b := Int.ediv_nonneg h0 (by omega)
  rw [Int32.toInt_div, zI_toInt (by omega) h1, zI_toInt (by omega) h3, zI_toInt (by omega) (by omega), Int.tdiv_eq_ediv_of_nonneg h0, Int.bmod_eq_of_le (by omega) (by omega)]
theorem z_mod (a b : Int) : a - a / b * b = a % b := by rw [Int.emod_def, Int.mul_comm]
theorem l64_0 : Int64.ofNat 0 = zL 0 := by decide
theorem l64_1 : Int64.ofNat 1 = zL 1 := by decide
theorem zL_0 : (0 : Int64) = zL 0 := by decide
theorem lc_0 : (Int64.ofNat ((0 : Fin 2) : Nat)) = zL 0 := by decide
theorem lc_1 : (Int64.ofNat ((1 : Fin 2) : Nat)) = zL 1 := by decide
theorem lg_gt {x y : Int64} (h : y < x) : lg_cmp x y = zI 1 := if_pos h
theorem lg_eq' {x : Int64} : lg_cmp x x = zI 0 := by
  unfold lg_cmp
  rw [if_neg (Int64.lt_irrefl (a := x)), if_pos rfl]; rfl
theorem lg_lt {x y : Int64} (h : x < y) : lg_cmp x y = zI (-1) := by
  unfold lg_cmp
  rw [if_neg (fun c => Int64.lt_irrefl (Int64.lt_trans h c)), if_neg (fun c => by subst c; exact Int64.lt_irrefl h)]; rfl
theorem lg_cases (x y : Int64) : (x < y ∧ ¬ x = y ∧ ¬ y < x ∧ x ≤ y ∧ ¬ y ≤ x ∧ lg_cmp x y = zI (-1)) ∨ (¬ x < y ∧ x = y ∧ ¬ y < x ∧ x ≤ y ∧ y ≤ x ∧ lg_cmp x y = zI 0) ∨ (¬ x < y ∧ ¬ x = y ∧ y < x ∧ ¬ x ≤ y ∧ y ≤ x ∧ lg_cmp x y = zI 1) := by
  rcases Int.lt_trichotomy x.toInt y.toInt with h | h | h
  · refine Or.inl ⟨Int64.lt_iff_toInt_lt.mpr h, fun c => by subst c; omega, fun c => by rw [Int64.lt_iff_toInt_lt] at c; omega, by rw [Int64.le_iff_toInt_le]; omega, fun c => by rw [Int64.le_iff_toInt_le] at c; omega, lg_lt (Int64.lt_iff_toInt_lt.mpr h)⟩
  · have := Int64.toInt_inj.mp h
    subst this
    exact Or.inr (Or.inl ⟨Int64.lt_irrefl, rfl, Int64.lt_irrefl, Int64.le_refl _, Int64.le_refl _, lg_eq'⟩)
  · refine Or.inr (Or.inr ⟨fun c => by rw [Int64.lt_iff_toInt_lt] at c; omega, fun c => by subst c; omega, Int64.lt_iff_toInt_lt.mpr h, fun c => by rw [Int64.le_iff_toInt_le] at c; omega, by rw [Int64.le_iff_toInt_le]; omega, lg_gt (Int64.lt_iff_toInt_lt.mpr h)⟩)
theorem lg_c_eq (x y : Int64) : (lg_cmp x y = zI 0) = (x = y) := by
  apply propext
  rcases lg_cases x y with h | h | h
  · rw [h.2.2.2.2.2]; exact ⟨fun c => absurd c (by decide), fun c => absurd c h.2.1⟩
  · rw [h.2.2.2.2.2]; exact ⟨fun _ => h.2.1, fun _ => rfl⟩
  · rw [h.2.2.2.2.2]; exact ⟨fun c => absurd c (by decide), fun c => absurd c h.2.1⟩
theorem lg_c_lt (x y : Int64) : (lg_cmp x y < zI 0) = (x < y) := by
  apply propext
  rcases lg_cases x y with h | h | h <;> simp only [h.2.2.2.2.2, h.1] <;> decide
theorem lg_c_ge (x y : Int64) : (zI 0 ≤ lg_cmp x y) = (y ≤ x) := by
  apply propext
  rcases lg_cases x y with h | h | h <;> simp only [h.2.2.2.2.2, h.2.2.2.2.1] <;> decide
theorem lg_c_gt (x y : Int64) : (zI 0 < lg_cmp x y) = (y < x) := by
  apply propext
  rcases lg_cases x y with h | h | h <;> simp only [h.2.2.2.2.2, h.2.2.1] <;> decide
theorem lg_c_le (x y : Int64) : (lg_cmp x y ≤ zI 0) = (x ≤ y) := by
  apply propext
  rcases lg_cases x y with h | h | h <;> simp only [h.2.2.2.2.2, h.2.2.2.1] <;> decide
theorem i64_nlt {x y : Int64} : (¬ x < y) = (y ≤ x) := by
  apply propext
  rw [Int64.lt_iff_toInt_lt, Int64.le_iff_toInt_le]; omega
abbrev lA (n : Nat) (g : Nat → Int64) : jC := .inl (2, n, .inr (.inl g))
abbrev bA (n : Nat) (p : Nat → Bool) : jC := .inl (1, n, .inl fun j => zI (if p j then 1 else 0))
def ub (g : Nat → Bool) (k : Nat) (v : Bool) : Nat → Bool := fun j => if j = k then v else g j
theorem bA_up (g : Nat → Bool) (k : Nat) (v : Bool) : upd (fun j => zI (if g j then 1 else 0)) k (vp_nar .boolean (zI (if v then 1 else 0))) = fun j => zI (if ub g k v j then 1 else 0) := by
  have e : vp_nar .boolean (zI (if v then 1 else 0)) = zI (if v then 1 else 0) := by cases v <;> decide
  rw [e]
  funext j
  unfold upd ub
  split <;> rfl
theorem bA_up1 (g : Nat → Bool) (k : Nat) : upd (fun j => zI (if g j then 1 else 0)) k (vp_nar .boolean (zI 1)) = fun j => zI (if ub g k true j then 1 else 0) := bA_up g k true
theorem bA_up0 (g : Nat → Bool) (k : Nat) : upd (fun j => zI (if g j then 1 else 0)) k (vp_nar .boolean (zI 0)) = fun j => zI (if ub g k false j then 1 else 0) := bA_up g k false
theorem zA_cpy {f g : Nat → Int} {a b n : Nat} : va_cpy (fun j => zI (f j)) (fun j => zI (g j)) a b n = fun j => zI (va_cpy f g a b n j) := by
  funext j
  unfold va_cpy
  split <;> rfl
theorem cpy_all {α : Type} {f g : Nat → α} {n j : Nat} (h : j < n) : va_cpy f g 0 0 n j = f j := by
  unfold va_cpy
  rw [if_pos ⟨Nat.zero_le _, by omega⟩]
  congr 1
  omega
theorem jpf_def {c a b : Nat} {fs : List Value} {v : Value} {k : jC → Prop} : jpf (some (.inr (c, fs))) a b v k = (bif Nat.beq c (a / 4) && (jfit (a % 4) v && Nat.blt b fs.length) then k (.inr (c, fs.set b v)) else False) := rfl
theorem jfit_i {x : Int32} : jfit 0 (.int x) = true := rfl
theorem jfit_l {x : Int64} : jfit 2 (.long x) = true := rfl
theorem jfit_r {x : Nat} : jfit 3 (.ref x) = true := rfl
theorem jfit_b {p : Bool} : jfit 1 (.int (zI (if p then 1 else 0))) = true := by cases p <;> decide
theorem jfit_b0 : jfit 1 (.int (zI 0)) = true := by decide
theorem jfit_b1 : jfit 1 (.int (zI 1)) = true := by decide
theorem nblt (a b : Nat) : Nat.blt a b = decide (a < b) := by
  by_cases h : a < b
  · rw [decide_eq_true h, Nat.blt_eq.mpr h]
  · rw [decide_eq_false h]
    cases e : Nat.blt a b with
    | false => rfl
    | true => exact absurd (Nat.blt_eq.mp e) h
theorem nfw : nativeFrameWords "java/lang/System" "arraycopy" 5 = 7 := by decide
def jcq (o p : Option jC) (n : Int32) (k : jC → Prop) : Prop := match o, p with
  | some (.inl (0, n0, .inl f)), some (.inl (0, n1, .inl g)) => (bif decide (0 ≤ n.toInt) && (decide (n.toNatClampNeg ≤ n0) && decide (n.toNatClampNeg ≤ n1)) then k (.inl (0, n1, .inl (va_cpy f g 0 0 n.toNatClampNeg))) else False)
  | _, _ => False
theorem jcq_z {n0 n1 : Nat} {f g : Nat → Int32} {n : Int} {k : jC → Prop} (h0 : 0 ≤ n) (h1 : n ≤ n0) (h2 : n ≤ n1) (h3 : n < 2147483648) : jcq (some (.inl (0, n0, .inl f))) (some (.inl (0, n1, .inl g))) (zI n) k = k (.inl (0, n1, .inl (va_cpy f g 0 0 n.toNat))) := by
  simp only [jcq, zI_toInt (show (-2147483648 : Int) ≤ n by omega) h3, zI_nat h0 h3]
  rw [decide_eq_true h0, decide_eq_true (show n.toNat ≤ n0 by omega), decide_eq_true (show n.toNat ≤ n1 by omega)]
  rfl
theorem e_cpy {s : Option (Nat × (Nat → Int32))} {M : jM} {Q : (Option Value ⊕ Nat) → jW → Prop} {is : List jI} {lv : jL} {st : List Value} {w : jW} {l a m c d : Nat} {n : Int32} : jev s M Q ((.invokestatic m, l, a, 777) :: is) lv (.int n :: .int (zI 0) :: .ref d :: .int (zI 0) :: .ref c :: st) w = ((1 ≤ jM_fr M ∧ jcat st + 18 ≤ jM_lo M) ∧ jcq w[c]? w[d]? n (fun x => jev s M Q is lv st (w.set d x))) := by
  simp only [jev, if_true, nfw, List.drop_succ_cons, List.drop_zero]
  apply congrArg (fun z => (1 ≤ jM_fr M ∧ jcat st + 18 ≤ jM_lo M) ∧ z)
  unfold jcq jcopy
  simp only [show (zI 0).toInt = 0 from by decide, show (zI 0).toNatClampNeg = 0 from by decide, Nat.zero_add]
  rcases h1 : w[c]? with _ | (⟨t, n0, f | f | f⟩ | o) <;> try rfl
  · rcases t with _ | t
    · rcases h2 : w[d]? with _ | (⟨t', n1, g | g | g⟩ | o') <;> try rfl
      · rcases t' with _ | t'
        · cases h3 : (decide (0 ≤ n.toInt) && (decide (n.toNatClampNeg ≤ n0) && decide (n.toNatClampNeg ≤ n1))) <;> simp [h3]
        · rfl
      · rcases t' <;> rfl
      · rcases t' <;> rfl
    · rfl
  · rcases t <;> rfl
  · rcases t <;> rfl
theorem nA_cpy {f g : Nat → Nat} {a b n : Nat} : va_cpy (fun j => zI (f j : Int)) (fun j => zI (g j : Int)) a b n = fun j => zI ((va_cpy f g a b n j : Nat) : Int) := by
  funext j
  unfold va_cpy
  split <;> rfl
