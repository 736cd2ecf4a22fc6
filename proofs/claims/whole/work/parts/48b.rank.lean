/-! ranks: which arrangement a rank is, how packed numbers are ordered -/
def rkT (n : Nat) (tl : Nat → Nat) : Nat := rkF n (fun j => vO n (tl j)) n
theorem rkT_congr {n : Nat} {tl tl' : Nat → Nat} (h : ∀ j, j < n → tl j = tl' j) : rkT n tl = rkT n tl' := rkF_congr (fun i hi => by rw [h i hi])
theorem rk_un {n : Nat} {tl pl tl' pl' : Nat → Nat} (h : Arr n tl pl) (h' : Arr n tl' pl') (e : rkT n tl = rkT n tl') : (∀ j, j < n → tl j = tl' j) ∧ ∀ t, t < n → pl t = pl' t := by
  by_cases hn : 0 < n
  · have a := rk_inj (h.val hn) (h'.val hn) e
    have b : ∀ j, j < n → tl j = tl' j := fun j hj => vO_inj hn (h.1 j hj).1 (h'.1 j hj).1 (a j hj)
    refine ⟨b, fun t ht => ?_⟩
    have c := h.2 t ht
    have d := b _ c.1
    have f := (h'.1 _ c.1).2
    rw [← d, c.2] at f
    exact f.symm
  · exact ⟨fun j hj => absurd hj (by omega), fun t ht => absurd ht (by omega)⟩
noncomputable def arR (n r : Nat) : (Nat → Nat) × (Nat → Nat) := Classical.epsilon (fun a : (Nat → Nat) × (Nat → Nat) => Arr n a.1 a.2 ∧ rkT n a.1 = r)
def VR (n r : Nat) : Prop := ∃ tl pl, Arr n tl pl ∧ rkT n tl = r
theorem arR_v {n r : Nat} (h : VR n r) : Arr n (arR n r).1 (arR n r).2 ∧ rkT n (arR n r).1 = r := by
  obtain ⟨tl, pl, h1, h2⟩ := h
  exact Classical.epsilon_spec (p := fun a : (Nat → Nat) × (Nat → Nat) => Arr n a.1 a.2 ∧ rkT n a.1 = r) ⟨(tl, pl), h1, h2⟩
theorem arR_is {n : Nat} {tl pl : Nat → Nat} (h : Arr n tl pl) : (∀ j, j < n → (arR n (rkT n tl)).1 j = tl j) ∧ ∀ t, t < n → (arR n (rkT n tl)).2 t = pl t := by
  have a := arR_v ⟨tl, pl, h, rfl⟩
  exact rk_un a.1 h a.2
/-- the first that differs decides -/
theorem pkR_lt {n k : Nat} {u v : Nat → Nat} {p q : Int64} (hp : IsPk n u p) (hq : IsPk n v q) (hn : n ≤ 16) (hu : u k < 16) (hv : v k < 16) (hk : k < n) (e : ∀ i, i < k → u i = v i) (lt : u k < v k) : p.toBitVec.toNat < q.toBitVec.toNat := by
  have tb : ∀ {x : Int64} {w : Nat → Nat}, IsPk n w x → ∀ i, x.toBitVec.toNat.testBit i = (decide (i < 64) && (decide (15 - i / 4 < n) && (w (15 - i / 4)).testBit (i % 4))) := fun {x w} hx i => by
    by_cases c : i < 64
    · have := hx i c
      rw [BitVec.getLsbD] at this
      rw [this, decide_eq_true c, Bool.true_and]
    · rw [decide_eq_false c, Bool.false_and]
      exact Nat.testBit_lt_two_pow (Nat.lt_of_lt_of_le x.toBitVec.isLt (Nat.pow_le_pow_right (by omega) (by omega)))
  have hi : p.toBitVec.toNat >>> (4 * (15 - k) + 4) = q.toBitVec.toNat >>> (4 * (15 - k) + 4) := by
    apply Nat.eq_of_testBit_eq
    intro i
    rw [Nat.testBit_shiftRight, Nat.testBit_shiftRight, tb hp, tb hq]
    by_cases c : 4 * (15 - k) + 4 + i < 64
    · have : 15 - (4 * (15 - k) + 4 + i) / 4 < k := by omega
      rw [e _ this]
    · rw [decide_eq_false c, Bool.false_and, Bool.false_and]
  have nb : ∀ {x : Int64} {w : Nat → Nat}, IsPk n w x → w k < 16 → x.toBitVec.toNat >>> (4 * (15 - k)) % 16 = w k := fun {x w} hx hw => by
    apply Nat.eq_of_testBit_eq
    intro i
    rw [show (16 : Nat) = 2 ^ 4 from rfl, Nat.testBit_mod_two_pow, Nat.testBit_shiftRight, tb hx]
    by_cases c : i < 4
    · have e1 : 15 - (4 * (15 - k) + i) / 4 = k := by omega
      have e2 : (4 * (15 - k) + i) % 4 = i := by omega
      have e3 : 4 * (15 - k) + i < 64 := by omega
      rw [e1, e2, decide_eq_true c, decide_eq_true e3, decide_eq_true hk]; rfl
    · rw [decide_eq_false c, Bool.false_and, tb16 hw (by omega)]
  have sp : ∀ x : Nat, x >>> (4 * (15 - k)) = 16 * (x >>> (4 * (15 - k) + 4)) + x >>> (4 * (15 - k)) % 16 := fun x => by
    rw [Nat.shiftRight_add, Nat.shiftRight_eq_div_pow (x >>> (4 * (15 - k))) 4]; omega
  have s1 := sp p.toBitVec.toNat
  have s2 := sp q.toBitVec.toNat
  rw [nb hp hu, hi] at s1
  rw [nb hq hv] at s2
  apply Classical.byContradiction
  intro c
  have : q.toBitVec.toNat >>> (4 * (15 - k)) ≤ p.toBitVec.toNat >>> (4 * (15 - k)) := by
    rw [Nat.shiftRight_eq_div_pow, Nat.shiftRight_eq_div_pow]
    exact Nat.div_le_div_right (by omega)
  omega
theorem pk_rank {n : Nat} {tl pl tl' pl' : Nat → Nat} {p q : Int64} (hn : 0 < n ∧ n ≤ 16) (h : Arr n tl pl) (h' : Arr n tl' pl') (hp : IsPk n (fun j => vO n (tl j)) p) (hq : IsPk n (fun j => vO n (tl' j)) q) : (p.toBitVec.toNat < q.toBitVec.toNat ↔ rkT n tl < rkT n tl') ∧ (p = q ↔ rkT n tl = rkT n tl') := by
  have r1 : ∀ j, j < n → vO n (tl j) < 16 := fun j hj => by have := vO_lt hn.1 (h.1 j hj).1; omega
  have r2 : ∀ j, j < n → vO n (tl' j) < 16 := fun j hj => by have := vO_lt hn.1 (h'.1 j hj).1; omega
  rcases first_diff (fun j => vO n (tl j)) (fun j => vO n (tl' j)) n with e | ⟨k, hk, e, ne⟩
  · have a : rkT n tl = rkT n tl' := rkF_congr e
    have b : p = q := IsPk_un hp hq e
    subst b
    exact ⟨⟨fun z => absurd z (Nat.lt_irrefl _), fun z => by omega⟩, ⟨fun _ => a, fun _ => rfl⟩⟩
  · have ne : ¬ vO n (tl k) = vO n (tl' k) := ne
    by_cases lt : vO n (tl k) < vO n (tl' k)
    · have a := pkR_lt hp hq hn.2 (r1 k hk) (r2 k hk) hk e lt
      have b : rkT n tl < rkT n tl' := rk_lt (h.val hn.1) (h'.val hn.1) hk e lt
      exact ⟨⟨fun _ => b, fun _ => a⟩, ⟨fun z => by subst z; omega, fun z => by omega⟩⟩
    · have a := pkR_lt hq hp hn.2 (r2 k hk) (r1 k hk) hk (fun i hi => (e i hi).symm) (show vO n (tl' k) < vO n (tl k) by omega)
      have b : rkT n tl' < rkT n tl := rk_lt (h'.val hn.1) (h.val hn.1) hk (fun i hi => (e i hi).symm) (show vO n (tl' k) < vO n (tl k) by omega)
      exact ⟨⟨fun z => by omega, fun z => by omega⟩, ⟨fun z => by subst z; omega, fun z => by omega⟩⟩
theorem xor63 {x : Nat} (h : x < 18446744073709551616) : x ^^^ 9223372036854775808 = if x < 9223372036854775808 then x + 9223372036854775808 else x - 9223372036854775808 := by
  have key : ∀ l : Nat, l < 9223372036854775808 → l ^^^ 9223372036854775808 = l + 9223372036854775808 := fun l hl => by
    have e := Nat.two_pow_add_eq_or_of_lt (i := 63) (b := l) hl 1
    rw [show 2 ^ 63 * 1 = 9223372036854775808 from rfl] at e
    rw [Nat.add_comm, e]
    apply Nat.eq_of_testBit_eq
    intro i
    rw [Nat.testBit_xor, Nat.testBit_or, show (9223372036854775808 : Nat) = 2 ^ 63 from rfl, Nat.testBit_two_pow]
    by_cases c : 63 = i
    · subst c
      rw [Nat.testBit_lt_two_pow hl]; rfl
    · rw [decide_eq_false c, Bool.xor_false, Bool.false_or]
  by_cases c : x < 9223372036854775808
  · rw [if_pos c]; exact key x c
  · rw [if_neg c]
    have := key (x - 9223372036854775808) (by omega)
    rw [show x - 9223372036854775808 + 9223372036854775808 = x from by omega] at this
    have e2 : (x - 9223372036854775808 ^^^ 9223372036854775808) ^^^ 9223372036854775808 = x - 9223372036854775808 := by rw [Nat.xor_assoc, Nat.xor_self, Nat.xor_zero]
    rw [this] at e2
    exact e2
def sgn (x : Int64) : Int64 := x ^^^ Int64.ofNat 9223372036854775808
theorem sgn_toInt (x : Int64) : (sgn x).toInt = (x.toBitVec.toNat : Int) - 9223372036854775808 := by
  have hx := x.toBitVec.isLt
  have e : (sgn x).toBitVec.toNat = x.toBitVec.toNat ^^^ 9223372036854775808 := by
    show (x.toBitVec ^^^ BitVec.ofNat 64 9223372036854775808).toNat = _
    rw [BitVec.toNat_xor]; rfl
  have f : (sgn x).toInt = (sgn x).toBitVec.toInt := rfl
  rw [f, BitVec.toInt_eq_toNat_cond, e, xor63 hx]
  have : (2 : Nat) ^ 64 = 18446744073709551616 := rfl
  split <;> split <;> omega
def keyF (f h : Nat) : Int64 := (zL (f : Int)) <<< (zL 32 &&& 63) ||| zL (h : Int)
theorem key_toInt {f h : Nat} (hf : f < 2147483648) (hh : h < 2147483648) : (keyF f h).toInt = (f : Int) * 4294967296 + (h : Int) := by
  have e0 : (zL 32 &&& 63).toBitVec = 32#64 := by decide
  have ef : (zL (f : Int)).toBitVec = BitVec.ofNat 64 f := by
    show BitVec.ofInt 64 (f : Int) = _
    exact BitVec.ofInt_natCast 64 f
  have eh : (zL (h : Int)).toBitVec = BitVec.ofNat 64 h := BitVec.ofInt_natCast 64 h
  have e : (keyF f h).toBitVec.toNat = f * 4294967296 + h := by
    have a : (keyF f h).toBitVec = (BitVec.ofNat 64 f <<< (BitVec.smod (32#64) 64#64).toNat) ||| BitVec.ofNat 64 h := by
      show ((zL (f : Int)).toBitVec <<< (BitVec.smod (zL 32 &&& 63).toBitVec 64)) ||| (zL (h : Int)).toBitVec = _
      rw [ef, eh, e0]; rfl
    rw [a, show (BitVec.smod (32#64) 64#64).toNat = 32 from by decide, BitVec.toNat_or, BitVec.toNat_shiftLeft, BitVec.toNat_ofNat, BitVec.toNat_ofNat, Nat.mod_eq_of_lt (show f < 2 ^ 64 by omega), Nat.mod_eq_of_lt (show h < 2 ^ 64 by omega), Nat.shiftLeft_eq, Nat.mod_eq_of_lt (by omega)]
    have := Nat.two_pow_add_eq_or_of_lt (i := 32) (b := h) (by omega) f
    rw [Nat.mul_comm f, ← this]
  have g : (keyF f h).toInt = (keyF f h).toBitVec.toInt := rfl
  rw [g, BitVec.toInt_eq_toNat_cond, e]
  have : (2 : Nat) ^ 64 = 18446744073709551616 := rfl
  split <;> omega
