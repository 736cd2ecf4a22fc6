/-! more for the rules: cells that were set, numbers of Nat, bits, longs -/
theorem jset_self {w : jW} {q : Nat} {c : jC} : (w.set q c)[q]? = (w[q]?).map (fun _ => c) := by
  by_cases h : q < w.length
  · rw [List.getElem?_set_self h, List.getElem?_eq_getElem h]; rfl
  · rw [List.getElem?_eq_none (by rw [List.length_set]; omega), List.getElem?_eq_none (by omega)]; rfl
theorem natS (k : Nat) : (k : Int) + 1 = ((k + 1 : Nat) : Int) := rfl
/-- a property that goes up to n holds from the start if each step goes back -/
theorem loop_up {P : Nat → Prop} (n : Nat) (step : ∀ k, k < n → P (k + 1) → P k) (last : P n) : ∀ k, k ≤ n → P k := by
  intro k hk
  obtain ⟨m, rfl⟩ := Nat.exists_eq_add_of_le hk
  clear hk
  induction m generalizing k with
  | zero => exact last
  | succ m ih => exact step k (by omega) (ih (k + 1) (fun j hj h => step j (by omega) h) (by rw [Nat.add_right_comm]; exact last))
theorem jfin3 : (3 : Fin 4).val = 3 := rfl
/-- the array of integers g -/
abbrev zA (n : Nat) (g : Nat → Int) : jC := .inl (0, n, .inl fun j => zI (g j))
def up (g : Nat → Int) (k : Nat) (v : Int) : Nat → Int := fun j => if j = k then v else g j
theorem zA_up (g : Nat → Int) (k : Nat) (v : Int) : upd (fun j => zI (g j)) k (zI v) = fun j => zI (up g k v j) := by
  funext j
  unfold upd up
  split <;> rfl
def un (g : Nat → Nat) (k : Nat) (v : Nat) : Nat → Nat := fun j => if j = k then v else g j
theorem nA_up (g : Nat → Nat) (k : Nat) (v : Nat) : upd (fun j => zI (g j : Int)) k (zI (v : Int)) = fun j => zI (un g k v j : Int) := by
  funext j
  unfold upd un
  split <;> rfl
theorem up_cast {g : Nat → Nat} {k v j : Nat} : up (fun j => ((g j : Nat) : Int)) k ((v : Nat) : Int) j = ((un g k v j : Nat) : Int) := by
  unfold up un
  split <;> rfl
theorem up_cast0 {g : Nat → Nat} {k j : Nat} : up (fun j => ((g j : Nat) : Int)) k 0 j = ((un g k 0 j : Nat) : Int) := by
  unfold up un
  split <;> rfl
theorem up_cast1 {g : Nat → Nat} {k j : Nat} : up (fun j => ((g j : Nat) : Int)) k 1 j = ((un g k 1 j : Nat) : Int) := by
  unfold up un
  split <;> rfl
theorem up_cast16 {g : Nat → Nat} {k j : Nat} : up (fun j => ((g j : Nat) : Int)) k 16 j = ((un g k 16 j : Nat) : Int) := by
  unfold up un
  split <;> rfl
theorem up_cast1000000 {g : Nat → Nat} {k j : Nat} : up (fun j => ((g j : Nat) : Int)) k 1000000 j = ((un g k 1000000 j : Nat) : Int) := by
  unfold up un
  split <;> rfl
theorem up_cast1000000000 {g : Nat → Nat} {k j : Nat} : up (fun j => ((g j : Nat) : Int)) k 1000000000 j = ((un g k 1000000000 j : Nat) : Int) := by
  unfold up un
  split <;> rfl
theorem un_eq {g : Nat → Nat} {k v : Nat} : un g k v k = v := if_pos rfl
theorem un_ne {g : Nat → Nat} {k v j : Nat} (h : ¬ j = k) : un g k v j = g j := if_neg h
theorem up_eq {g : Nat → Int} {k : Nat} {v : Int} : up g k v k = v := if_pos rfl
theorem up_ne {g : Nat → Int} {k : Nat} {v : Int} {j : Nat} (h : ¬ j = k) : up g k v j = g j := if_neg h
abbrev nA (n : Nat) (g : Nat → Nat) : jC := zA n (fun j => (g j : Int))
/-- how many below n have it -/
def cnt (p : Nat → Bool) : Nat → Nat
  | 0 => 0
  | k + 1 => cnt p k + (if p k then 1 else 0)
theorem cnt_le (p : Nat → Bool) : ∀ n, cnt p n ≤ n
  | 0 => Nat.le_refl _
  | k + 1 => by have := cnt_le p k; simp only [cnt]; split <;> omega
theorem cnt_congr {p q : Nat → Bool} : ∀ {n : Nat}, (∀ i, i < n → p i = q i) → cnt p n = cnt q n
  | 0, _ => rfl
  | k + 1, h => by simp only [cnt]; rw [cnt_congr (fun i hi => h i (by omega)), h k (by omega)]
theorem zI_and (a b : Nat) : zI (a : Int) &&& zI (b : Int) = zI ((a &&& b : Nat) : Int) := by
  apply Int32.toBitVec_inj.mp
  simp [zI, Int32.toBitVec_and]
theorem zI_or (a b : Nat) : zI (a : Int) ||| zI (b : Int) = zI ((a ||| b : Nat) : Int) := by
  apply Int32.toBitVec_inj.mp
  simp [zI, Int32.toBitVec_or]
theorem zI_xor (a b : Nat) : zI (a : Int) ^^^ zI (b : Int) = zI ((a ^^^ b : Nat) : Int) := by
  apply Int32.toBitVec_inj.mp
  simp [zI, Int32.toBitVec_xor]
theorem zI_bv (a : Nat) : (zI (a : Int)).toBitVec = BitVec.ofNat 32 a := by
  simp [zI]
theorem zI_andn (a b : Nat) : zI (a : Int) &&& (zI (b : Int) ^^^ zI (-1)) = zI ((a ^^^ (a &&& b) : Nat) : Int) := by
  apply Int32.toBitVec_inj.mp
  rw [Int32.toBitVec_and, Int32.toBitVec_xor, zI_bv, zI_bv, zI_bv, show (zI (-1)).toBitVec = BitVec.allOnes 32 from by decide]
  apply BitVec.eq_of_getLsbD_eq
  intro i hi
  simp only [BitVec.getLsbD_and, BitVec.getLsbD_xor, BitVec.getLsbD_ofNat, BitVec.getLsbD_allOnes, hi, decide_true, Bool.true_and, Nat.testBit_xor, Nat.testBit_and]
  cases a.testBit i <;> cases b.testBit i <;> rfl
theorem z31 {k : Nat} (hk : k < 32) : (zI (k : Int) &&& 31) = zI (k : Int) := by
  rw [show (31 : Int32) = zI ((31 : Nat) : Int) from by decide, zI_and, show (31 : Nat) = 2 ^ 5 - 1 from rfl, Nat.and_two_pow_sub_one_of_lt_two_pow hk]
theorem smod32 {k : Nat} (hk : k < 32) : ((BitVec.ofNat 32 k).smod 32).toNat = k := by
  have : ((BitVec.ofNat 32 k).smod 32) = BitVec.ofNat 32 k := by
    apply BitVec.eq_of_toInt_eq
    have h1 : (BitVec.ofNat 32 k).toInt = (k : Int) := by
      rw [BitVec.toInt_eq_toNat_of_lt (by rw [BitVec.toNat_ofNat]; omega), BitVec.toNat_ofNat]
      omega
    rw [BitVec.toInt_smod, h1, show BitVec.toInt 32 = (32 : Int) from by decide]
    rw [Int.fmod_eq_emod_of_nonneg _ (by omega), Int.emod_eq_of_lt (by omega) (by omega)]
  rw [this, BitVec.toNat_ofNat]
  omega
theorem zI_shl {a k : Nat} (hk : k < 32) : zI (a : Int) <<< (zI (k : Int) &&& 31) = zI ((a <<< k : Nat) : Int) := by
  rw [z31 hk]
  apply Int32.toBitVec_inj.mp
  rw [Int32.toBitVec_shiftLeft, zI_bv, zI_bv, zI_bv]
  apply BitVec.eq_of_toNat_eq
  rw [BitVec.shiftLeft_eq', smod32 hk]
  simp [BitVec.toNat_ofNat, Nat.shiftLeft_eq]
theorem zI_ushr {a k : Nat} (ha : a < 4294967296) (hk : k < 32) : ((zI (a : Int)).toUInt32 >>> ((zI (k : Int)).toUInt32 &&& Int32.toUInt32 31)).toInt32 = zI ((a >>> k : Nat) : Int) := by
  have e : (zI (k : Int)).toUInt32 &&& Int32.toUInt32 31 = (zI (k : Int) &&& 31).toUInt32 := rfl
  rw [e, z31 hk]
  apply Int32.toBitVec_inj.mp
  show ((zI (a : Int)).toUInt32 >>> (zI (k : Int)).toUInt32).toBitVec = _
  rw [UInt32.toBitVec_shiftRight]
  show (zI (a : Int)).toBitVec >>> ((zI (k : Int)).toBitVec % 32) = _
  rw [zI_bv, zI_bv, zI_bv]
  apply BitVec.eq_of_toNat_eq
  rw [BitVec.ushiftRight_eq', BitVec.toNat_ushiftRight, BitVec.toNat_ofNat, BitVec.toNat_umod, BitVec.toNat_ofNat, BitVec.toNat_ofNat, show ((32 : BitVec 32)).toNat = 32 from rfl, Nat.mod_eq_of_lt (by omega : k < 2 ^ 32), Nat.mod_eq_of_lt hk, Nat.mod_eq_of_lt (by omega : a < 2 ^ 32), Nat.mod_eq_of_lt]
  exact Nat.lt_of_le_of_lt (Nat.shiftRight_le _ _) (by omega)
theorem zI_shr {a k : Nat} (ha : a < 2147483648) (hk : k < 32) : zI (a : Int) >>> (zI (k : Int) &&& 31) = zI ((a >>> k : Nat) : Int) := by
  rw [z31 hk]
  apply Int32.toBitVec_inj.mp
  rw [Int32.toBitVec_shiftRight, zI_bv, zI_bv, zI_bv, BitVec.sshiftRight_eq', smod32 hk]
  apply BitVec.eq_of_toInt_eq
  have h1 : ∀ b : Nat, b < 2147483648 → (BitVec.ofNat 32 b).toInt = (b : Int) := by
    intro b hb
    rw [BitVec.toInt_eq_toNat_of_lt (by rw [BitVec.toNat_ofNat]; omega), BitVec.toNat_ofNat]
    omega
  have := Nat.shiftRight_le a k
  rw [BitVec.toInt_sshiftRight, h1 a ha, h1 _ (by omega)]
  rfl
/-- the count of bits as it is made -/
def bcN (x : Nat) : Nat :=
  let a := x - ((x >>> 1) &&& 1431655765)
  let b := (a &&& 858993459) + ((a >>> 2) &&& 858993459)
  let c := (b + (b >>> 4)) &&& 252645135
  let d := c + (c >>> 8)
  let e := d + (d >>> 16)
  e &&& 63
def pop (x : Nat) : Nat := cnt x.testBit 16
def bA1 (l : Nat) : Nat := l - ((l >>> 1) &&& 85)
def bA2 (a : Nat) : Nat := (a &&& 51) + ((a >>> 2) &&& 51)
theorem and256 {h l H m : Nat} (hl : l < 256) (hm : m < 256) : (256 * h + l) &&& (256 * H + m) = 256 * (h &&& H) + (l &&& m) := by
  apply Nat.eq_of_testBit_eq
  intro i
  have hlm : l &&& m < 2 ^ 8 := Nat.lt_of_le_of_lt Nat.and_le_left hl
  rw [show (256 : Nat) = 2 ^ 8 from rfl, Nat.testBit_and, Nat.testBit_two_pow_mul_add _ hl, Nat.testBit_two_pow_mul_add _ hm, Nat.testBit_two_pow_mul_add _ hlm]
  split <;> rw [Nat.testBit_and]
theorem and_hi {x M m : Nat} (hx : x < 65536) (hm : M % 65536 = m) : x &&& M = x &&& m := by
  apply Nat.eq_of_testBit_eq
  intro i
  subst hm
  rw [Nat.testBit_and, Nat.testBit_and, show (65536 : Nat) = 2 ^ 16 from rfl, Nat.testBit_mod_two_pow]
  by_cases h : i < 16
  · rw [decide_eq_true h, Bool.true_and]
  · rw [Nat.testBit_lt_two_pow (Nat.lt_of_lt_of_le hx (show 2 ^ 16 ≤ 2 ^ i from Nat.pow_le_pow_right (by omega) (by omega)))]
    simp
theorem bc_tab : ((List.range 256).all fun l => (bA1 l < 256 && bA2 (bA1 l) < 256) && ((l >>> 1) &&& 85 ≤ l && (bA2 (bA1 l) % 16 ≤ 4 && (bA2 (bA1 l) / 16 ≤ 4 && (bA2 (bA1 l) % 16 + bA2 (bA1 l) / 16 == cnt l.testBit 8))))) = true := by decide +kernel
theorem bc_t1 : ((List.range 2).all fun b => (List.range 128).all fun l => (128 * b + l) &&& 85 == l &&& 85) = true := by decide +kernel
theorem bc_t2 : ((List.range 4).all fun b => (List.range 64).all fun l => (64 * b + l) &&& 51 == l &&& 51) = true := by decide +kernel
theorem bc_t3 : ((List.range 5).all fun b => (List.range 9).all fun l => (16 * b + l) &&& 15 == l && ((16 * b + l) < 256)) = true := by decide +kernel
theorem bc_fin : ((List.range 9).all fun p => (List.range 9).all fun q => (((256 * p + q) + ((256 * p + q) >>> 8)) + (((256 * p + q) + ((256 * p + q) >>> 8)) >>> 16)) &&& 63 == p + q) = true := by decide +kernel
theorem bc_pop {x : Nat} (hx : x < 65536) : bcN x = pop x := by
  obtain ⟨h, l, hh, hl, rfl⟩ : ∃ h l, h < 256 ∧ l < 256 ∧ x = 256 * h + l := ⟨x / 256, x % 256, by omega, by omega, by omega⟩
  have T := List.all_eq_true.mp bc_tab
  have Th := T h (List.mem_range.mpr hh)
  have Tl := T l (List.mem_range.mpr hl)
  simp only [Bool.and_eq_true, decide_eq_true_eq, beq_iff_eq] at Th Tl
  obtain ⟨⟨h1, h2⟩, h3, h4, h5, h6⟩ := Th
  obtain ⟨⟨l1, l2⟩, l3, l4, l5, l6⟩ := Tl
  have s1 : (256 * h + l) - (((256 * h + l) >>> 1) &&& 1431655765) = 256 * bA1 h + bA1 l := by
    rw [and_hi (m := 21845) (by rw [Nat.shiftRight_eq_div_pow]; omega) rfl, show (256 * h + l) >>> 1 = 256 * (h >>> 1) + (128 * (h % 2) + l >>> 1) from by simp only [Nat.shiftRight_eq_div_pow]; omega]
    have e := List.all_eq_true.mp (List.all_eq_true.mp bc_t1 (h % 2) (List.mem_range.mpr (by omega))) (l >>> 1) (List.mem_range.mpr (by rw [Nat.shiftRight_eq_div_pow]; omega))
    rw [show (21845 : Nat) = 256 * 85 + 85 from rfl, and256 (by rw [Nat.shiftRight_eq_div_pow]; omega) (by omega), eq_of_beq e]
    unfold bA1
    omega
  have s2 : ((256 * bA1 h + bA1 l) &&& 858993459) + (((256 * bA1 h + bA1 l) >>> 2) &&& 858993459) = 256 * bA2 (bA1 h) + bA2 (bA1 l) := by
    have q2 : (256 * bA1 h + bA1 l) >>> 2 < 65536 := by rw [Nat.shiftRight_eq_div_pow]; omega
    have q3 : bA1 l >>> 2 < 64 := by rw [Nat.shiftRight_eq_div_pow]; omega
    rw [and_hi (x := 256 * bA1 h + bA1 l) (M := 858993459) (m := 13107) (by omega) rfl, and_hi (x := (256 * bA1 h + bA1 l) >>> 2) (M := 858993459) (m := 13107) q2 rfl, show (256 * bA1 h + bA1 l) >>> 2 = 256 * (bA1 h >>> 2) + (64 * (bA1 h % 4) + bA1 l >>> 2) from by simp only [Nat.shiftRight_eq_div_pow]; omega]
    have e := List.all_eq_true.mp (List.all_eq_true.mp bc_t2 (bA1 h % 4) (List.mem_range.mpr (by omega))) (bA1 l >>> 2) (List.mem_range.mpr (by rw [Nat.shiftRight_eq_div_pow]; omega))
    rw [show (13107 : Nat) = 256 * 51 + 51 from rfl, and256 l1 (by omega), and256 (l := 64 * (bA1 h % 4) + bA1 l >>> 2) (by omega) (by omega), eq_of_beq e]
    unfold bA2
    omega
  have s3 : ((256 * bA2 (bA1 h) + bA2 (bA1 l)) + ((256 * bA2 (bA1 h) + bA2 (bA1 l)) >>> 4)) &&& 252645135 = 256 * cnt h.testBit 8 + cnt l.testBit 8 := by
    generalize bA2 (bA1 h) = p at *
    generalize bA2 (bA1 l) = q at *
    have e0 : (256 * p + q) + ((256 * p + q) >>> 4) = 256 * (16 * (p / 16) + (p % 16 + p / 16)) + (16 * (q / 16 + p % 16) + (q % 16 + q / 16)) := by
      simp only [Nat.shiftRight_eq_div_pow]; omega
    have e1 := List.all_eq_true.mp (List.all_eq_true.mp bc_t3 (p / 16) (List.mem_range.mpr (by omega))) (p % 16 + p / 16) (List.mem_range.mpr (by omega))
    simp only [Bool.and_eq_true, decide_eq_true_eq, beq_iff_eq] at e1
    have e2 : (16 * (q / 16 + p % 16) + (q % 16 + q / 16)) &&& 15 = q % 16 + q / 16 := by
      rw [show (15 : Nat) = 2 ^ 4 - 1 from rfl, Nat.and_two_pow_sub_one_eq_mod]; omega
    rw [e0, and_hi (m := 3855) (by omega) rfl, show (3855 : Nat) = 256 * 15 + 15 from rfl, and256 (by omega) (by omega), e1.1, e2, h6, l6]
  have f := eq_of_beq (List.all_eq_true.mp (List.all_eq_true.mp bc_fin (cnt h.testBit 8) (List.mem_range.mpr (by have := cnt_le h.testBit 8; omega))) (cnt l.testBit 8) (List.mem_range.mpr (by have := cnt_le l.testBit 8; omega)))
  have e : pop (256 * h + l) = cnt h.testBit 8 + cnt l.testBit 8 := by
    have hb : ∀ i, (256 * h + l).testBit i = if i < 8 then l.testBit i else h.testBit (i - 8) := fun i => Nat.testBit_two_pow_mul_add (i := 8) h hl i
    simp only [pop, cnt, hb]
    simp
    omega
  rw [e, ← f]
  unfold bcN
  simp only [s1, s2, s3]
