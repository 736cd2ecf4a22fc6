/-! the rules, one an instruction; numbers as zI of integers -/
abbrev zI (n : Int) : Int32 := Int32.ofInt n
section JR
variable {s : Option (Nat × (Nat → Int32))} {M : jM} {Q : (Option Value ⊕ Nat) → jW → Prop} {is : List jI} {lv : jL} {st : List Value} {w : jW} {l a b : Nat}
theorem e_null : jev s M Q ((.aconst_null, l, a, b) :: is) lv (st) w = jev s M Q is lv (.null :: st) w := rfl
theorem e_iconst {n : Int} : jev s M Q ((.iconst n, l, a, b) :: is) lv (st) w = jev s M Q is lv (.int (zI n) :: st) w := rfl
theorem zI_bi (n : Int) : (Int8.ofInt n).toInt32 = zI n ∨ True := Or.inr trivial
theorem e_bipush {n : Int} : jev s M Q ((.bipush n, l, a, b) :: is) lv (st) w = jev s M Q is lv (.int (Int8.ofInt n).toInt32 :: st) w := rfl
theorem e_sipush {n : Int} : jev s M Q ((.sipush n, l, a, b) :: is) lv (st) w = jev s M Q is lv (.int (Int16.ofInt n).toInt32 :: st) w := rfl
theorem e_lconst {n : Fin 2} : jev s M Q ((.lconst n, l, a, b) :: is) lv (st) w = jev s M Q is lv (.long (Int64.ofNat n) :: st) w := rfl
theorem e_ldc {n : Nat} : jev s M Q ((.ldc n, l, a, b) :: is) lv (st) w = jev s M Q is lv (.int (Int32.ofNat a) :: st) w := rfl
theorem e_ldc_w {n : Nat} : jev s M Q ((.ldc_w n, l, a, b) :: is) lv (st) w = jev s M Q is lv (.int (Int32.ofNat a) :: st) w := rfl
theorem e_ldc2 {n : Nat} : jev s M Q ((.ldc2_w n, l, a, b) :: is) lv (st) w = jev s M Q is lv (.long (Int64.ofNat a) :: st) w := rfl
def jki (o : Option Value) (k : Int32 → Prop) : Prop := match o with | some (.int y) => k y | _ => False
theorem jki_some (y : Int32) (k : Int32 → Prop) : jki (some (.int y)) k = k y := rfl
def jkl (o : Option Value) (k : Int64 → Prop) : Prop := match o with | some (.long y) => k y | _ => False
theorem jkl_some (y : Int64) (k : Int64 → Prop) : jkl (some (.long y)) k = k y := rfl
def jkd (o : Option Value) (k : UInt64 → Prop) : Prop := match o with | some (.double y) => k y | _ => False
theorem jkd_some (y : UInt64) (k : UInt64 → Prop) : jkd (some (.double y)) k = k y := rfl
def jka (o : Option Value) (k : Value → Prop) : Prop := match o with | some (.ref y) => k (.ref y) | some (.retAddr y) => k (.retAddr y) | _ => False
theorem jka_ref (y : Nat) (k : Value → Prop) : jka (some (.ref y)) k = k (.ref y) := rfl
theorem jka_scr (y : Nat) (k : Value → Prop) : jka (some (.retAddr y)) k = k (.retAddr y) := rfl
theorem e_iload_n {k : Fin 4} : jev s M Q ((.iload_n k, l, a, b) :: is) lv (st) w = jki (jlk lv k.val) (fun y => jev s M Q is lv (.int y :: st) w) := by
  simp only [jev, jki]
  cases jlk lv k.val with | none => rfl | some v => cases v <;> rfl
theorem e_iload {k : Nat} : jev s M Q ((.iload k, l, a, b) :: is) lv (st) w = jki (jlk lv k) (fun y => jev s M Q is lv (.int y :: st) w) := by
  simp only [jev, jki]
  cases jlk lv k with | none => rfl | some v => cases v <;> rfl
theorem e_lload_n {k : Fin 4} : jev s M Q ((.lload_n k, l, a, b) :: is) lv (st) w = jkl (jlk lv k.val) (fun y => jev s M Q is lv (.long y :: st) w) := by
  simp only [jev, jkl]
  cases jlk lv k.val with | none => rfl | some v => cases v <;> rfl
theorem e_lload {k : Nat} : jev s M Q ((.lload k, l, a, b) :: is) lv (st) w = jkl (jlk lv k) (fun y => jev s M Q is lv (.long y :: st) w) := by
  simp only [jev, jkl]
  cases jlk lv k with | none => rfl | some v => cases v <;> rfl
theorem e_dload {k : Nat} : jev s M Q ((.dload k, l, a, b) :: is) lv (st) w = jkd (jlk lv k) (fun y => jev s M Q is lv (.double y :: st) w) := by
  simp only [jev, jkd]
  cases jlk lv k with | none => rfl | some v => cases v <;> rfl
theorem e_aload_n {k : Fin 4} : jev s M Q ((.aload_n k, l, a, b) :: is) lv (st) w = jka (jlk lv k.val) (fun y => jev s M Q is lv (y :: st) w) := by
  simp only [jev, jka]
  cases jlk lv k.val with | none => rfl | some v => cases v <;> rfl
theorem e_aload {k : Nat} : jev s M Q ((.aload k, l, a, b) :: is) lv (st) w = jka (jlk lv k) (fun y => jev s M Q is lv (y :: st) w) := by
  simp only [jev, jka]
  cases jlk lv k with | none => rfl | some v => cases v <;> rfl
theorem e_istore_n {k : Fin 4} {x : Int32} : jev s M Q ((.istore_n k, l, a, b) :: is) lv (.int x :: st) w = (k.val < jM_nl M ∧ jev s M Q is (jup lv k.val (.int x)) (st) w) := rfl
theorem e_istore {k : Nat} {x : Int32} : jev s M Q ((.istore k, l, a, b) :: is) lv (.int x :: st) w = (k < jM_nl M ∧ jev s M Q is (jup lv k (.int x)) (st) w) := rfl
theorem e_lstore_n {k : Fin 4} {x : Int64} : jev s M Q ((.lstore_n k, l, a, b) :: is) lv (.long x :: st) w = (k.val + 1 < jM_nl M ∧ jev s M Q is (jup2 lv k.val (.long x)) (st) w) := rfl
theorem e_lstore {k : Nat} {x : Int64} : jev s M Q ((.lstore k, l, a, b) :: is) lv (.long x :: st) w = (k + 1 < jM_nl M ∧ jev s M Q is (jup2 lv k (.long x)) (st) w) := rfl
theorem e_dstore {k : Nat} {x : UInt64} : jev s M Q ((.dstore k, l, a, b) :: is) lv (.double x :: st) w = (k + 1 < jM_nl M ∧ jev s M Q is (jup2 lv k (.double x)) (st) w) := rfl
theorem e_astore_n {k : Fin 4} {x : Nat} : jev s M Q ((.astore_n k, l, a, b) :: is) lv (.ref x :: st) w = (k.val < jM_nl M ∧ jev s M Q is (jup lv k.val (.ref x)) (st) w) := rfl
theorem e_astore {k : Nat} {x : Nat} : jev s M Q ((.astore k, l, a, b) :: is) lv (.ref x :: st) w = (k < jM_nl M ∧ jev s M Q is (jup lv k (.ref x)) (st) w) := rfl
theorem e_iinc {k : Nat} {n : Int} : jev s M Q ((.iinc k n, l, a, b) :: is) lv (st) w = jki (jlk lv k) (fun y => k < jM_nl M ∧ jev s M Q is (jup lv k (.int (y + zI n))) (st) w) := by
  simp only [jev, jki]
  cases jlk lv k with | none => rfl | some v => cases v <;> rfl
theorem e_iadd {x y : Int32} : jev s M Q ((.iadd, l, a, b) :: is) lv (.int y :: .int x :: st) w = jev s M Q is lv (.int (x + y) :: st) w := rfl
theorem e_isub {x y : Int32} : jev s M Q ((.isub, l, a, b) :: is) lv (.int y :: .int x :: st) w = jev s M Q is lv (.int (x - y) :: st) w := rfl
theorem e_imul {x y : Int32} : jev s M Q ((.imul, l, a, b) :: is) lv (.int y :: .int x :: st) w = jev s M Q is lv (.int (x * y) :: st) w := rfl
theorem e_iand {x y : Int32} : jev s M Q ((.iand, l, a, b) :: is) lv (.int y :: .int x :: st) w = jev s M Q is lv (.int (x &&& y) :: st) w := rfl
theorem e_ior {x y : Int32} : jev s M Q ((.ior, l, a, b) :: is) lv (.int y :: .int x :: st) w = jev s M Q is lv (.int (x ||| y) :: st) w := rfl
theorem e_ixor {x y : Int32} : jev s M Q ((.ixor, l, a, b) :: is) lv (.int y :: .int x :: st) w = jev s M Q is lv (.int (x ^^^ y) :: st) w := rfl
theorem e_ishl {x y : Int32} : jev s M Q ((.ishl, l, a, b) :: is) lv (.int y :: .int x :: st) w = jev s M Q is lv (.int (x <<< (y &&& 31)) :: st) w := rfl
theorem e_ishr {x y : Int32} : jev s M Q ((.ishr, l, a, b) :: is) lv (.int y :: .int x :: st) w = jev s M Q is lv (.int (x >>> (y &&& 31)) :: st) w := rfl
theorem e_iushr {x y : Int32} : jev s M Q ((.iushr, l, a, b) :: is) lv (.int y :: .int x :: st) w = jev s M Q is lv (.int ((x.toUInt32 >>> (y.toUInt32 &&& Int32.toUInt32 31)).toInt32) :: st) w := rfl
theorem e_idiv {x y : Int32} : jev s M Q ((.idiv, l, a, b) :: is) lv (.int y :: .int x :: st) w = (¬ y = 0 ∧ jev s M Q is lv (.int (x / y) :: st) w) := by
  simp only [jev, jstep, Bool.cond_eq_ite]
  by_cases h : y = 0 <;> simp [h]
theorem e_irem {x y : Int32} : jev s M Q ((.irem, l, a, b) :: is) lv (.int y :: .int x :: st) w = (¬ y = 0 ∧ jev s M Q is lv (.int (x - x / y * y) :: st) w) := by
  simp only [jev, jstep, Bool.cond_eq_ite]
  by_cases h : y = 0 <;> simp [h]
theorem e_ineg {x : Int32} : jev s M Q ((.ineg, l, a, b) :: is) lv (.int x :: st) w = jev s M Q is lv (.int (-x) :: st) w := rfl
theorem e_ladd {x y : Int64} : jev s M Q ((.ladd, l, a, b) :: is) lv (.long y :: .long x :: st) w = jev s M Q is lv (.long (x + y) :: st) w := rfl
theorem e_lsub {x y : Int64} : jev s M Q ((.lsub, l, a, b) :: is) lv (.long y :: .long x :: st) w = jev s M Q is lv (.long (x - y) :: st) w := rfl
theorem e_lmul {x y : Int64} : jev s M Q ((.lmul, l, a, b) :: is) lv (.long y :: .long x :: st) w = jev s M Q is lv (.long (x * y) :: st) w := rfl
theorem e_land {x y : Int64} : jev s M Q ((.land, l, a, b) :: is) lv (.long y :: .long x :: st) w = jev s M Q is lv (.long (x &&& y) :: st) w := rfl
theorem e_lor {x y : Int64} : jev s M Q ((.lor, l, a, b) :: is) lv (.long y :: .long x :: st) w = jev s M Q is lv (.long (x ||| y) :: st) w := rfl
theorem e_lxor {x y : Int64} : jev s M Q ((.lxor, l, a, b) :: is) lv (.long y :: .long x :: st) w = jev s M Q is lv (.long (x ^^^ y) :: st) w := rfl
theorem e_ldiv {x y : Int64} : jev s M Q ((.ldiv, l, a, b) :: is) lv (.long y :: .long x :: st) w = (¬ y = 0 ∧ jev s M Q is lv (.long (x / y) :: st) w) := by
  simp only [jev, jstep, Bool.cond_eq_ite]
  by_cases h : y = 0 <;> simp [h]
theorem e_lrem {x y : Int64} : jev s M Q ((.lrem, l, a, b) :: is) lv (.long y :: .long x :: st) w = (¬ y = 0 ∧ jev s M Q is lv (.long (x - x / y * y) :: st) w) := by
  simp only [jev, jstep, Bool.cond_eq_ite]
  by_cases h : y = 0 <;> simp [h]
theorem e_lshl {y : Int32} {x : Int64} : jev s M Q ((.lshl, l, a, b) :: is) lv (.int y :: .long x :: st) w = jev s M Q is lv (.long (x <<< (y.toInt64 &&& 63)) :: st) w := rfl
theorem e_lushr {y : Int32} {x : Int64} : jev s M Q ((.lushr, l, a, b) :: is) lv (.int y :: .long x :: st) w = jev s M Q is lv (.long ((x.toUInt64 >>> (y.toInt64.toUInt64 &&& Int64.toUInt64 63)).toInt64) :: st) w := rfl
theorem e_lcmp {x y : Int64} : jev s M Q ((.lcmp, l, a, b) :: is) lv (.long y :: .long x :: st) w = jev s M Q is lv (.int (lg_cmp x y) :: st) w := rfl
theorem e_i2l {x : Int32} : jev s M Q ((.i2l, l, a, b) :: is) lv (.int x :: st) w = jev s M Q is lv (.long x.toInt64 :: st) w := rfl
theorem e_l2i {x : Int64} : jev s M Q ((.l2i, l, a, b) :: is) lv (.long x :: st) w = jev s M Q is lv (.int x.toInt32 :: st) w := rfl
theorem e_dup_int {x : Int32} : jev s M Q ((.dup, l, a, b) :: is) lv (.int x :: st) w = jev s M Q is lv (.int x :: .int x :: st) w := rfl
theorem e_pop_int {x : Int32} : jev s M Q ((.pop, l, a, b) :: is) lv (.int x :: st) w = jev s M Q is lv (st) w := rfl
theorem e_dup_ref {x : Nat} : jev s M Q ((.dup, l, a, b) :: is) lv (.ref x :: st) w = jev s M Q is lv (.ref x :: .ref x :: st) w := rfl
theorem e_pop_ref {x : Nat} : jev s M Q ((.pop, l, a, b) :: is) lv (.ref x :: st) w = jev s M Q is lv (st) w := rfl
theorem e_dup_retAddr {x : Nat} : jev s M Q ((.dup, l, a, b) :: is) lv (.retAddr x :: st) w = jev s M Q is lv (.retAddr x :: .retAddr x :: st) w := rfl
theorem e_pop_retAddr {x : Nat} : jev s M Q ((.pop, l, a, b) :: is) lv (.retAddr x :: st) w = jev s M Q is lv (st) w := rfl
theorem e_dup_float {x : UInt32} : jev s M Q ((.dup, l, a, b) :: is) lv (.float x :: st) w = jev s M Q is lv (.float x :: .float x :: st) w := rfl
theorem e_pop_float {x : UInt32} : jev s M Q ((.pop, l, a, b) :: is) lv (.float x :: st) w = jev s M Q is lv (st) w := rfl
theorem e_dup_null : jev s M Q ((.dup, l, a, b) :: is) lv (.null :: st) w = jev s M Q is lv (.null :: .null :: st) w := rfl
theorem e_dup2_ir {x : Int32} {y : Nat} : jev s M Q ((.dup2, l, a, b) :: is) lv (.int x :: .ref y :: st) w = jev s M Q is lv (.int x :: .ref y :: .int x :: .ref y :: st) w := rfl
def jop (o : Option Value) (k : Value → Prop) : Prop := match o with | some v => k v | none => False
theorem jop_some (v : Value) (k : Value → Prop) : jop (some v) k = k v := rfl
def jgf (o : Option jC) (a b : Nat) (k : Value → Prop) : Prop := match o with | some (.inr o) => (bif Nat.beq o.1 a then jop o.2[b]? k else False) | _ => False
theorem jgf_some (a b : Nat) (fs : List Value) (k : Value → Prop) : jgf (some (.inr (a, fs))) a b k = jop fs[b]? k := by simp only [jgf, Nat.beq_refl, cond_true]
def jpf (o : Option jC) (a b : Nat) (v : Value) (k : jC → Prop) : Prop := match o with | some (.inr o) => (bif Nat.beq o.1 (a / 4) && (jfit (a % 4) v && Nat.blt b o.2.length) then k (.inr (o.1, o.2.set b v)) else False) | _ => False
def jia (o : Option jC) (t : Nat) (i : Int32) (k : Int32 → Prop) : Prop := match o with | some (.inl (t', n, .inl f)) => (bif Nat.beq t' t && jin i n then k (f i.toNatClampNeg) else False) | _ => False
def jla (o : Option jC) (i : Int32) (k : Int64 → Prop) : Prop := match o with | some (.inl (2, n, .inr (.inl f))) => (bif jin i n then k (f i.toNatClampNeg) else False) | _ => False
def jaa (o : Option jC) (i : Int32) (k : Value → Prop) : Prop := match o with | some (.inl (t, n, .inr (.inr f))) => (bif jin i n && (Nat.blt 2 t && Nat.blt t 7) then k (va_rf (f i.toNatClampNeg)) else False) | _ => False
def jis (o : Option jC) (t : Nat) (i x : Int32) (k : jC → Prop) : Prop := match o with | some (.inl (t', n, .inl f)) => (bif Nat.beq t' t && jin i n then k (.inl (t, n, .inl (upd f i.toNatClampNeg x))) else False) | _ => False
def jls (o : Option jC) (i : Int32) (x : Int64) (k : jC → Prop) : Prop := match o with | some (.inl (2, n, .inr (.inl f))) => (bif jin i n then k (.inl (2, n, .inr (.inl (vp_updL f i.toNatClampNeg x)))) else False) | _ => False
def jal (o : Option jC) (k : Int32 → Prop) : Prop := match o with | some (.inl c) => (bif Nat.blt c.1 7 then k (Int32.ofNat c.2.1) else False) | _ => False
theorem jal_some (t n : Nat) (f : (Nat → Int32) ⊕ (Nat → Int64) ⊕ (Nat → Option Nat)) (k : Int32 → Prop) (h : t < 7) : jal (some (.inl (t, n, f))) k = k (Int32.ofNat n) := by simp only [jal, Nat.blt_eq.mpr h, cond_true]
theorem e_getfield {n q : Nat} : jev s M Q ((.getfield n, l, a, b) :: is) lv (.ref q :: st) w = jgf w[q]? a b (fun v => jev s M Q is lv (v :: st) w) := by
  simp only [jev, jstep, jgf, jop]
  cases w[q]? with
  | none => rfl
  | some c =>
    cases c with
    | inl c => rfl
    | inr o =>
      dsimp only
      cases Nat.beq o.1 a with
      | false => rfl
      | true => dsimp only [cond_true]; cases o.2[b]? <;> rfl
theorem e_putfield {n q : Nat} {v : Value} : jev s M Q ((.putfield n, l, a, b) :: is) lv (v :: .ref q :: st) w = jpf w[q]? a b v (fun c => jev s M Q is lv (st) (w.set q c)) := by
  simp only [jev, jstep, jpf]
  cases w[q]? with
  | none => rfl
  | some c =>
    cases c with
    | inl c => rfl
    | inr o =>
      dsimp only
      cases Nat.beq o.1 (a / 4) && (jfit (a % 4) v && Nat.blt b o.2.length) <;> rfl
theorem jpf_some (c t b : Nat) (fs : List Value) (v : Value) (k : jC → Prop) (h1 : jfit t v = true) (h2 : b < fs.length) (h3 : t < 4) : jpf (some (.inr (c, fs))) (c * 4 + t) b v k = k (.inr (c, fs.set b v)) := by
  have e1 : (c * 4 + t) / 4 = c := by omega
  have e2 : (c * 4 + t) % 4 = t := by omega
  simp only [jpf, e1, e2, h1, Nat.beq_refl, Nat.blt_eq.mpr h2, Bool.and_self, cond_true]
theorem e_iaload {q : Nat} {i : Int32} : jev s M Q ((.iaload, l, a, b) :: is) lv (.int i :: .ref q :: st) w = jia w[q]? 0 i (fun v => jev s M Q is lv (.int v :: st) w) := by
  simp only [jev, jstep, jia]
  cases w[q]? with
  | none => rfl
  | some c =>
    rcases c with ⟨t, n, f | f | f⟩ | o
    · (rcases t with _ | _ | _ | t <;> first | rfl | (simp only [Nat.beq_refl, Bool.true_and]; cases jin i n <;> rfl) | (simp [Nat.beq]))
    · (rcases t with _ | _ | _ | t <;> first | rfl | (simp only [Nat.beq_refl, Bool.true_and]; cases jin i n <;> rfl) | (simp [Nat.beq]))
    · (rcases t with _ | _ | _ | t <;> first | rfl | (simp only [Nat.beq_refl, Bool.true_and]; cases jin i n <;> rfl) | (simp [Nat.beq]))
    · rfl
theorem e_baload {q : Nat} {i : Int32} : jev s M Q ((.baload, l, a, b) :: is) lv (.int i :: .ref q :: st) w = jia w[q]? 1 i (fun v => jev s M Q is lv (.int v :: st) w) := by
  simp only [jev, jstep, jia]
  cases w[q]? with
  | none => rfl
  | some c =>
    rcases c with ⟨t, n, f | f | f⟩ | o
    · (rcases t with _ | _ | _ | t <;> first | rfl | (simp only [Nat.beq_refl, Bool.true_and]; cases jin i n <;> rfl) | (simp [Nat.beq]))
    · (rcases t with _ | _ | _ | t <;> first | rfl | (simp only [Nat.beq_refl, Bool.true_and]; cases jin i n <;> rfl) | (simp [Nat.beq]))
    · (rcases t with _ | _ | _ | t <;> first | rfl | (simp only [Nat.beq_refl, Bool.true_and]; cases jin i n <;> rfl) | (simp [Nat.beq]))
    · rfl
theorem e_laload {q : Nat} {i : Int32} : jev s M Q ((.laload, l, a, b) :: is) lv (.int i :: .ref q :: st) w = jla w[q]? i (fun v => jev s M Q is lv (.long v :: st) w) := by
  simp only [jev, jstep, jla]
  cases w[q]? with
  | none => rfl
  | some c =>
    rcases c with ⟨t, n, f | f | f⟩ | o
    · (rcases t with _ | _ | _ | t <;> first | rfl | (simp only [Nat.beq_refl, Bool.true_and]; cases jin i n <;> rfl) | (simp [Nat.beq]))
    · (rcases t with _ | _ | _ | t <;> first | rfl | (simp only [Nat.beq_refl, Bool.true_and]; cases jin i n <;> rfl) | (simp [Nat.beq]))
    · (rcases t with _ | _ | _ | t <;> first | rfl | (simp only [Nat.beq_refl, Bool.true_and]; cases jin i n <;> rfl) | (simp [Nat.beq]))
    · rfl
theorem e_aaload {q : Nat} {i : Int32} : jev s M Q ((.aaload, l, a, b) :: is) lv (.int i :: .ref q :: st) w = jaa w[q]? i (fun v => jev s M Q is lv (v :: st) w) := by
  simp only [jev, jstep, jaa]
  cases w[q]? with
  | none => rfl
  | some c =>
    rcases c with ⟨t, n, f | f | f⟩ | o
    · rfl
    · rfl
    · dsimp only; cases jin i n && (Nat.blt 2 t && Nat.blt t 7) <;> rfl
    · rfl
theorem e_iastore {q : Nat} {i x : Int32} : jev s M Q ((.iastore, l, a, b) :: is) lv (.int x :: .int i :: .ref q :: st) w = jis w[q]? 0 i x (fun c => jev s M Q is lv (st) (w.set q c)) := by
  simp only [jev, jstep, jis]
  cases w[q]? with
  | none => rfl
  | some c =>
    rcases c with ⟨t, n, f | f | f⟩ | o
    · (rcases t with _ | _ | _ | t <;> first | rfl | (simp only [Nat.beq_refl, Bool.true_and]; cases jin i n <;> rfl) | (simp [Nat.beq]))
    · (rcases t with _ | _ | _ | t <;> first | rfl | (simp only [Nat.beq_refl, Bool.true_and]; cases jin i n <;> rfl) | (simp [Nat.beq]))
    · (rcases t with _ | _ | _ | t <;> first | rfl | (simp only [Nat.beq_refl, Bool.true_and]; cases jin i n <;> rfl) | (simp [Nat.beq]))
    · rfl
theorem e_bastore {q : Nat} {i x : Int32} : jev s M Q ((.bastore, l, a, b) :: is) lv (.int x :: .int i :: .ref q :: st) w = jis w[q]? 1 i (vp_nar .boolean x) (fun c => jev s M Q is lv (st) (w.set q c)) := by
  simp only [jev, jstep, jis]
  cases w[q]? with
  | none => rfl
  | some c =>
    rcases c with ⟨t, n, f | f | f⟩ | o
    · (rcases t with _ | _ | _ | t <;> first | rfl | (simp only [Nat.beq_refl, Bool.true_and]; cases jin i n <;> rfl) | (simp [Nat.beq]))
    · (rcases t with _ | _ | _ | t <;> first | rfl | (simp only [Nat.beq_refl, Bool.true_and]; cases jin i n <;> rfl) | (simp [Nat.beq]))
    · (rcases t with _ | _ | _ | t <;> first | rfl | (simp only [Nat.beq_refl, Bool.true_and]; cases jin i n <;> rfl) | (simp [Nat.beq]))
    · rfl
theorem e_lastore {q : Nat} {i : Int32} {x : Int64} : jev s M Q ((.lastore, l, a, b) :: is) lv (.long x :: .int i :: .ref q :: st) w = jls w[q]? i x (fun c => jev s M Q is lv (st) (w.set q c)) := by
  simp only [jev, jstep, jls]
  cases w[q]? with
  | none => rfl
  | some c =>
    rcases c with ⟨t, n, f | f | f⟩ | o
    · (rcases t with _ | _ | _ | t <;> first | rfl | (simp only [Nat.beq_refl, Bool.true_and]; cases jin i n <;> rfl) | (simp [Nat.beq]))
    · (rcases t with _ | _ | _ | t <;> first | rfl | (simp only [Nat.beq_refl, Bool.true_and]; cases jin i n <;> rfl) | (simp [Nat.beq]))
    · (rcases t with _ | _ | _ | t <;> first | rfl | (simp only [Nat.beq_refl, Bool.true_and]; cases jin i n <;> rfl) | (simp [Nat.beq]))
    · rfl
theorem e_arraylength {q : Nat} : jev s M Q ((.arraylength, l, a, b) :: is) lv (.ref q :: st) w = jal w[q]? (fun v => jev s M Q is lv (.int v :: st) w) := by
  simp only [jev, jstep, jal]
  cases w[q]? with
  | none => rfl
  | some c =>
    cases c with
    | inr o => rfl
    | inl c => dsimp only; cases Nat.blt c.1 7 <;> rfl
theorem e_nop : jev s M Q ((.nop, l, a, b) :: is) lv (st) w = jat s M Q a lv (st) w := rfl
theorem e_goto {n : Int} : jev s M Q ((.goto n, l, a, b) :: is) lv (st) w = jat s M Q a lv (st) w := rfl
theorem e_if_eq {n : Int} {y : Int32} : jev s M Q ((.ifCond .eq n, l, a, b) :: is) lv (.int y :: st) w = ((y = 0 → jat s M Q a lv st w) ∧ (¬ (y = 0) → jev s M Q is lv (st) w)) := rfl
theorem e_icmp_eq {n : Int} {y z : Int32} : jev s M Q ((.if_icmp .eq n, l, a, b) :: is) lv (.int z :: .int y :: st) w = ((y = z → jat s M Q a lv st w) ∧ (¬ (y = z) → jev s M Q is lv (st) w)) := rfl
theorem e_if_ne {n : Int} {y : Int32} : jev s M Q ((.ifCond .ne n, l, a, b) :: is) lv (.int y :: st) w = ((¬ y = 0 → jat s M Q a lv st w) ∧ (¬ (¬ y = 0) → jev s M Q is lv (st) w)) := rfl
theorem e_icmp_ne {n : Int} {y z : Int32} : jev s M Q ((.if_icmp .ne n, l, a, b) :: is) lv (.int z :: .int y :: st) w = ((¬ y = z → jat s M Q a lv st w) ∧ (¬ (¬ y = z) → jev s M Q is lv (st) w)) := rfl
theorem e_if_lt {n : Int} {y : Int32} : jev s M Q ((.ifCond .lt n, l, a, b) :: is) lv (.int y :: st) w = ((y < 0 → jat s M Q a lv st w) ∧ (¬ (y < 0) → jev s M Q is lv (st) w)) := rfl
theorem e_icmp_lt {n : Int} {y z : Int32} : jev s M Q ((.if_icmp .lt n, l, a, b) :: is) lv (.int z :: .int y :: st) w = ((y < z → jat s M Q a lv st w) ∧ (¬ (y < z) → jev s M Q is lv (st) w)) := rfl
theorem e_if_ge {n : Int} {y : Int32} : jev s M Q ((.ifCond .ge n, l, a, b) :: is) lv (.int y :: st) w = ((0 ≤ y → jat s M Q a lv st w) ∧ (¬ (0 ≤ y) → jev s M Q is lv (st) w)) := rfl
theorem e_icmp_ge {n : Int} {y z : Int32} : jev s M Q ((.if_icmp .ge n, l, a, b) :: is) lv (.int z :: .int y :: st) w = ((z ≤ y → jat s M Q a lv st w) ∧ (¬ (z ≤ y) → jev s M Q is lv (st) w)) := rfl
theorem e_if_gt {n : Int} {y : Int32} : jev s M Q ((.ifCond .gt n, l, a, b) :: is) lv (.int y :: st) w = ((0 < y → jat s M Q a lv st w) ∧ (¬ (0 < y) → jev s M Q is lv (st) w)) := rfl
theorem e_icmp_gt {n : Int} {y z : Int32} : jev s M Q ((.if_icmp .gt n, l, a, b) :: is) lv (.int z :: .int y :: st) w = ((z < y → jat s M Q a lv st w) ∧ (¬ (z < y) → jev s M Q is lv (st) w)) := rfl
theorem e_if_le {n : Int} {y : Int32} : jev s M Q ((.ifCond .le n, l, a, b) :: is) lv (.int y :: st) w = ((y ≤ 0 → jat s M Q a lv st w) ∧ (¬ (y ≤ 0) → jev s M Q is lv (st) w)) := rfl
theorem e_icmp_le {n : Int} {y z : Int32} : jev s M Q ((.if_icmp .le n, l, a, b) :: is) lv (.int z :: .int y :: st) w = ((y ≤ z → jat s M Q a lv st w) ∧ (¬ (y ≤ z) → jev s M Q is lv (st) w)) := rfl
theorem e_ret : jev s M Q ((.return_, l, a, b) :: is) lv ([]) w = (jM_rt M = none ∧ Q (.inl none) w) := by simp only [jev, true_and]
theorem e_iret {y : Int32} : jev s M Q ((.ireturn, l, a, b) :: is) lv ([.int y]) w = ((jM_rt M = some .int ∨ (jM_rt M = some .boolean ∧ (y = 0 ∨ y = 1))) ∧ Q (.inl (some (.int y))) w) := rfl
theorem e_lret {y : Int64} : jev s M Q ((.lreturn, l, a, b) :: is) lv ([.long y]) w = (jM_rt M = some .long ∧ Q (.inl (some (.long y))) w) := rfl
theorem e_fret {y : UInt32} : jev s M Q ((.freturn, l, a, b) :: is) lv ([.float y]) w = (jM_rt M = some .float ∧ Q (.inl (some (.float y))) w) := rfl
theorem e_dret {y : UInt64} : jev s M Q ((.dreturn, l, a, b) :: is) lv ([.double y]) w = (jM_rt M = some .double ∧ Q (.inl (some (.double y))) w) := rfl
theorem e_inv {n : Nat} : jev s M Q ((.invokevirtual n, l, a, b) :: is) lv (st) w = jci M a b true false st w (fun v w1 => jev s M Q is lv (v.toList ++ st.drop b) w1) := rfl
theorem e_invS {n : Nat} (h7 : ¬ b = 777) (h5 : ¬ b = 775) (h6 : ¬ b = 776) : jev s M Q ((.invokestatic n, l, a, b) :: is) lv (st) w = jci M a b false false st w (fun v w1 => jev s M Q is lv (v.toList ++ st.drop b) w1) := by simp only [jev, h7, h5, h6, if_false]
theorem e_invI {n : Nat} (h8 : ¬ b = 778) : jev s M Q ((.invokespecial n, l, a, b) :: is) lv (st) w = jci M a b false true st w (fun v w1 => jev s M Q is lv (v.toList ++ st.drop b) w1) := by simp only [jev, h8, if_false]
theorem e_obj {n q : Nat} : jev s M Q ((.invokespecial n, l, a, 778) :: is) lv (.ref q :: st) w = ((1 ≤ jM_fr M ∧ jcat st + 12 ≤ jM_lo M) ∧ jev s M Q is lv st w) := by simp only [jev, if_true]
theorem e_min {n : Nat} {z y : Int32} : jev s M Q ((.invokestatic n, l, a, 775) :: is) lv (.int z :: .int y :: st) w = ((1 ≤ jM_fr M ∧ jcat st + 13 ≤ jM_lo M) ∧ jev s M Q is lv (.int (if z < y then z else y) :: st) w) := by simp only [jev]; simp
theorem e_minl {n : Nat} {z y : Int64} : jev s M Q ((.invokestatic n, l, a, 776) :: is) lv (.long z :: .long y :: st) w = ((1 ≤ jM_fr M ∧ jcat st + 15 ≤ jM_lo M) ∧ jev s M Q is lv (.long (if z < y then z else y) :: st) w) := by simp only [jev]; simp
theorem e_new {n : Nat} (h : ¬ b = 779) : jev s M Q ((.new n, l, a, b) :: is) lv st w = jev s M Q is lv (.ref w.length :: st) (w ++ [.inr (a, jdf a)]) := by simp only [jev, h, if_false]
theorem e_throw {n : Nat} : jev s M Q ((.new n, l, a, 779) :: is) lv st w = ((jcat st + 82 ≤ jM_lo M ∧ 5 < jM_fr M) ∧ Q (.inr a) w) := by simp only [jev, if_true]
end JR
theorem jlk_nil (i : Nat) : jlk [] i = none := rfl
theorem jlk_cons (k i : Nat) (v : Value) (t : jL) : jlk ((k, v) :: t) i = if k = i then some v else jlk t i := by
  simp only [jlk, Bool.cond_eq_ite, Nat.beq_eq]
theorem jup_nil (i : Nat) (v : Value) : jup [] i v = [(i, v)] := rfl
theorem jup_cons (k i : Nat) (u v : Value) (t : jL) : jup ((k, u) :: t) i v = if k = i then (i, v) :: jov t i else if k + 1 = i then (if u.category = 2 then jup t i v else (k, u) :: jup t i v) else (k, u) :: jup t i v := by
  simp only [jup, Bool.cond_eq_ite, beq_iff_eq]
theorem jov_nil (i : Nat) : jov [] i = [] := rfl
theorem jov_cons (k i : Nat) (u : Value) (t : jL) : jov ((k, u) :: t) i = if k + 1 = i then (if u.category = 2 then jov t i else (k, u) :: jov t i) else (k, u) :: jov t i := by
  simp only [jov, Bool.cond_eq_ite, beq_iff_eq]
theorem jup2_nil (i : Nat) (v : Value) : jup2 [] i v = [(i, v)] := rfl
theorem jup2_cons (k i : Nat) (u v : Value) (t : jL) : jup2 ((k, u) :: t) i v = if k = i then (i, v) :: jov2 t i else if k = i + 1 then jup2 t i v else if k + 1 = i then (if u.category = 2 then jup2 t i v else (k, u) :: jup2 t i v) else (k, u) :: jup2 t i v := by
  simp only [jup2, Bool.cond_eq_ite, beq_iff_eq]
theorem jov2_nil (i : Nat) : jov2 [] i = [] := rfl
theorem jov2_cons (k i : Nat) (u : Value) (t : jL) : jov2 ((k, u) :: t) i = if k = i + 1 then jov2 t i else if k + 1 = i then (if u.category = 2 then jov2 t i else (k, u) :: jov2 t i) else (k, u) :: jov2 t i := by
  simp only [jov2, Bool.cond_eq_ite, beq_iff_eq]
theorem jcat_int (x : Int32) : (Value.int x).category = 1 := rfl
theorem jcat_long (x : Int64) : (Value.long x).category = 2 := rfl
theorem jcat_ref (x : Nat) : (Value.ref x).category = 1 := rfl
theorem jcat_dbl (x : UInt64) : (Value.double x).category = 2 := rfl
theorem jcat_scr (x : Nat) : (Value.retAddr x).category = 1 := rfl
theorem jcat_null : (Value.null).category = 1 := rfl
theorem zI_toInt {n : Int} (h0 : -2147483648 ≤ n) (h1 : n < 2147483648) : (zI n).toInt = n := Int32.toInt_ofInt_of_le (by omega) (by omega)
theorem zI_nat {n : Int} (h0 : 0 ≤ n) (h1 : n < 2147483648) : (zI n).toNatClampNeg = n.toNat := by
  show (zI n).toInt.toNat = n.toNat
  rw [zI_toInt (by omega) h1]
theorem zI_add (a b : Int) : zI a + zI b = zI (a + b) := (Int32.ofInt_add a b).symm
theorem zI_sub (a b : Int) : zI a - zI b = zI (a - b) := (Int32.ofInt_sub a b).symm
theorem zI_mul (a b : Int) : zI a * zI b = zI (a * b) := (Int32.ofInt_mul a b).symm
theorem zI_lt {a b : Int} (h0 : -2147483648 ≤ a) (h1 : a < 2147483648) (h2 : -2147483648 ≤ b) (h3 : b < 2147483648) : (zI a < zI b) = (a < b) := by
  rw [Int32.lt_iff_toInt_lt, zI_toInt h0 h1, zI_toInt h2 h3]
theorem zI_le {a b : Int} (h0 : -2147483648 ≤ a) (h1 : a < 2147483648) (h2 : -2147483648 ≤ b) (h3 : b < 2147483648) : (zI a ≤ zI b) = (a ≤ b) := by
  rw [Int32.le_iff_toInt_le, zI_toInt h0 h1, zI_toInt h2 h3]
theorem zI_eq {a b : Int} (h0 : -2147483648 ≤ a) (h1 : a < 2147483648) (h2 : -2147483648 ≤ b) (h3 : b < 2147483648) : (zI a = zI b) = (a = b) := by
  refine propext ⟨fun h => ?_, fun h => by rw [h]⟩
  have := congrArg Int32.toInt h
  rwa [zI_toInt h0 h1, zI_toInt h2 h3] at this
theorem zI_0 : (0 : Int32) = zI 0 := by decide
theorem zI_1 : (1 : Int32) = zI 1 := by decide
theorem jia_z {t n : Nat} {f : Nat → Int32} {i : Int} {k : Int32 → Prop} (h0 : 0 ≤ i) (h1 : i < n) (hn : n < 2147483648) : jia (some (.inl (t, n, .inl f))) t (zI i) k = k (f i.toNat) := by
  have e : jin (zI i) n = true := decide_eq_true (by rw [zI_toInt (by omega) (by omega)]; omega)
  simp only [jia, Nat.beq_refl, e, Bool.and_self, cond_true, zI_nat h0 (by omega : i < 2147483648)]
theorem jis_z {t n : Nat} {f : Nat → Int32} {i : Int} {x : Int32} {k : jC → Prop} (h0 : 0 ≤ i) (h1 : i < n) (hn : n < 2147483648) : jis (some (.inl (t, n, .inl f))) t (zI i) x k = k (.inl (t, n, .inl (upd f i.toNat x))) := by
  have e : jin (zI i) n = true := decide_eq_true (by rw [zI_toInt (by omega) (by omega)]; omega)
  simp only [jis, Nat.beq_refl, e, Bool.and_self, cond_true, zI_nat h0 (by omega : i < 2147483648)]
theorem jla_z {n : Nat} {f : Nat → Int64} {i : Int} {k : Int64 → Prop} (h0 : 0 ≤ i) (h1 : i < n) (hn : n < 2147483648) : jla (some (.inl (2, n, .inr (.inl f)))) (zI i) k = k (f i.toNat) := by
  have e : jin (zI i) n = true := decide_eq_true (by rw [zI_toInt (by omega) (by omega)]; omega)
  simp only [jla, e, cond_true, zI_nat h0 (by omega : i < 2147483648)]
theorem jls_z {n : Nat} {f : Nat → Int64} {i : Int} {x : Int64} {k : jC → Prop} (h0 : 0 ≤ i) (h1 : i < n) (hn : n < 2147483648) : jls (some (.inl (2, n, .inr (.inl f)))) (zI i) x k = k (.inl (2, n, .inr (.inl (vp_updL f i.toNat x)))) := by
  have e : jin (zI i) n = true := decide_eq_true (by rw [zI_toInt (by omega) (by omega)]; omega)
  simp only [jls, e, cond_true, zI_nat h0 (by omega : i < 2147483648)]
theorem jaa_z {t n : Nat} {f : Nat → Option Nat} {i : Int} {k : Value → Prop} (h0 : 0 ≤ i) (h1 : i < n) (hn : n < 2147483648) (h2 : 2 < t) (h3 : t < 7) : jaa (some (.inl (t, n, .inr (.inr f)))) (zI i) k = k (va_rf (f i.toNat)) := by
  have e : jin (zI i) n = true := decide_eq_true (by rw [zI_toInt (by omega) (by omega)]; omega)
  simp only [jaa, e, cond_true, zI_nat h0 (by omega : i < 2147483648), Nat.blt_eq.mpr h2, Nat.blt_eq.mpr h3, Bool.and_self]
/-- the cells after a store -/
theorem jset_eq {w : jW} {q : Nat} {c c0 : jC} (h : w[q]? = some c0) : (w.set q c)[q]? = some c := List.getElem?_set_self (List.getElem?_eq_some_iff.mp h).1
theorem jset_ne {w : jW} {q r : Nat} {c : jC} (h : ¬ q = r) : (w.set q c)[r]? = w[r]? := List.getElem?_set_ne h
