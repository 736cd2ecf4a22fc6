/-! the pure machine: the methods' code run over a list of cells; references are numbers of cells -/
abbrev jI : Type := Instr × Nat × Nat × Nat
abbrev jL : Type := List (Nat × Value)
abbrev jC : Type := (Nat × Nat × ((Nat → Int32) ⊕ (Nat → Int64) ⊕ (Nat → Option Nat))) ⊕ (Nat × List Value)
abbrev jW : Type := List jC
/-- what came of it, the cells, and how often something was thrown -/
abbrev jRes : Type := (Option Value ⊕ Nat) × jW × Nat
/-- blocks, switches, (maxLocals, frames, words, class), handlers, name, bytes, answer, exception table -/
abbrev jM : Type := List (List jI) × List (List Nat) × (Nat × Nat × Nat × Nat) × List (Nat × Nat) × MethodName × ByteArray × Option FieldType × List (Nat × Nat × Nat × Nat)
def jM_bl (M : jM) : List (List jI) := M.1
def jM_sw (M : jM) : List (List Nat) := M.2.1
def jM_nl (M : jM) : Nat := M.2.2.1.1
def jM_fr (M : jM) : Nat := M.2.2.1.2.1
def jM_lo (M : jM) : Nat := M.2.2.1.2.2.1
def jM_ci (M : jM) : Nat := M.2.2.1.2.2.2
def jM_hs (M : jM) : List (Nat × Nat) := M.2.2.2.1
def jM_nm (M : jM) : MethodName := M.2.2.2.2.1
def jM_by (M : jM) : ByteArray := M.2.2.2.2.2.1
def jM_rt (M : jM) : Option FieldType := M.2.2.2.2.2.2.1
def jM_hh (M : jM) : List (Nat × Nat × Nat × Nat) := M.2.2.2.2.2.2.2
def jlk : jL → Nat → Option Value
  | [], _ => none
  | q :: t, i => bif Nat.beq q.1 i then some q.2 else jlk t i
def jst1 (lv : jL) (i : Nat) (v : Value) : jL := (i, v) :: lv.filter (fun q => !(q.1 == i) && !(q.1 + 1 == i && q.2.category == 2))
def jst2 (lv : jL) (i : Nat) (v : Value) : jL := (i, v) :: lv.filter (fun q => !(q.1 == i) && (!(q.1 == i + 1) && !(q.1 + 1 == i && q.2.category == 2)))
def jcat (st : List Value) : Nat := (st.map fun v => v.category).sum
def jcb (c : ClassFile.Cond) (x y : Int32) : Bool := match c with
  | .eq => decide (x = y)
  | .ne => !decide (x = y)
  | .lt => decide (x < y)
  | .ge => decide (y ≤ x)
  | .gt => decide (y < x)
  | .le => decide (x ≤ y)
def jfit (t : Nat) (v : Value) : Bool := match t, v with
  | 0, .int _ => true
  | 1, .int x => decide (x = 0 ∨ x = 1)
  | 2, .long _ => true
  | 3, .null => true
  | 3, .ref _ => true
  | _, _ => false
/-- an array's length and its slots -/
def jcs (c : jC) : Nat := match c with
  | .inl a => a.2.1
  | .inr o => o.2.length
def jsl (w : jW) : Nat := (w.map jcs).sum
def jin (i : Int32) (n : Nat) : Bool := decide (0 ≤ i.toInt ∧ i.toInt < (n : Int))
def jscr (scr : Option (Nat × (Nat → Int32))) (i : Int32) : Option Value := match scr with
  | some q => bif jin i q.1 then some (.int (q.2 i.toNatClampNeg)) else none
  | none => none
/-- the instructions that neither jump nor call -/
def jstep (scr : Option (Nat × (Nat → Int32))) (nl : Nat) (i : Instr) (a b : Nat) (lv : jL) (st : List Value) (w : jW) : Option (jL × List Value × jW) :=
  match i with
  | .aconst_null => some (lv, .null :: st, w)
  | .iconst n => some (lv, .int (Int32.ofInt n) :: st, w)
  | .bipush n => some (lv, .int (Int8.ofInt n).toInt32 :: st, w)
  | .sipush n => some (lv, .int (Int16.ofInt n).toInt32 :: st, w)
  | .lconst n => some (lv, .long (Int64.ofNat n) :: st, w)
  | .fconst n => if n = 0 then some (lv, .float FP.fconst0 :: st, w) else none
  | .ldc _ => some (lv, .int (Int32.ofNat a) :: st, w)
  | .ldc_w _ => some (lv, .int (Int32.ofNat a) :: st, w)
  | .ldc2_w _ => some (lv, .long (Int64.ofNat a) :: st, w)
  | .iload_n k => (match jlk lv k.val with | some (.int x) => some (lv, .int x :: st, w) | _ => none)
  | .iload k => (match jlk lv k with | some (.int x) => some (lv, .int x :: st, w) | _ => none)
  | .lload_n k => (match jlk lv k.val with | some (.long x) => some (lv, .long x :: st, w) | _ => none)
  | .lload k => (match jlk lv k with | some (.long x) => some (lv, .long x :: st, w) | _ => none)
  | .dload k => (match jlk lv k with | some (.double x) => some (lv, .double x :: st, w) | _ => none)
  | .aload_n k => (match jlk lv k.val with | some (.ref x) => some (lv, .ref x :: st, w) | some (.retAddr x) => some (lv, .retAddr x :: st, w) | _ => none)
  | .aload k => (match jlk lv k with | some (.ref x) => some (lv, .ref x :: st, w) | some (.retAddr x) => some (lv, .retAddr x :: st, w) | _ => none)
  | .istore_n k => (match st with | .int x :: r => bif Nat.blt k.val nl then some (jst1 lv k.val (.int x), r, w) else none | _ => none)
  | .istore k => (match st with | .int x :: r => bif Nat.blt k nl then some (jst1 lv k (.int x), r, w) else none | _ => none)
  | .lstore_n k => (match st with | .long x :: r => bif Nat.blt (k.val + 1) nl then some (jst2 lv k.val (.long x), r, w) else none | _ => none)
  | .lstore k => (match st with | .long x :: r => bif Nat.blt (k + 1) nl then some (jst2 lv k (.long x), r, w) else none | _ => none)
  | .dstore k => (match st with | .double x :: r => bif Nat.blt (k + 1) nl then some (jst2 lv k (.double x), r, w) else none | _ => none)
  | .astore_n k => (match st with | .ref x :: r => bif Nat.blt k.val nl then some (jst1 lv k.val (.ref x), r, w) else none | _ => none)
  | .astore k => (match st with | .ref x :: r => bif Nat.blt k nl then some (jst1 lv k (.ref x), r, w) else none | _ => none)
  | .iinc k n => (match jlk lv k with | some (.int x) => bif Nat.blt k nl then some (jst1 lv k (.int (x + Int32.ofInt n)), st, w) else none | _ => none)
  | .iadd => (match st with | .int y :: .int x :: r => some (lv, .int (x + y) :: r, w) | _ => none)
  | .isub => (match st with | .int y :: .int x :: r => some (lv, .int (x - y) :: r, w) | _ => none)
  | .imul => (match st with | .int y :: .int x :: r => some (lv, .int (x * y) :: r, w) | _ => none)
  | .iand => (match st with | .int y :: .int x :: r => some (lv, .int (x &&& y) :: r, w) | _ => none)
  | .ior => (match st with | .int y :: .int x :: r => some (lv, .int (x ||| y) :: r, w) | _ => none)
  | .ixor => (match st with | .int y :: .int x :: r => some (lv, .int (x ^^^ y) :: r, w) | _ => none)
  | .ishl => (match st with | .int y :: .int x :: r => some (lv, .int (x <<< (y &&& 31)) :: r, w) | _ => none)
  | .ishr => (match st with | .int y :: .int x :: r => some (lv, .int (x >>> (y &&& 31)) :: r, w) | _ => none)
  | .iushr => (match st with | .int y :: .int x :: r => some (lv, .int ((x.toUInt32 >>> (y.toUInt32 &&& Int32.toUInt32 31)).toInt32) :: r, w) | _ => none)
  | .idiv => (match st with | .int y :: .int x :: r => bif decide (y = 0) then none else some (lv, .int (x / y) :: r, w) | _ => none)
  | .irem => (match st with | .int y :: .int x :: r => bif decide (y = 0) then none else some (lv, .int (x - x / y * y) :: r, w) | _ => none)
  | .ineg => (match st with | .int x :: r => some (lv, .int (-x) :: r, w) | _ => none)
  | .ladd => (match st with | .long y :: .long x :: r => some (lv, .long (x + y) :: r, w) | _ => none)
  | .lsub => (match st with | .long y :: .long x :: r => some (lv, .long (x - y) :: r, w) | _ => none)
  | .lmul => (match st with | .long y :: .long x :: r => some (lv, .long (x * y) :: r, w) | _ => none)
  | .land => (match st with | .long y :: .long x :: r => some (lv, .long (x &&& y) :: r, w) | _ => none)
  | .lor => (match st with | .long y :: .long x :: r => some (lv, .long (x ||| y) :: r, w) | _ => none)
  | .lxor => (match st with | .long y :: .long x :: r => some (lv, .long (x ^^^ y) :: r, w) | _ => none)
  | .ldiv => (match st with | .long y :: .long x :: r => bif decide (y = 0) then none else some (lv, .long (x / y) :: r, w) | _ => none)
  | .lrem => (match st with | .long y :: .long x :: r => bif decide (y = 0) then none else some (lv, .long (x - x / y * y) :: r, w) | _ => none)
  | .lshl => (match st with | .int y :: .long x :: r => some (lv, .long (x <<< (y.toInt64 &&& 63)) :: r, w) | _ => none)
  | .lushr => (match st with | .int y :: .long x :: r => some (lv, .long ((x.toUInt64 >>> (y.toInt64.toUInt64 &&& Int64.toUInt64 63)).toInt64) :: r, w) | _ => none)
  | .lcmp => (match st with | .long y :: .long x :: r => some (lv, .int (lg_cmp x y) :: r, w) | _ => none)
  | .i2l => (match st with | .int x :: r => some (lv, .long x.toInt64 :: r, w) | _ => none)
  | .l2i => (match st with | .long x :: r => some (lv, .int x.toInt32 :: r, w) | _ => none)
  | .i2f => (match st with | .int x :: r => some (lv, .float (FP.i2f x) :: r, w) | _ => none)
  | .i2d => (match st with | .int x :: r => some (lv, .double (FP.i2d x) :: r, w) | _ => none)
  | .f2d => (match st with | .float x :: r => bif decide ((FP.f2d x) &&& 0x7fffffffffffffff ≤ (0x7ff0000000000000 : UInt64)) then some (lv, .double (FP.f2d x) :: r, w) else none | _ => none)
  | .fdiv => (match st with | .float y :: .float x :: r => bif decide ((FP.fdiv x y) &&& 0x7fffffff ≤ (0x7f800000 : UInt32)) then some (lv, .float (FP.fdiv x y) :: r, w) else none | _ => none)
  | .ddiv => (match st with | .double y :: .double x :: r => bif decide ((FP.ddiv x y) &&& 0x7fffffffffffffff ≤ (0x7ff0000000000000 : UInt64)) then some (lv, .double (FP.ddiv x y) :: r, w) else none | _ => none)
  | .dcmp op => (match st with | .double y :: .double x :: r => some (lv, .int (Op.cmpValue (FP.dcmp x y) op) :: r, w) | _ => none)
  | .dup => (match st with | v :: r => bif Nat.beq v.category 1 then some (lv, v :: v :: r, w) else none | _ => none)
  | .pop => (match st with | v :: r => bif Nat.beq v.category 1 then some (lv, r, w) else none | _ => none)
  | .dup2 => (match st with | v :: u :: r => bif Nat.beq v.category 1 && Nat.beq u.category 1 then some (lv, v :: u :: v :: u :: r, w) else none | _ => none)
  | .getfield _ => (match st with
    | .ref q :: r => (match w[q]? with
      | some (.inr o) => bif Nat.beq o.1 a then (match o.2[b]? with | some v => some (lv, v :: r, w) | none => none) else none
      | _ => none)
    | _ => none)
  | .putfield _ => (match st with
    | v :: .ref q :: r => (match w[q]? with
      | some (.inr o) => bif Nat.beq o.1 (a / 4) && (jfit (a % 4) v && Nat.blt b o.2.length) then some (lv, r, w.set q (.inr (o.1, o.2.set b v))) else none
      | _ => none)
    | _ => none)
  | .iaload => (match st with
    | .int i :: .ref q :: r => (match w[q]? with
      | some (.inl (0, n, .inl f)) => bif jin i n then some (lv, .int (f i.toNatClampNeg) :: r, w) else none
      | _ => none)
    | .int i :: .retAddr _ :: r => (match jscr scr i with | some v => some (lv, v :: r, w) | none => none)
    | _ => none)
  | .baload => (match st with
    | .int i :: .ref q :: r => (match w[q]? with
      | some (.inl (1, n, .inl f)) => bif jin i n then some (lv, .int (f i.toNatClampNeg) :: r, w) else none
      | _ => none)
    | _ => none)
  | .laload => (match st with
    | .int i :: .ref q :: r => (match w[q]? with
      | some (.inl (2, n, .inr (.inl f))) => bif jin i n then some (lv, .long (f i.toNatClampNeg) :: r, w) else none
      | _ => none)
    | _ => none)
  | .aaload => (match st with
    | .int i :: .ref q :: r => (match w[q]? with
      | some (.inl (t, n, .inr (.inr f))) => bif jin i n && (Nat.blt 2 t && Nat.blt t 7) then some (lv, va_rf (f i.toNatClampNeg) :: r, w) else none
      | _ => none)
    | _ => none)
  | .iastore => (match st with
    | .int x :: .int i :: .ref q :: r => (match w[q]? with
      | some (.inl (0, n, .inl f)) => bif jin i n then some (lv, r, w.set q (.inl (0, n, .inl (upd f i.toNatClampNeg x)))) else none
      | _ => none)
    | _ => none)
  | .bastore => (match st with
    | .int x :: .int i :: .ref q :: r => (match w[q]? with
      | some (.inl (1, n, .inl f)) => bif jin i n then some (lv, r, w.set q (.inl (1, n, .inl (upd f i.toNatClampNeg (vp_nar .boolean x))))) else none
      | _ => none)
    | _ => none)
  | .lastore => (match st with
    | .long x :: .int i :: .ref q :: r => (match w[q]? with
      | some (.inl (2, n, .inr (.inl f))) => bif jin i n then some (lv, r, w.set q (.inl (2, n, .inr (.inl (vp_updL f i.toNatClampNeg x))))) else none
      | _ => none)
    | _ => none)
  | .aastore => (match st with
    | .ref v :: .int i :: .ref q :: r => (match w[q]?, w[v]? with
      | some (.inl (t, n, .inr (.inr f))), some (.inr o) => bif jin i n && (Nat.beq o.1 (jel t) && (Nat.blt 2 t && Nat.blt t 6)) then some (lv, r, w.set q (.inl (t, n, .inr (.inr (va_up f i.toNatClampNeg (some v)))))) else none
      | _, _ => none)
    | _ => none)
  | .arraylength => (match st with
    | .ref q :: r => (match w[q]? with
      | some (.inl c) => bif Nat.blt c.1 7 then some (lv, .int (Int32.ofNat c.2.1) :: r, w) else none
      | _ => none)
    | .retAddr _ :: r => (match scr with | some c => some (lv, .int (Int32.ofNat c.1) :: r, w) | none => none)
    | _ => none)
  | .new _ => some (lv, .ref w.length :: st, w ++ [.inr (a, jdf a)])
  | .newarray .int => (match st with
    | .int n :: r => bif decide (0 ≤ n.toInt) && Nat.blt n.toNatClampNeg 10000000 then some (lv, .ref w.length :: r, w ++ [.inl (0, n.toNatClampNeg, .inl fun _ => 0)]) else none
    | _ => none)
  | .newarray .boolean => (match st with
    | .int n :: r => bif decide (0 ≤ n.toInt) && Nat.blt n.toNatClampNeg 10000000 then some (lv, .ref w.length :: r, w ++ [.inl (1, n.toNatClampNeg, .inl fun _ => 0)]) else none
    | _ => none)
  | .newarray .long => (match st with
    | .int n :: r => bif decide (0 ≤ n.toInt) && Nat.blt n.toNatClampNeg 10000000 then some (lv, .ref w.length :: r, w ++ [.inl (2, n.toNatClampNeg, .inr (.inl fun _ => 0))]) else none
    | _ => none)
  | .anewarray _ => (match st with
    | .int n :: r => bif decide (0 ≤ n.toInt) && Nat.blt n.toNatClampNeg 10000000 then some (lv, .ref w.length :: r, w ++ [.inl (a, n.toNatClampNeg, .inr (.inr fun _ => none))]) else none
    | _ => none)
  | .multianewarray _ d => (match st with
    | .int k :: .int n :: r => bif (decide (0 ≤ n.toInt) && Nat.blt n.toNatClampNeg 10000000) && ((decide (0 ≤ k.toInt) && Nat.blt k.toNatClampNeg 10000000) && Nat.beq d 2) then
        some (lv, .ref w.length :: r, (w ++ [.inl (6, n.toNatClampNeg, .inr (.inr fun i => if i < n.toNatClampNeg then some (w.length + 1 + i) else none))]) ++ List.replicate n.toNatClampNeg (.inl (0, k.toNatClampNeg, .inl fun _ => 0))) else none
    | _ => none)
  | _ => none
def jlook (keys : List (Int × Int)) (bs : List Nat) (d : Nat) (x : Int) : Nat := match keys, bs with
  | q :: ks, t :: ts => bif decide (q.1 = x) then t else jlook ks ts d x
  | _, _ => d
def jret (rt : Option FieldType) (st : List Value) : Option (Option Value) := match rt, st with
  | none, [] => some none
  | some .int, [.int x] => some (some (.int x))
  | some .boolean, [.int x] => bif decide (x = 0 ∨ x = 1) then some (some (.int x)) else none
  | some .long, [.long x] => some (some (.long x))
  | some .float, [.float x] => some (some (.float x))
  | some .double, [.double x] => some (some (.double x))
  | _, _ => none
/-- System.arraycopy of ints -/
def jcopy (st : List Value) (w : jW) : Option (List Value × jW) := match st with
  | .int n :: .int dp :: .ref d :: .int sp :: .ref s :: r => (match w[s]?, w[d]? with
    | some (.inl (0, n0, .inl f)), some (.inl (0, n1, .inl g)) =>
      bif (decide (0 ≤ sp.toInt) && decide (0 ≤ dp.toInt)) && (decide (0 ≤ n.toInt) && (decide (sp.toNatClampNeg + n.toNatClampNeg ≤ n0) && decide (dp.toNatClampNeg + n.toNatClampNeg ≤ n1))) then
        some (r, w.set d (.inl (0, n1, .inl (va_cpy f g sp.toNatClampNeg dp.toNatClampNeg n.toNatClampNeg)))) else none
    | _, _ => none)
  | _ => none
def jfind : List (Nat × Nat) → Nat → Option Nat
  | [], _ => none
  | q :: t, e => bif Nat.beq q.1 e then some q.2 else jfind t e
/-- the receiver of a call is an object of the callee's class -/
def jrecv (ci : Nat) (as : List Value) (w : jW) : Bool := match as with
  | .ref q :: _ => (match w[q]? with | some (.inr o) => Nat.beq o.1 ci | _ => false)
  | _ => false
def jisref (as : List Value) : Bool := match as with
  | .ref _ :: _ => true
  | _ => false
abbrev jRun : Type := jM → List jI → jL → List Value → jW → Nat → Option jRes
def jgo (ih : jRun) (M : jM) (t : Nat) (lv : jL) (st : List Value) (w : jW) (x : Nat) : Option jRes := match (jM_bl M)[t]? with
  | some bl => ih M bl lv st w x
  | none => none
def jgoO (ih : jRun) (M : jM) (t : Option Nat) (lv : jL) (st : List Value) (w : jW) (x : Nat) : Option jRes := match t with
  | some t => jgo ih M t lv st w x
  | none => none
def jdrop (lv : jL) (k : Nat) : jL := lv.filter (fun q => !(q.1 == k) && !(q.1 + 1 == k && q.2.category == 2))
def jcatch (ih : jRun) (M : jM) (e : Nat) (lv : jL) (w : jW) (x : Nat) : Option jRes := match jfind (jM_hs M) e with
  | none => none
  | some t => match (jM_bl M)[t]? with
    | some ((.astore_n k, _, _, _) :: bl') => bif Nat.blt k.val (jM_nl M) then ih M bl' (jdrop lv k.val) [] w x else none
    | some ((.astore k, _, _, _) :: bl') => bif Nat.blt k (jM_nl M) then ih M bl' (jdrop lv k) [] w x else none
    | _ => none
def jback (ih : jRun) (M : jM) (is : List jI) (lv : jL) (rest : List Value) (o : Option jRes) : Option jRes := match o with
  | none => none
  | some (.inl v, w1, x1) => ih M is lv (v.toList ++ rest) w1 x1
  | some (.inr e, w1, x1) => jcatch ih M e lv w1 x1
def jmay (M N : jM) (b : Nat) (isV isI : Bool) (st : List Value) (w : jW) : Bool :=
  ((Nat.ble b st.length && Nat.ble (jcat (st.take b).reverse) (jM_nl N)) && (Nat.ble (jcat (st.drop b)) 8 && (Nat.ble (jM_fr N + 1) (jM_fr M) && Nat.ble (8 + (jM_nl N + 11) + jM_lo N) (jM_lo M)))) && ((!isV || jrecv (jM_ci N) (st.take b).reverse w) && (!isI || jisref (st.take b).reverse))
def jinv (mt : List jM) (ih0 ih : jRun) (M : jM) (is : List jI) (a b : Nat) (isV isI : Bool) (lv : jL) (st : List Value) (w : jW) (x : Nat) : Option jRes := match mt[a]? with
  | none => none
  | some N => bif jmay M N b isV isI st w then jback ih M is lv (st.drop b) (jgo ih0 N 0 (lv_args 0 (st.take b).reverse) [] w x) else none
def jnat (ih : jRun) (M : jM) (is : List jI) (lv : jL) (st : List Value) (w : jW) (x : Nat) : Option jRes :=
  bif Nat.ble 1 (jM_fr M) && Nat.ble (jcat (st.drop 5) + (nativeFrameWords "java/lang/System" "arraycopy" 5 + 11)) (jM_lo M) then (match jcopy st w with | some (r, w') => ih M is lv r w' x | none => none) else none
def jobj (ih : jRun) (M : jM) (is : List jI) (lv : jL) (st : List Value) (w : jW) (x : Nat) : Option jRes := match st with
  | .ref _ :: r => bif Nat.ble 1 (jM_fr M) && Nat.ble (jcat r + 12) (jM_lo M) then ih M is lv r w x else none
  | _ => none
/-- Math.min of ints and of longs -/
def jmn (ih : jRun) (M : jM) (is : List jI) (lv : jL) (st : List Value) (w : jW) (x : Nat) : Option jRes := match st with
  | .int z :: .int y :: r => bif Nat.ble 1 (jM_fr M) && Nat.ble (jcat r + 13) (jM_lo M) then ih M is lv (.int (if z < y then z else y) :: r) w x else none
  | _ => none
def jmnl (ih : jRun) (M : jM) (is : List jI) (lv : jL) (st : List Value) (w : jW) (x : Nat) : Option jRes := match st with
  | .long z :: .long y :: r => bif Nat.ble 1 (jM_fr M) && Nat.ble (jcat r + 15) (jM_lo M) then ih M is lv (.long (if z < y then z else y) :: r) w x else none
  | _ => none
def jplain (scr : Option (Nat × (Nat → Int32))) (ih : jRun) (M : jM) (is : List jI) (i : Instr) (a b : Nat) (lv : jL) (st : List Value) (w : jW) (x : Nat) : Option jRes := match jstep scr (jM_nl M) i a b lv st w with
  | some (lv', st', w') => ih M is lv' st' w' x
  | none => none
def jretn (M : jM) (st : List Value) (w : jW) (x : Nat) : Option jRes := match jret (jM_rt M) st with
  | some v => some (.inl v, w, x)
  | none => none
/-- one instruction; ih goes on, ih0 runs a callee -/
def jbody (mt : List jM) (scr : Option (Nat × (Nat → Int32))) (ih0 ih : jRun) (M : jM) (is : List jI) (lv : jL) (st : List Value) (w : jW) (x : Nat) : Option jRes :=
  match is with
  | [] => none
  | (i, _, a, b) :: is' =>
    match i with
    | .return_ => (match jM_rt M with | none => jretn M st w x | _ => none)
    | .ireturn => (match jM_rt M with | some .int => jretn M st w x | some .boolean => jretn M st w x | _ => none)
    | .lreturn => (match jM_rt M with | some .long => jretn M st w x | _ => none)
    | .freturn => (match jM_rt M with | some .float => jretn M st w x | _ => none)
    | .dreturn => (match jM_rt M with | some .double => jretn M st w x | _ => none)
    | .nop => jgo ih M a lv st w x
    | .goto _ => jgo ih M a lv st w x
    | .ifCond c _ => (match st with | .int y :: r => bif jcb c y 0 then jgo ih M a lv r w x else ih M is' lv r w x | _ => none)
    | .if_icmp c _ => (match st with | .int z :: .int y :: r => bif jcb c y z then jgo ih M a lv r w x else ih M is' lv r w x | _ => none)
    | .tableswitch _ lo hi _ => (match st with
      | .int y :: r => (match (jM_sw M)[a]? with
        | some ts => bif decide (y.toInt < lo ∨ hi < y.toInt) then jgoO ih M ts[0]? lv r w x else jgoO ih M ts[1 + (y.toInt - lo).toNat]? lv r w x
        | none => none)
      | _ => none)
    | .lookupswitch _ ps => (match st with
      | .int y :: r => (match (jM_sw M)[a]? with
        | some (d :: ts) => jgo ih M (jlook ps.toList ts d y.toInt) lv r w x
        | _ => none)
      | _ => none)
    | .invokevirtual _ => jinv mt ih0 ih M is' a b true false lv st w x
    | .invokespecial _ => bif Nat.beq b 778 then jobj ih M is' lv st w x else jinv mt ih0 ih M is' a b false true lv st w x
    | .invokestatic _ => bif Nat.beq b 777 then jnat ih M is' lv st w x else bif Nat.beq b 775 then jmn ih M is' lv st w x else bif Nat.beq b 776 then jmnl ih M is' lv st w x else jinv mt ih0 ih M is' a b false false lv st w x
    | .new _ => bif Nat.beq b 779 then (bif Nat.ble (jcat st + 82) (jM_lo M) && Nat.blt 5 (jM_fr M) then some (.inr a, w, x + 1) else none) else jplain scr ih M is' i a b lv st w x
    | _ => jplain scr ih M is' i a b lv st w x
def jrun (mt : List jM) : Nat → Option (Nat × (Nat → Int32)) → jRun
  | 0 => fun _ _ _ _ _ _ _ => none
  | n + 1 => fun scr => jbody mt scr (jrun mt n none) (jrun mt n scr)
