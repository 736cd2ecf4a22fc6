/-! the rules, with the count -/
section JRX
variable {s : Option (Nat × (Nat → Int32))} {M : jM} {Q : (Option Value ⊕ Nat) → jW → Nat → Prop} {is : List jI} {lv : jL} {st : List Value} {w : jW} {l a b d : Nat}
theorem ex_iconst {n : Int} : jevx s M Q ((.iconst n, l, a, b) :: is) lv (st) w d = jevx s M Q is lv (.int (zI n) :: st) w d := rfl
theorem ex_bipush {n : Int} : jevx s M Q ((.bipush n, l, a, b) :: is) lv (st) w d = jevx s M Q is lv (.int (Int8.ofInt n).toInt32 :: st) w d := rfl
theorem ex_sipush {n : Int} : jevx s M Q ((.sipush n, l, a, b) :: is) lv (st) w d = jevx s M Q is lv (.int (Int16.ofInt n).toInt32 :: st) w d := rfl
theorem ex_lconst {n : Fin 2} : jevx s M Q ((.lconst n, l, a, b) :: is) lv (st) w d = jevx s M Q is lv (.long (Int64.ofNat n) :: st) w d := rfl
theorem ex_ldc2 {n : Nat} : jevx s M Q ((.ldc2_w n, l, a, b) :: is) lv (st) w d = jevx s M Q is lv (.long (Int64.ofNat a) :: st) w d := rfl
theorem ex_iload_n {k : Fin 4} : jevx s M Q ((.iload_n k, l, a, b) :: is) lv (st) w d = jki (jlk lv k.val) (fun y => jevx s M Q is lv (.int y :: st) w d) := by
  simp only [jevx, jki]
  cases jlk lv k.val with | none => rfl | some v => cases v <;> rfl
theorem ex_iload {k : Nat} : jevx s M Q ((.iload k, l, a, b) :: is) lv (st) w d = jki (jlk lv k) (fun y => jevx s M Q is lv (.int y :: st) w d) := by
  simp only [jevx, jki]
  cases jlk lv k with | none => rfl | some v => cases v <;> rfl
theorem ex_lload_n {k : Fin 4} : jevx s M Q ((.lload_n k, l, a, b) :: is) lv (st) w d = jkl (jlk lv k.val) (fun y => jevx s M Q is lv (.long y :: st) w d) := by
  simp only [jevx, jkl]
  cases jlk lv k.val with | none => rfl | some v => cases v <;> rfl
theorem ex_lload {k : Nat} : jevx s M Q ((.lload k, l, a, b) :: is) lv (st) w d = jkl (jlk lv k) (fun y => jevx s M Q is lv (.long y :: st) w d) := by
  simp only [jevx, jkl]
  cases jlk lv k with | none => rfl | some v => cases v <;> rfl
theorem ex_dload {k : Nat} : jevx s M Q ((.dload k, l, a, b) :: is) lv (st) w d = jkd (jlk lv k) (fun y => jevx s M Q is lv (.double y :: st) w d) := by
  simp only [jevx, jkd]
  cases jlk lv k with | none => rfl | some v => cases v <;> rfl
theorem ex_aload_n {k : Fin 4} : jevx s M Q ((.aload_n k, l, a, b) :: is) lv (st) w d = jka (jlk lv k.val) (fun y => jevx s M Q is lv (y :: st) w d) := by
  simp only [jevx, jka]
  cases jlk lv k.val with | none => rfl | some v => cases v <;> rfl
theorem ex_aload {k : Nat} : jevx s M Q ((.aload k, l, a, b) :: is) lv (st) w d = jka (jlk lv k) (fun y => jevx s M Q is lv (y :: st) w d) := by
  simp only [jevx, jka]
  cases jlk lv k with | none => rfl | some v => cases v <;> rfl
theorem ex_istore_n {k : Fin 4} {x : Int32} : jevx s M Q ((.istore_n k, l, a, b) :: is) lv (.int x :: st) w d = (k.val < jM_nl M ∧ jevx s M Q is (jup lv k.val (.int x)) (st) w d) := rfl
theorem ex_istore {k : Nat} {x : Int32} : jevx s M Q ((.istore k, l, a, b) :: is) lv (.int x :: st) w d = (k < jM_nl M ∧ jevx s M Q is (jup lv k (.int x)) (st) w d) := rfl
theorem ex_lstore_n {k : Fin 4} {x : Int64} : jevx s M Q ((.lstore_n k, l, a, b) :: is) lv (.long x :: st) w d = (k.val + 1 < jM_nl M ∧ jevx s M Q is (jup2 lv k.val (.long x)) (st) w d) := rfl
theorem ex_lstore {k : Nat} {x : Int64} : jevx s M Q ((.lstore k, l, a, b) :: is) lv (.long x :: st) w d = (k + 1 < jM_nl M ∧ jevx s M Q is (jup2 lv k (.long x)) (st) w d) := rfl
theorem ex_dstore {k : Nat} {x : UInt64} : jevx s M Q ((.dstore k, l, a, b) :: is) lv (.double x :: st) w d = (k + 1 < jM_nl M ∧ jevx s M Q is (jup2 lv k (.double x)) (st) w d) := rfl
theorem ex_astore_n {k : Fin 4} {x : Nat} : jevx s M Q ((.astore_n k, l, a, b) :: is) lv (.ref x :: st) w d = (k.val < jM_nl M ∧ jevx s M Q is (jup lv k.val (.ref x)) (st) w d) := rfl
theorem ex_astore {k : Nat} {x : Nat} : jevx s M Q ((.astore k, l, a, b) :: is) lv (.ref x :: st) w d = (k < jM_nl M ∧ jevx s M Q is (jup lv k (.ref x)) (st) w d) := rfl
theorem ex_iinc {k : Nat} {n : Int} : jevx s M Q ((.iinc k n, l, a, b) :: is) lv (st) w d = jki (jlk lv k) (fun y => k < jM_nl M ∧ jevx s M Q is (jup lv k (.int (y + zI n))) (st) w d) := by
  simp only [jevx, jki]
  cases jlk lv k with | none => rfl | some v => cases v <;> rfl
theorem ex_iadd {x y : Int32} : jevx s M Q ((.iadd, l, a, b) :: is) lv (.int y :: .int x :: st) w d = jevx s M Q is lv (.int (x + y) :: st) w d := rfl
theorem ex_isub {x y : Int32} : jevx s M Q ((.isub, l, a, b) :: is) lv (.int y :: .int x :: st) w d = jevx s M Q is lv (.int (x - y) :: st) w d := rfl
theorem ex_iand {x y : Int32} : jevx s M Q ((.iand, l, a, b) :: is) lv (.int y :: .int x :: st) w d = jevx s M Q is lv (.int (x &&& y) :: st) w d := rfl
theorem ex_land {x y : Int64} : jevx s M Q ((.land, l, a, b) :: is) lv (.long y :: .long x :: st) w d = jevx s M Q is lv (.long (x &&& y) :: st) w d := rfl
theorem ex_lor {x y : Int64} : jevx s M Q ((.lor, l, a, b) :: is) lv (.long y :: .long x :: st) w d = jevx s M Q is lv (.long (x ||| y) :: st) w d := rfl
theorem ex_lshl {y : Int32} {x : Int64} : jevx s M Q ((.lshl, l, a, b) :: is) lv (.int y :: .long x :: st) w d = jevx s M Q is lv (.long (x <<< (y.toInt64 &&& 63)) :: st) w d := rfl
theorem ex_lcmp {x y : Int64} : jevx s M Q ((.lcmp, l, a, b) :: is) lv (.long y :: .long x :: st) w d = jevx s M Q is lv (.int (lg_cmp x y) :: st) w d := rfl
theorem ex_i2l {x : Int32} : jevx s M Q ((.i2l, l, a, b) :: is) lv (.int x :: st) w d = jevx s M Q is lv (.long x.toInt64 :: st) w d := rfl
theorem ex_dup_ref {x : Nat} : jevx s M Q ((.dup, l, a, b) :: is) lv (.ref x :: st) w d = jevx s M Q is lv (.ref x :: .ref x :: st) w d := rfl
theorem ex_laload {q : Nat} {i : Int32} : jevx s M Q ((.laload, l, a, b) :: is) lv (.int i :: .ref q :: st) w d = jla w[q]? i (fun v => jevx s M Q is lv (.long v :: st) w d) := by
  simp only [jevx, jstep, jla]
  cases w[q]? with
  | none => rfl
  | some c =>
    rcases c with ⟨t, n, f | f | f⟩ | o
    · (rcases t with _ | _ | _ | t <;> first | rfl | (simp only [Nat.beq_refl, Bool.true_and]; cases jin i n <;> rfl) | (simp [Nat.beq]))
    · (rcases t with _ | _ | _ | t <;> first | rfl | (simp only [Nat.beq_refl, Bool.true_and]; cases jin i n <;> rfl) | (simp [Nat.beq]))
    · (rcases t with _ | _ | _ | t <;> first | rfl | (simp only [Nat.beq_refl, Bool.true_and]; cases jin i n <;> rfl) | (simp [Nat.beq]))
    · rfl
theorem ex_lastore {q : Nat} {i : Int32} {x : Int64} : jevx s M Q ((.lastore, l, a, b) :: is) lv (.long x :: .int i :: .ref q :: st) w d = jls w[q]? i x (fun c => jevx s M Q is lv (st) (w.set q c) d) := by
  simp only [jevx, jstep, jls]
  cases w[q]? with
  | none => rfl
  | some c =>
    rcases c with ⟨t, n, f | f | f⟩ | o
    · (rcases t with _ | _ | _ | t <;> first | rfl | (simp only [Nat.beq_refl, Bool.true_and]; cases jin i n <;> rfl) | (simp [Nat.beq]))
    · (rcases t with _ | _ | _ | t <;> first | rfl | (simp only [Nat.beq_refl, Bool.true_and]; cases jin i n <;> rfl) | (simp [Nat.beq]))
    · (rcases t with _ | _ | _ | t <;> first | rfl | (simp only [Nat.beq_refl, Bool.true_and]; cases jin i n <;> rfl) | (simp [Nat.beq]))
    · rfl
theorem ex_nop : jevx s M Q ((.nop, l, a, b) :: is) lv (st) w d = jatx s M Q a lv (st) w d := rfl
theorem ex_goto {n : Int} : jevx s M Q ((.goto n, l, a, b) :: is) lv (st) w d = jatx s M Q a lv (st) w d := rfl
theorem ex_if_eq {n : Int} {y : Int32} : jevx s M Q ((.ifCond .eq n, l, a, b) :: is) lv (.int y :: st) w d = ((y = 0 → jatx s M Q a lv st w d) ∧ (¬ (y = 0) → jevx s M Q is lv (st) w d)) := rfl
theorem ex_icmp_eq {n : Int} {y z : Int32} : jevx s M Q ((.if_icmp .eq n, l, a, b) :: is) lv (.int z :: .int y :: st) w d = ((y = z → jatx s M Q a lv st w d) ∧ (¬ (y = z) → jevx s M Q is lv (st) w d)) := rfl
theorem ex_if_ne {n : Int} {y : Int32} : jevx s M Q ((.ifCond .ne n, l, a, b) :: is) lv (.int y :: st) w d = ((¬ y = 0 → jatx s M Q a lv st w d) ∧ (¬ (¬ y = 0) → jevx s M Q is lv (st) w d)) := rfl
theorem ex_icmp_ne {n : Int} {y z : Int32} : jevx s M Q ((.if_icmp .ne n, l, a, b) :: is) lv (.int z :: .int y :: st) w d = ((¬ y = z → jatx s M Q a lv st w d) ∧ (¬ (¬ y = z) → jevx s M Q is lv (st) w d)) := rfl
theorem ex_icmp_gt {n : Int} {y z : Int32} : jevx s M Q ((.if_icmp .gt n, l, a, b) :: is) lv (.int z :: .int y :: st) w d = ((z < y → jatx s M Q a lv st w d) ∧ (¬ (z < y) → jevx s M Q is lv (st) w d)) := rfl
theorem ex_iret {y : Int32} : jevx s M Q ((.ireturn, l, a, b) :: is) lv ([.int y]) w d = ((jM_rt M = some .int ∨ (jM_rt M = some .boolean ∧ (y = 0 ∨ y = 1))) ∧ Q (.inl (some (.int y))) w d) := rfl
theorem ex_inv {n : Nat} : jevx s M Q ((.invokevirtual n, l, a, b) :: is) lv (st) w d = jcix M a b true false st w (fun v w1 d1 => jevx s M Q is lv (v.toList ++ st.drop b) w1 (d + d1)) (fun e w1 d1 => jhx s M Q e w1 (d + d1)) := rfl
theorem ex_invS {n : Nat} (h7 : ¬ b = 777) (h5 : ¬ b = 775) (h6 : ¬ b = 776) : jevx s M Q ((.invokestatic n, l, a, b) :: is) lv (st) w d = jcix M a b false false st w (fun v w1 d1 => jevx s M Q is lv (v.toList ++ st.drop b) w1 (d + d1)) (fun e w1 d1 => jhx s M Q e w1 (d + d1)) := by simp only [jevx, h7, h5, h6, if_false]
theorem ex_invI {n : Nat} (h8 : ¬ b = 778) : jevx s M Q ((.invokespecial n, l, a, b) :: is) lv (st) w d = jcix M a b false true st w (fun v w1 d1 => jevx s M Q is lv (v.toList ++ st.drop b) w1 (d + d1)) (fun e w1 d1 => jhx s M Q e w1 (d + d1)) := by simp only [jevx, h8, if_false]
theorem ex_new {n : Nat} (h : ¬ b = 779) : jevx s M Q ((.new n, l, a, b) :: is) lv st w d = jevx s M Q is lv (.ref w.length :: st) (w ++ [.inr (a, jdf a)]) d := by simp only [jevx, h, if_false]
theorem ex_arrS {q L : Nat} {xs : Nat → Int32} : jevx (some (L, xs)) M Q ((.arraylength, l, a, b) :: is) lv (.retAddr q :: st) w d = jevx (some (L, xs)) M Q is lv (.int (Int32.ofNat L) :: st) w d := rfl
theorem ex_iaS {q : Nat} {i : Int32} : jevx s M Q ((.iaload, l, a, b) :: is) lv (.int i :: .retAddr q :: st) w d = jop (jscr s i) (fun v => jevx s M Q is lv (v :: st) w d) := by
  simp only [jevx, jstep, jop]
  cases jscr s i <;> rfl
theorem ex_tsw {n : Nat} {lo hi : Int} {offs : Array Int} {y : Int32} {ts : List Nat} (t : Nat) (h1 : (jM_sw M)[a]? = some ts) (h2 : (if y.toInt < lo ∨ hi < y.toInt then ts[0]? else ts[1 + (y.toInt - lo).toNat]?) = some t) (h : jatx s M Q t lv st w d) : jevx s M Q ((.tableswitch n lo hi offs, l, a, b) :: is) lv (.int y :: st) w d := ⟨ts, h1, t, h2, h⟩
theorem ex_newL {n : Int32} : jevx s M Q ((.newarray .long, l, a, b) :: is) lv (.int n :: st) w d = (bif decide (0 ≤ n.toInt) && Nat.blt n.toNatClampNeg 10000000 then jevx s M Q is lv (.ref w.length :: st) (w ++ [.inl (2, n.toNatClampNeg, .inr (.inl fun _ => 0))]) d else False) := by
  simp only [jevx, jstep]
  cases decide (0 ≤ n.toInt) && Nat.blt n.toNatClampNeg 10000000 <;> rfl
theorem ex_dcmp {x y : UInt64} {op : CmpOp} : jevx s M Q ((.dcmp op, l, a, b) :: is) lv (.double y :: .double x :: st) w d = jevx s M Q is lv (.int (Op.cmpValue (FP.dcmp x y) op) :: st) w d := rfl
theorem ex_f2d {x : UInt32} : jevx s M Q ((.f2d, l, a, b) :: is) lv (.float x :: st) w d = (bif decide ((FP.f2d x) &&& 0x7fffffffffffffff ≤ (0x7ff0000000000000 : UInt64)) then jevx s M Q is lv (.double (FP.f2d x) :: st) w d else False) := by
  simp only [jevx, jstep]
  cases decide ((FP.f2d x) &&& 0x7fffffffffffffff ≤ (0x7ff0000000000000 : UInt64)) <;> rfl
end JRX
theorem jscr_z {L : Nat} {xs : Nat → Int32} {i : Int} (h0 : 0 ≤ i) (h1 : i < L) (hL : L ≤ 2048) : jscr (some (L, xs)) (zI i) = some (.int (xs i.toNat)) := by
  have e : jin (zI i) L = true := decide_eq_true (by rw [zI_toInt (by omega) (by omega)]; omega)
  simp only [jscr, e, cond_true, zI_nat h0 (by omega : i < 2147483648)]
theorem jcallx_v0 {M N : jM} {a q ci : Nat} {rest fs : List Value} {w : jW} {F : Option Value → jW → Nat → Prop} {G : Nat → jW → Nat → Prop} (hN : jT[a]? = some N) (hq : w[q]? = some (.inr (ci, fs))) (hci : jM_ci N = ci := by rfl) (hs : jst M N = true := by rfl) (hc : Nat.ble (jcat [.ref q]) (jM_nl N) = true := by rfl) (hr : Nat.ble (jcat rest) 8 = true := by rfl)
    (h : jmwx N [.ref q] w (fun r w1 d1 => (∃ v, r = .inl v ∧ F v w1 d1) ∨ ∃ e, r = .inr e ∧ G e w1 d1)) : jcix M a 1 true false (.ref q :: rest) w F G :=
  ⟨N, hN, jmay_of' hs (by simp) hc hr (fun _ => jrecv_of (by rw [hci]; exact hq)) (fun h => by cases h), h⟩
theorem jcallx_v1 {M N : jM} {a q ci : Nat} {x0 : Value} {rest fs : List Value} {w : jW} {F : Option Value → jW → Nat → Prop} {G : Nat → jW → Nat → Prop} (hN : jT[a]? = some N) (hq : w[q]? = some (.inr (ci, fs))) (hci : jM_ci N = ci := by rfl) (hs : jst M N = true := by rfl) (hc : Nat.ble (jcat [.ref q, x0]) (jM_nl N) = true := by rfl) (hr : Nat.ble (jcat rest) 8 = true := by rfl)
    (h : jmwx N [.ref q, x0] w (fun r w1 d1 => (∃ v, r = .inl v ∧ F v w1 d1) ∨ ∃ e, r = .inr e ∧ G e w1 d1)) : jcix M a 2 true false (x0 :: .ref q :: rest) w F G :=
  ⟨N, hN, jmay_of' hs (by simp) hc hr (fun _ => jrecv_of (by rw [hci]; exact hq)) (fun h => by cases h), h⟩
theorem jcallx_s1 {M N : jM} {a : Nat} {x0 : Value} {rest : List Value} {w : jW} {F : Option Value → jW → Nat → Prop} {G : Nat → jW → Nat → Prop} (hN : jT[a]? = some N) (hs : jst M N = true := by rfl) (hc : Nat.ble (jcat [x0]) (jM_nl N) = true := by rfl) (hr : Nat.ble (jcat rest) 8 = true := by rfl)
    (h : jmwx N [x0] w (fun r w1 d1 => (∃ v, r = .inl v ∧ F v w1 d1) ∨ ∃ e, r = .inr e ∧ G e w1 d1)) : jcix M a 1 false false (x0 :: rest) w F G :=
  ⟨N, hN, jmay_of' hs (by simp) hc hr (fun h => by cases h) (fun h => by cases h), h⟩
theorem jcallx_v2 {M N : jM} {a q ci : Nat} {x0 x1 : Value} {rest fs : List Value} {w : jW} {F : Option Value → jW → Nat → Prop} {G : Nat → jW → Nat → Prop} (hN : jT[a]? = some N) (hq : w[q]? = some (.inr (ci, fs))) (hci : jM_ci N = ci := by rfl) (hs : jst M N = true := by rfl) (hc : Nat.ble (jcat [.ref q, x0, x1]) (jM_nl N) = true := by rfl) (hr : Nat.ble (jcat rest) 8 = true := by rfl)
    (h : jmwx N [.ref q, x0, x1] w (fun r w1 d1 => (∃ v, r = .inl v ∧ F v w1 d1) ∨ ∃ e, r = .inr e ∧ G e w1 d1)) : jcix M a 3 true false (x1 :: x0 :: .ref q :: rest) w F G :=
  ⟨N, hN, jmay_of' hs (by simp) hc hr (fun _ => jrecv_of (by rw [hci]; exact hq)) (fun h => by cases h), h⟩
theorem jcallx_s2 {M N : jM} {a : Nat} {x0 x1 : Value} {rest : List Value} {w : jW} {F : Option Value → jW → Nat → Prop} {G : Nat → jW → Nat → Prop} (hN : jT[a]? = some N) (hs : jst M N = true := by rfl) (hc : Nat.ble (jcat [x0, x1]) (jM_nl N) = true := by rfl) (hr : Nat.ble (jcat rest) 8 = true := by rfl)
    (h : jmwx N [x0, x1] w (fun r w1 d1 => (∃ v, r = .inl v ∧ F v w1 d1) ∨ ∃ e, r = .inr e ∧ G e w1 d1)) : jcix M a 2 false false (x1 :: x0 :: rest) w F G :=
  ⟨N, hN, jmay_of' hs (by simp) hc hr (fun h => by cases h) (fun h => by cases h), h⟩
theorem jcallx_v3 {M N : jM} {a q ci : Nat} {x0 x1 x2 : Value} {rest fs : List Value} {w : jW} {F : Option Value → jW → Nat → Prop} {G : Nat → jW → Nat → Prop} (hN : jT[a]? = some N) (hq : w[q]? = some (.inr (ci, fs))) (hci : jM_ci N = ci := by rfl) (hs : jst M N = true := by rfl) (hc : Nat.ble (jcat [.ref q, x0, x1, x2]) (jM_nl N) = true := by rfl) (hr : Nat.ble (jcat rest) 8 = true := by rfl)
    (h : jmwx N [.ref q, x0, x1, x2] w (fun r w1 d1 => (∃ v, r = .inl v ∧ F v w1 d1) ∨ ∃ e, r = .inr e ∧ G e w1 d1)) : jcix M a 4 true false (x2 :: x1 :: x0 :: .ref q :: rest) w F G :=
  ⟨N, hN, jmay_of' hs (by simp) hc hr (fun _ => jrecv_of (by rw [hci]; exact hq)) (fun h => by cases h), h⟩
theorem jcallx_s3 {M N : jM} {a : Nat} {x0 x1 x2 : Value} {rest : List Value} {w : jW} {F : Option Value → jW → Nat → Prop} {G : Nat → jW → Nat → Prop} (hN : jT[a]? = some N) (hs : jst M N = true := by rfl) (hc : Nat.ble (jcat [x0, x1, x2]) (jM_nl N) = true := by rfl) (hr : Nat.ble (jcat rest) 8 = true := by rfl)
    (h : jmwx N [x0, x1, x2] w (fun r w1 d1 => (∃ v, r = .inl v ∧ F v w1 d1) ∨ ∃ e, r = .inr e ∧ G e w1 d1)) : jcix M a 3 false false (x2 :: x1 :: x0 :: rest) w F G :=
  ⟨N, hN, jmay_of' hs (by simp) hc hr (fun h => by cases h) (fun h => by cases h), h⟩
theorem jcallx_v4 {M N : jM} {a q ci : Nat} {x0 x1 x2 x3 : Value} {rest fs : List Value} {w : jW} {F : Option Value → jW → Nat → Prop} {G : Nat → jW → Nat → Prop} (hN : jT[a]? = some N) (hq : w[q]? = some (.inr (ci, fs))) (hci : jM_ci N = ci := by rfl) (hs : jst M N = true := by rfl) (hc : Nat.ble (jcat [.ref q, x0, x1, x2, x3]) (jM_nl N) = true := by rfl) (hr : Nat.ble (jcat rest) 8 = true := by rfl)
    (h : jmwx N [.ref q, x0, x1, x2, x3] w (fun r w1 d1 => (∃ v, r = .inl v ∧ F v w1 d1) ∨ ∃ e, r = .inr e ∧ G e w1 d1)) : jcix M a 5 true false (x3 :: x2 :: x1 :: x0 :: .ref q :: rest) w F G :=
  ⟨N, hN, jmay_of' hs (by simp) hc hr (fun _ => jrecv_of (by rw [hci]; exact hq)) (fun h => by cases h), h⟩
theorem jcallx_s4 {M N : jM} {a : Nat} {x0 x1 x2 x3 : Value} {rest : List Value} {w : jW} {F : Option Value → jW → Nat → Prop} {G : Nat → jW → Nat → Prop} (hN : jT[a]? = some N) (hs : jst M N = true := by rfl) (hc : Nat.ble (jcat [x0, x1, x2, x3]) (jM_nl N) = true := by rfl) (hr : Nat.ble (jcat rest) 8 = true := by rfl)
    (h : jmwx N [x0, x1, x2, x3] w (fun r w1 d1 => (∃ v, r = .inl v ∧ F v w1 d1) ∨ ∃ e, r = .inr e ∧ G e w1 d1)) : jcix M a 4 false false (x3 :: x2 :: x1 :: x0 :: rest) w F G :=
  ⟨N, hN, jmay_of' hs (by simp) hc hr (fun h => by cases h) (fun h => by cases h), h⟩
theorem jcallx_i0 {M N : jM} {a q : Nat} {rest : List Value} {w : jW} {F : Option Value → jW → Nat → Prop} {G : Nat → jW → Nat → Prop} (hN : jT[a]? = some N) (hs : jst M N = true := by rfl) (hc : Nat.ble (jcat [.ref q]) (jM_nl N) = true := by rfl) (hr : Nat.ble (jcat rest) 8 = true := by rfl)
    (h : jmwx N [.ref q] w (fun r w1 d1 => (∃ v, r = .inl v ∧ F v w1 d1) ∨ ∃ e, r = .inr e ∧ G e w1 d1)) : jcix M a 1 false true (.ref q :: rest) w F G :=
  ⟨N, hN, jmay_of' hs (by simp) hc hr (fun h => by cases h) (fun _ => rfl), h⟩
