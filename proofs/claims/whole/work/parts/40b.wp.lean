/-- how often a run that ends so has thrown -/
def jx (r : Option Value ⊕ Nat) : Nat := match r with
  | .inl _ => 0
  | .inr _ => 1
def jnd : jL → Bool
  | [] => true
  | q :: t => (t.all fun z => !(z.1 == q.1)) && jnd t
/-- lv is known of the locals lv0 -/
def jknow (lv0 lv : jL) : Prop := (jnd lv0 = true ∧ jnd lv = true) ∧ ∀ i v, jlk lv i = some v → jlk lv0 i = some v
def jwp (s : Option (Nat × (Nat → Int32))) (M : jM) (Q : (Option Value ⊕ Nat) → jW → Prop) (is : List jI) (lv : jL) (st : List Value) (w : jW) : Prop :=
  ∀ lv0, jknow lv0 lv → ∀ x, ∃ (n : Nat) (r : Option Value ⊕ Nat) (w' : jW), jrun jT n s M is lv0 st w x = some (r, w', x + jx r) ∧ Q r w'
def jat (s : Option (Nat × (Nat → Int32))) (M : jM) (Q : (Option Value ⊕ Nat) → jW → Prop) (t : Nat) (lv : jL) (st : List Value) (w : jW) : Prop := ∃ bl, (jM_bl M)[t]? = some bl ∧ jwp s M Q bl lv st w
/-- a call of N with these arguments -/
def jmw (N : jM) (as : List Value) (w : jW) (Q : (Option Value ⊕ Nat) → jW → Prop) : Prop := jat none N Q 0 (lv_args 0 as) [] w
def jov : jL → Nat → jL
  | [], _ => []
  | q :: t, i => bif q.1 + 1 == i then (bif q.2.category == 2 then jov t i else q :: jov t i) else q :: jov t i
/-- a store of one slot, in place -/
def jup : jL → Nat → Value → jL
  | [], i, v => [(i, v)]
  | q :: t, i, v => bif q.1 == i then (i, v) :: jov t i else bif q.1 + 1 == i then (bif q.2.category == 2 then jup t i v else q :: jup t i v) else q :: jup t i v
def jov2 : jL → Nat → jL
  | [], _ => []
  | q :: t, i => bif q.1 == i + 1 then jov2 t i else bif q.1 + 1 == i then (bif q.2.category == 2 then jov2 t i else q :: jov2 t i) else q :: jov2 t i
def jup2 : jL → Nat → Value → jL
  | [], i, v => [(i, v)]
  | q :: t, i, v => bif q.1 == i then (i, v) :: jov2 t i else bif q.1 == i + 1 then jup2 t i v else bif q.1 + 1 == i then (bif q.2.category == 2 then jup2 t i v else q :: jup2 t i v) else q :: jup2 t i v
def jcp (c : ClassFile.Cond) (x y : Int32) : Prop := match c with
  | .eq => x = y
  | .ne => ¬ x = y
  | .lt => x < y
  | .ge => y ≤ x
  | .gt => y < x
  | .le => x ≤ y
theorem jcp_b (c : ClassFile.Cond) (x y : Int32) : jcb c x y = true ↔ jcp c x y := by
  cases c <;> simp [jcb, jcp]
/-- a call: the callee answers, and it goes on -/
def jci (M : jM) (a b : Nat) (isV isI : Bool) (st : List Value) (w : jW) (k : Option Value → jW → Prop) : Prop :=
  ∃ N, jT[a]? = some N ∧ jmay M N b isV isI st w = true ∧ jmw N (st.take b).reverse w (fun r w1 => ∃ v, r = .inl v ∧ k v w1)
def jev (s : Option (Nat × (Nat → Int32))) (M : jM) (Q : (Option Value ⊕ Nat) → jW → Prop) : List jI → jL → List Value → jW → Prop
  | [], _, _, _ => False
  | (i, _, a, b) :: is, lv, st, w => match i with
    | .nop => jat s M Q a lv st w
    | .goto _ => jat s M Q a lv st w
    | .ifCond c _ => (match st with | .int y :: r => (jcp c y 0 → jat s M Q a lv r w) ∧ (¬ jcp c y 0 → jev s M Q is lv r w) | _ => False)
    | .if_icmp c _ => (match st with | .int z :: .int y :: r => (jcp c y z → jat s M Q a lv r w) ∧ (¬ jcp c y z → jev s M Q is lv r w) | _ => False)
    | .tableswitch _ lo hi _ => (match st with | .int y :: r => ∃ ts, (jM_sw M)[a]? = some ts ∧ ∃ t, (if y.toInt < lo ∨ hi < y.toInt then ts[0]? else ts[1 + (y.toInt - lo).toNat]?) = some t ∧ jat s M Q t lv r w | _ => False)
    | .lookupswitch _ ps => (match st with | .int y :: r => ∃ d ts, (jM_sw M)[a]? = some (d :: ts) ∧ jat s M Q (jlook ps.toList ts d y.toInt) lv r w | _ => False)
    | .return_ => jM_rt M = none ∧ st = [] ∧ Q (.inl none) w
    | .ireturn => (match st with | [.int y] => (jM_rt M = some .int ∨ (jM_rt M = some .boolean ∧ (y = 0 ∨ y = 1))) ∧ Q (.inl (some (.int y))) w | _ => False)
    | .lreturn => (match st with | [.long y] => jM_rt M = some .long ∧ Q (.inl (some (.long y))) w | _ => False)
    | .freturn => (match st with | [.float y] => jM_rt M = some .float ∧ Q (.inl (some (.float y))) w | _ => False)
    | .dreturn => (match st with | [.double y] => jM_rt M = some .double ∧ Q (.inl (some (.double y))) w | _ => False)
    | .invokevirtual _ => jci M a b true false st w (fun v w1 => jev s M Q is lv (v.toList ++ st.drop b) w1)
    | .invokespecial _ => if b = 778 then (match st with | .ref _ :: r => (1 ≤ jM_fr M ∧ jcat r + 12 ≤ jM_lo M) ∧ jev s M Q is lv r w | _ => False) else jci M a b false true st w (fun v w1 => jev s M Q is lv (v.toList ++ st.drop b) w1)
    | .invokestatic _ => if b = 777 then (1 ≤ jM_fr M ∧ jcat (st.drop 5) + (nativeFrameWords "java/lang/System" "arraycopy" 5 + 11) ≤ jM_lo M) ∧ (match jcopy st w with | some q => jev s M Q is lv q.1 q.2 | none => False)
        else if b = 775 then (match st with | .int z :: .int y :: r => (1 ≤ jM_fr M ∧ jcat r + 13 ≤ jM_lo M) ∧ jev s M Q is lv (.int (if z < y then z else y) :: r) w | _ => False)
        else if b = 776 then (match st with | .long z :: .long y :: r => (1 ≤ jM_fr M ∧ jcat r + 15 ≤ jM_lo M) ∧ jev s M Q is lv (.long (if z < y then z else y) :: r) w | _ => False)
        else jci M a b false false st w (fun v w1 => jev s M Q is lv (v.toList ++ st.drop b) w1)
    | .new idx => if b = 779 then (jcat st + 82 ≤ jM_lo M ∧ 5 < jM_fr M) ∧ Q (.inr a) w else jev s M Q is lv (.ref w.length :: st) (w ++ [.inr (a, jdf a)])
    | .iload_n k => (match jlk lv k.val with | some (.int y) => jev s M Q is lv (.int y :: st) w | _ => False)
    | .iload k => (match jlk lv k with | some (.int y) => jev s M Q is lv (.int y :: st) w | _ => False)
    | .lload_n k => (match jlk lv k.val with | some (.long y) => jev s M Q is lv (.long y :: st) w | _ => False)
    | .lload k => (match jlk lv k with | some (.long y) => jev s M Q is lv (.long y :: st) w | _ => False)
    | .dload k => (match jlk lv k with | some (.double y) => jev s M Q is lv (.double y :: st) w | _ => False)
    | .aload_n k => (match jlk lv k.val with | some (.ref y) => jev s M Q is lv (.ref y :: st) w | some (.retAddr y) => jev s M Q is lv (.retAddr y :: st) w | _ => False)
    | .aload k => (match jlk lv k with | some (.ref y) => jev s M Q is lv (.ref y :: st) w | some (.retAddr y) => jev s M Q is lv (.retAddr y :: st) w | _ => False)
    | .istore_n k => (match st with | .int y :: r => k.val < jM_nl M ∧ jev s M Q is (jup lv k.val (.int y)) r w | _ => False)
    | .istore k => (match st with | .int y :: r => k < jM_nl M ∧ jev s M Q is (jup lv k (.int y)) r w | _ => False)
    | .lstore_n k => (match st with | .long y :: r => k.val + 1 < jM_nl M ∧ jev s M Q is (jup2 lv k.val (.long y)) r w | _ => False)
    | .lstore k => (match st with | .long y :: r => k + 1 < jM_nl M ∧ jev s M Q is (jup2 lv k (.long y)) r w | _ => False)
    | .dstore k => (match st with | .double y :: r => k + 1 < jM_nl M ∧ jev s M Q is (jup2 lv k (.double y)) r w | _ => False)
    | .astore_n k => (match st with | .ref y :: r => k.val < jM_nl M ∧ jev s M Q is (jup lv k.val (.ref y)) r w | _ => False)
    | .astore k => (match st with | .ref y :: r => k < jM_nl M ∧ jev s M Q is (jup lv k (.ref y)) r w | _ => False)
    | .iinc k n => (match jlk lv k with | some (.int y) => k < jM_nl M ∧ jev s M Q is (jup lv k (.int (y + Int32.ofInt n))) st w | _ => False)
    | i => (match jstep s (jM_nl M) i a b [] st w with | some q => jev s M Q is lv q.2.1 q.2.2 | none => False)
def jloc : Instr → Bool := fun i => match i with
  | .iload_n _ => true | .iload _ => true | .lload_n _ => true | .lload _ => true | .dload _ => true | .aload_n _ => true | .aload _ => true
  | .istore_n _ => true | .istore _ => true | .lstore_n _ => true | .lstore _ => true | .dstore _ => true | .astore_n _ => true | .astore _ => true | .iinc _ _ => true
  | _ => false
set_option maxHeartbeats 4000000 in
theorem jstep_loc (s : Option (Nat × (Nat → Int32))) (nl : Nat) (i : Instr) (a b : Nat) (lv : jL) (st : List Value) (w : jW) (h : jloc i = false) : jstep s nl i a b lv st w = (jstep s nl i a b [] st w).map (fun q => (lv, q.2.1, q.2.2)) := by
  cases i <;> first
    | rfl
    | (cases h; done)
    | (simp only [jstep]; (repeat' split) <;> first | rfl | (simp only [Bool.cond_eq_ite]; split <;> rfl) | (simp_all; done))
