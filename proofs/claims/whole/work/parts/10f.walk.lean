/-! the walk: what the pure machine does, the machine does -/
def jtarget (pcs : Nat → Option Nat) (pc : Nat) (off : Int) (t : Nat) : Prop := ∃ t0, pcs t = some t0 ∧ (pc : Int) + off = (t0 : Int)
def jNok (Ts : List Cond) (N : jM) : Prop := jcode N ∈ Ts ∧ Cond.initialized (jM_nm N).cls ∈ Ts ∧ ((jM_nm N).cls ≠ "java/lang/invoke/MethodHandle" ∧ (jM_nm N).cls ≠ "java/lang/invoke/VarHandle")
def jpar (N : jM) (n : Nat) : Prop := (parseMethodDescriptor (jM_nm N).desc).map (fun d => d.parameters.length) = some n
def jVok (Ts : List Cond) (own : String) (idx b : Nat) (N : jM) : Prop := jM_hh N = [] ∧ jNok Ts N ∧ 1 ≤ b ∧ jpar N (b - 1) ∧ Cond.methodLink own idx (jM_nm N) ∈ Ts ∧ Cond.instanceMethod (jM_nm N) ∈ Ts ∧ Cond.selects (jM_nm N).cls (jM_nm N) (jM_nm N) ∈ Ts ∧ ∃ r : vw_C, vwCl[jM_ci N]? = some r ∧ r.1 = (jM_nm N).cls
def jIok (Ts : List Cond) (own : String) (idx b : Nat) (N : jM) : Prop := jM_hh N = [] ∧ jM_rt N = none ∧ jNok Ts N ∧ 1 ≤ b ∧ jpar N (b - 1) ∧ Cond.methodLink own idx (jM_nm N) ∈ Ts ∧ Cond.instanceMethod (jM_nm N) ∈ Ts ∧ (jM_nm N).name = "<init>"
def jSok (Ts NW : List Cond) (own : String) (idx b : Nat) (N : jM) : Prop := jNok Ts N ∧ jpar N b ∧ Cond.static (jM_nm N) ∈ Ts ∧ ((Cond.methodLink own idx (jM_nm N) ∈ Ts) ∨ (jM_hh N = [] ∧ ∃ host, Cond.methodLinkNest own idx (jM_nm N) host ∈ NW))
def jctl : Instr → Bool := fun i => match i with
  | .return_ => true | .ireturn => true | .lreturn => true | .freturn => true | .dreturn => true
  | .nop => true | .goto _ => true | .ifCond _ _ => true | .if_icmp _ _ => true | .tableswitch _ _ _ _ => true | .lookupswitch _ _ => true
  | .invokevirtual _ => true | .invokespecial _ => true | .invokestatic _ => true | .new _ => true
  | _ => false
def jP (mt : List jM) (Ts NW : List Cond) (own : String) (ini : Prop) (M : jM) (pcs : Nat → Option Nat) (Cov : Nat → Prop) (Thr : Nat → Nat → Prop) (pc : Nat) (x : jI) : Prop :=
  (x.1 = .nop ∧ x.2.1 = 0 ∧ pcs x.2.2.1 = some pc) ∨ (¬ x.1 = .nop ∧ decode (jM_by M) pc = .ok (x.1, x.2.1) ∧ match x.1 with
  | .goto off => x.2.1 = 3 ∧ jtarget pcs pc off x.2.2.1
  | .ifCond _ off => x.2.1 = 3 ∧ jtarget pcs pc off x.2.2.1
  | .if_icmp _ off => x.2.1 = 3 ∧ jtarget pcs pc off x.2.2.1
  | .tableswitch d _ _ offs => ∀ ts, (jM_sw M)[x.2.2.1]? = some ts → (∀ t, ts[0]? = some t → jtarget pcs pc d t) ∧ ∀ j t, ts[1 + j]? = some t → ∃ off, offs[j]? = some off ∧ jtarget pcs pc off t
  | .lookupswitch d ps => (ps.toList.zip (ps.toList.drop 1)).all (fun (a, next) => a.1 < next.1) = true ∧ ∀ d0 ts, (jM_sw M)[x.2.2.1]? = some (d0 :: ts) → ∀ z : Int, jtarget pcs pc (Op.lookupswitch.offset ps.toList d z) (jlook ps.toList ts d0 z)
  | .invokevirtual idx => x.2.1 = 3 ∧ (jM_hs M = [] ∨ Cov pc) ∧ ∀ N, mt[x.2.2.1]? = some N → jVok Ts own idx x.2.2.2 N
  | .invokespecial idx => x.2.1 = 3 ∧ (jM_hs M = [] ∨ Cov pc) ∧ (x.2.2.2 = 778 → Cond.methodLink own idx objectInit ∈ Ts ∧ Cond.instanceMethod objectInit ∈ Ts ∧ Cond.code objectInit ⟨#[0xb1]⟩ 1 none ∈ Ts) ∧ (¬ x.2.2.2 = 778 → ∀ N, mt[x.2.2.1]? = some N → jIok Ts own idx x.2.2.2 N)
  | .invokestatic idx => x.2.1 = 3 ∧ (jM_hs M = [] ∨ Cov pc) ∧ (x.2.2.2 = 777 → Cond.methodLink own idx arraycopyName ∈ Ts ∧ Cond.native arraycopyName ∈ Ts ∧ Cond.static arraycopyName ∈ Ts ∧ Cond.initialized "java/lang/System" ∈ Ts) ∧ (x.2.2.2 = 775 → Cond.methodLink own idx Lib.Math.min.name ∈ Ts ∧ Cond.static Lib.Math.min.name ∈ Ts ∧ Cond.initialized "java/lang/Math" ∈ Ts ∧ Cond.code Lib.Math.min.name Lib.Math.min.code 2 (some .int) ∈ Ts) ∧ (x.2.2.2 = 776 → Cond.methodLink own idx Lib.MathLoose.min_long.x ∈ Ts ∧ Cond.static Lib.MathLoose.min_long.x ∈ Ts ∧ Cond.initialized "java/lang/Math" ∈ Ts ∧ Cond.code Lib.MathLoose.min_long.x Lib.MathLoose.min_long.code 4 (some .long) ∈ Ts) ∧ (¬ x.2.2.2 = 777 → ¬ x.2.2.2 = 775 → ¬ x.2.2.2 = 776 → ∀ N, mt[x.2.2.1]? = some N → jSok Ts NW own idx x.2.2.2 N)
  | .new _ => x.2.1 = 3 ∧ (x.2.2.2 = 779 → Thr pc x.2.2.1) ∧ (¬ x.2.2.2 = 779 → jok Ts NW own ini x.1 x.2.2.1 x.2.2.2)
  | .return_ => x.2.1 = 1 | .ireturn => x.2.1 = 1 | .lreturn => x.2.1 = 1 | .freturn => x.2.1 = 1 | .dreturn => x.2.1 = 1
  | i => x.2.1 = jlen i ∧ jok Ts NW own ini i x.2.2.1 x.2.2.2)
def jDec (P : Nat → jI → Prop) : Nat → List jI → Prop
  | _, [] => True
  | pc, x :: t => P pc x ∧ jDec P (pc + x.2.1) t
theorem jbody_plain {mt : List jM} {scr : Option (Nat × (Nat → Int32))} {ih0 ih : jRun} {M : jM} {is : List jI} {i : Instr} {len a b : Nat} {lv : jL} {st : List Value} {w : jW} {x : Nat} (hc : jctl i = false) : jbody mt scr ih0 ih M ((i, len, a, b) :: is) lv st w x = jplain scr ih M is i a b lv st w x := by
  cases i <;> first | rfl | (cases hc)
theorem jP_plain {mt : List jM} {Ts NW : List Cond} {own : String} {ini : Prop} {M : jM} {pcs : Nat → Option Nat} {Cov : Nat → Prop} {Thr : Nat → Nat → Prop} {pc : Nat} {i : Instr} {len a b : Nat} (hc : jctl i = false) (h : jP mt Ts NW own ini M pcs Cov Thr pc (i, len, a, b)) : decode (jM_by M) pc = .ok (i, len) ∧ len = jlen i ∧ jok Ts NW own ini i a b := by
  rcases h with h | ⟨-, h⟩
  · have h1 : i = .nop := h.1
    rw [h1] at hc
    cases hc
  · cases i <;> first | exact h | (cases hc)
def jretI (M : jM) (i : Instr) : Bool := match i, jM_rt M with
  | .return_, none => true
  | .ireturn, some .int => true
  | .ireturn, some .boolean => true
  | .lreturn, some .long => true
  | .freturn, some .float => true
  | .dreturn, some .double => true
  | _, _ => false
def jConS (mt : List jM) (l : Launch) (Ts NW : List Cond) (SR : List (String × Nat × String)) (D : va_G) (dA : Nat → ClassId) (n : Nat) : Prop :=
  ∀ (a : Nat) (N : jM), mt[a]? = some N → ∀ (sb : Option Nat) (as : List Value), jcat as ≤ jM_nl N → ∀ (w : jW) (x : Nat) (r : Option Value ⊕ Nat) (w' : jW) (x' : Nat), jgo (jrun mt n none) N 0 (lv_args 0 as) [] w x = some (r, w', x') →
    ∀ (ads : List Nat) (wsc : va_W) (sz : Nat) (asc : List Value), jWR sb ads dA w wsc → jS sb ads as asc →
    vx_Met l (jM_nm N) (jcode N :: Ts) (jrm N w w' x x') (va_Pc asc (jPre D dA NW SR wsc sz)) (jQ sb dA D ads wsc sz r w') (jX sb dA D ads wsc sz r w') ((w'.length + x') - (w.length + x)) ((jsl w' + 6 * x') - (jsl w + 6 * x)) (va_A wsc sz)
theorem lv_has_tl {ls : Array Slot} {nl : Nat} {q : Nat × Value} {t : jL} (h : lv_has ls nl (q :: t)) : lv_has ls nl t := ⟨h.1, h.2.1, fun z hz => h.2.2 z (List.mem_cons_of_mem _ hz)⟩
theorem jmay_of {M N : jM} {b : Nat} {isV isI : Bool} {st : List Value} {w : jW} (h : jmay M N b isV isI st w = true) : (b ≤ st.length ∧ jcat (st.take b).reverse ≤ jM_nl N) ∧ jcat (st.drop b) ≤ 8 ∧ jM_fr N + 1 ≤ jM_fr M ∧ 8 + (jM_nl N + 11) + jM_lo N ≤ jM_lo M ∧ (isV = true → jrecv (jM_ci N) (st.take b).reverse w = true) ∧ (isI = true → jisref (st.take b).reverse = true) := by
  simp only [jmay, Bool.and_eq_true, Bool.or_eq_true, Bool.not_eq_true', Nat.ble_eq] at h
  obtain ⟨⟨h1, h2, h3, h4⟩, h5, h6⟩ := h
  refine ⟨h1, h2, h3, h4, fun e => ?_, fun e => ?_⟩
  · rcases h5 with h5 | h5
    · rw [e] at h5; cases h5
    · exact h5
  · rcases h6 with h6 | h6
    · rw [e] at h6; cases h6
    · exact h6
theorem jgood_ws {Ts : List Cond} {N : jM} {args : Array Value} {s : State} (hgood : ∀ w ∈ Ts, goodWord w = true) (hts : ∀ w ∈ Ts, w.before args s = true) (hc : jcode N ∈ Ts) : ∀ w ∈ jcode N :: Ts, ∀ (a' : Array Value) (U : State), s.WarmedH U.vm → w.before a' U = true := by
  have hG : GoodIn Ts (jcode N :: Ts) := fun w hw => by
    rcases List.mem_cons.mp hw with rfl | hw
    · exact ⟨hc, good_of_word (hgood _ hc)⟩
    · exact ⟨hw, good_of_word (hgood _ hw)⟩
  exact pay_in hts hG
